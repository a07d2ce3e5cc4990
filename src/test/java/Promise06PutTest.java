/** Promises 6 and 7: put, and remove likewise. */
public final class Promise06PutTest {
    public static void main(String[] args) {
        Expect expect = new Expect();
        stages(expect);
        refuses(expect, true);
        refuses(expect, false);
        limit(expect);
        expect.finish();
    }

    private static void stages(Expect expect) {
        RuleHall hall = expect.hall("d:-a(1,2,3),b(1),c.");
        expect.yes("put", hall.put(0, 11, 0, 11));
        expect.yes("put", hall.put(1, 5, -1, 12));
        expect.yes("put", hall.put(2, 99, -99, Integer.MIN_VALUE));
        expect.log(hall, 0, 0, 3, 0);
        expect.facts(hall, 'a');
        expect.facts(hall, 'b');
        expect.facts(hall, 'c');
        expect.same("commit", hall.commit(), 3);
        expect.facts(hall, 'a', 11 * 144 + 11);
        expect.facts(hall, 'b', 5);
        expect.facts(hall, 'c', 0);
    }

    private static boolean stage(RuleHall hall, boolean puts, int p, int a, int b, int c) {
        return puts ? hall.put(p, a, b, c) : hall.remove(p, a, b, c);
    }

    private static void refuses(Expect expect, boolean puts) {
        RuleHall hall = expect.hall("d:-a(1,2,3),b(1),!c.");
        for (int p : new int[] {3, 4, 9, 10, -1, Integer.MAX_VALUE, Integer.MIN_VALUE}) {
            expect.no("p " + p, stage(hall, puts, p, 0, 0, 0));
        }
        for (int wrong : new int[] {-1, 12, 144, Integer.MAX_VALUE, Integer.MIN_VALUE}) {
            expect.no("a " + wrong, stage(hall, puts, 0, wrong, 0, 0));
            expect.no("b " + wrong, stage(hall, puts, 0, 0, wrong, 0));
            expect.no("c " + wrong, stage(hall, puts, 0, 0, 0, wrong));
            expect.no("of one " + wrong, stage(hall, puts, 1, wrong, 0, 0));
        }
        expect.log(hall, 0, 0, 0, 0);
        expect.yes("base behind !", stage(hall, puts, 2, 0, 0, 0));
    }

    private static void limit(Expect expect) {
        RuleHall hall = expect.hall("b(X):-a(X).");
        for (int i = 0; i < 64; i++) {
            expect.yes("staged " + i, stage(hall, i % 3 != 0, 0, i % 12, 0, 0));
        }
        expect.no("put 65", hall.put(0, 1, 0, 0));
        expect.no("remove 65", hall.remove(0, 1, 0, 0));
        expect.same("log(2)", hall.log(2), 64);
        hall.commit();
        expect.same("log(0)", hall.log(0), 64);
        expect.yes("room again", hall.put(0, 1, 0, 0));
    }
}
