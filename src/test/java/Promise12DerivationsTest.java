/** Promise 12: derivations. */
public final class Promise12DerivationsTest {
    public static void main(String[] args) {
        Expect expect = new Expect();
        counts(expect);
        heads(expect);
        recursion(expect);
        wrongInputs(expect);
        expect.finish();
    }

    private static void counts(Expect expect) {
        RuleHall hall = expect.hall("a(X):-b(X,Y),b(Y,Z),!c(Z),X#Z.a(X):-b(X,Y).a(X):-b(X,Y).a(3).");
        expect.same("without facts", hall.derivations(0, 1, 0, 0), 0);
        expect.same("of a written fact", hall.derivations(0, 3, 0, 0), 1);
        expect.commit(hall, "b 1 2", "b 1 3", "b 2 4", "b 3 4", "b 3 5", "b 3 1", "c 5");
        expect.same("of 1", hall.derivations(0, 1, 0, 0), 2 + 2 * 2);
        // By 3, 1, 2; 3, 1, 3 is not so, as X # Z.
        expect.same("of 3", hall.derivations(0, 3, 0, 0), 1 + 2 * 3 + 1);
        expect.same("of 5", hall.derivations(0, 5, 0, 0), 0);
        expect.commit(hall, "-c 5");
        expect.same("of 1", hall.derivations(0, 1, 0, 0), 3 + 2 * 2);
    }

    private static void heads(Expect expect) {
        RuleHall hall = expect.hall("a(X,X,1):-b(X,Y).a(X,Y,2):-b(X,Y).a(X,Y,Z):-b(X,Y),b(Y,Z).c:-b(X,Y).c:-!d.");
        expect.commit(hall, "b 1 1", "b 1 2", "b 2 1");
        expect.same("1 1 1", hall.derivations(0, 1, 1, 1), 2 + 1);
        expect.same("1 2 1", hall.derivations(0, 1, 2, 1), 1);
        expect.same("1 1 2", hall.derivations(0, 1, 1, 2), 1 + 1);
        expect.same("2 2 1", hall.derivations(0, 2, 2, 1), 1);
        expect.same("2 2 2", hall.derivations(0, 2, 2, 2), 0);
        expect.same("c", hall.derivations(2, 0, 0, 0), 4);
        // The bindings of one count are not left to the next one.
        expect.same("1 1 1 again", hall.derivations(0, 1, 1, 1), 3);
        expect.commit(hall, "d");
        expect.same("c", hall.derivations(2, 0, 0, 0), 3);
        expect.same("facts of a", hall.predicate(0, 3), 7);
    }

    private static void recursion(Expect expect) {
        RuleHall hall = expect.hall("a(X,Y):-b(X,Y).a(X,Y):-a(X,Z),a(Z,Y).");
        expect.commit(hall, "b 0 1", "b 1 2", "b 2 0");
        for (int x = 0; x < 3; x++) {
            for (int y = 0; y < 3; y++) {
                expect.same("a " + x + " " + y, hall.derivations(0, x, y, 0), 3 + (y == (x + 1) % 3 ? 1 : 0));
            }
        }
        // A fact can be among those that it follows from, if it holds.
        hall = expect.hall("a:-a.a:-b.");
        expect.same("a, which does not hold", hall.derivations(0, 0, 0, 0), 0);
        expect.commit(hall, "b");
        expect.same("a, which holds", hall.derivations(0, 0, 0, 0), 2);
    }

    private static void wrongInputs(Expect expect) {
        RuleHall hall = expect.hall("a(X,Y):-b(X,Y).c:-b(1,1).");
        expect.commit(hall, "b 1 1");
        expect.same("of a base one", hall.derivations(1, 1, 1, 0), RuleHall.NONE);
        expect.same("of an unknown one", hall.derivations(3, 1, 1, 0), RuleHall.NONE);
        expect.same("beyond the width", hall.derivations(0, 1, 1, 12), 1);
        expect.same("beyond no width", hall.derivations(2, -1, 12, 99), 1);
        for (int wrong : new int[] {-1, 12, Integer.MAX_VALUE, Integer.MIN_VALUE}) {
            expect.same("a", hall.derivations(0, wrong, 1, 0), RuleHall.NONE);
            expect.same("b", hall.derivations(0, 1, wrong, 0), RuleHall.NONE);
        }
        for (int p : new int[] {-1, 10, Integer.MAX_VALUE, Integer.MIN_VALUE}) {
            expect.same("p", hall.derivations(p, 1, 1, 0), RuleHall.NONE);
        }
    }
}
