/** Promise 11: fact. */
public final class Promise11FactTest {
    public static void main(String[] args) {
        Expect expect = new Expect();
        RuleHall hall = expect.hall("e(X,Y,Z):-a(Z,Y,X).f(X):-b(X,Y).g:-c(X),!d.");
        expect.commit(hall, "a 11 11 11", "a 0 0 0", "a 2 1 0", "a 0 1 5", "b 3 4", "b 4 3", "b 0 11", "c 11", "c 0", "c 7", "d");
        expect.facts(hall, 'a', 0, 17, 300, 1727);
        expect.facts(hall, 'b', 11, 40, 51);
        expect.facts(hall, 'c', 0, 7, 11);
        expect.facts(hall, 'd', 0);
        expect.facts(hall, 'e', 0, 14, 732, 1727);
        expect.facts(hall, 'f', 0, 3, 4);
        expect.facts(hall, 'g');
        expect.facts(hall, 'h');
        for (int k : new int[] {-1, 4, 1728, Integer.MAX_VALUE, Integer.MIN_VALUE}) {
            expect.same("fact(0, " + k + ")", hall.fact(0, k), RuleHall.NONE);
        }
        for (int p : new int[] {-1, 10, Integer.MAX_VALUE, Integer.MIN_VALUE}) {
            expect.same("fact(" + p + ", 0)", hall.fact(p, 0), RuleHall.NONE);
        }
        expect.finish();
    }
}
