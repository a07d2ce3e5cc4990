/** Promise 11: fact. */
public final class Promise11FactTest {
    public static void main(String[] args) {
        Cases cases = new Cases("Promise 11, fact");
        cases.check("in the order of the numbers (12 * a + b) * 12 + c", Promise11FactTest::ofThree);
        cases.check("of WIDTH 2 the number is 12 * a + b, of 1 a, of 0 it is 0", Promise11FactTest::ofLess);
        cases.check("of DERIVED predicates too", Promise11FactTest::ofDerived);
        cases.check("all 1728, 144 and 12 facts of full predicates, from 0 on", Promise11FactTest::full);
        cases.check("the numbers close up where facts go", Promise11FactTest::closeUp);
        cases.check("NONE for k below 0", expect -> outOfReach(expect, -1, -2, Integer.MIN_VALUE));
        cases.check("NONE for k from the count on", expect -> outOfReach(expect, 3, 4, 12, 1728, 256, Integer.MAX_VALUE));
        cases.check("NONE if no fact of it holds", Promise11FactTest::noFacts);
        cases.check("NONE if p is UNKNOWN or no predicate", Promise11FactTest::noPredicate);
        cases.finish();
    }

    private static void ofThree(Expect expect) {
        RuleHall hall = expect.hall("b:-a(1,1,1).");
        expect.commit(hall, "a 11 11 11", "a 2 1 0", "a 0 0 0", "a 0 1 5", "a 1 2 0", "a 0 11 11");
        expect.facts(hall, 'a', 0, 17, 143, 168, 300, 1727);
    }

    private static void ofLess(Expect expect) {
        RuleHall hall = expect.hall("e:-b(1,1),c(1),d.");
        expect.commit(hall, "b 3 4", "b 4 3", "b 0 11", "b 11 11", "b 0 0", "c 11", "c 0", "c 7", "d");
        expect.facts(hall, 'b', 0, 11, 40, 51, 143);
        expect.facts(hall, 'c', 0, 7, 11);
        expect.facts(hall, 'd', 0);
    }

    private static void ofDerived(Expect expect) {
        RuleHall hall = expect.hall("e(X,Y,Z):-a(Z,Y,X).f(X):-a(X,Y,Z).g:-f(X),!d.");
        expect.commit(hall, "a 11 11 11", "a 0 0 0", "a 2 1 0", "a 0 1 5");
        expect.facts(hall, 'e', 0, 14, 732, 1727);
        expect.facts(hall, 'f', 0, 2, 11);
        expect.facts(hall, 'g', 0);
        expect.commit(hall, "d");
        expect.facts(hall, 'g');
    }

    private static void full(Expect expect) {
        int[] count = {12, 144, 1728};
        for (int p = 0; p < 3; p++) {
            for (int from = 0; from < count[p]; from += 480) {
                RuleHall hall = expect.hall("b(X,Y):-a(X),a(Y).c(X,Y,Z):-b(X,Y),a(Z).");
                expect.commit(hall, "a 0", "a 1", "a 2", "a 3", "a 4", "a 5", "a 6", "a 7", "a 8", "a 9", "a 10", "a 11");
                for (int k = from; k < Math.min(from + 480, count[p]); k++) {
                    expect.same("fact(" + p + ", " + k + ")", hall.fact(p, k), k);
                }
                expect.none("fact(" + p + ", " + count[p] + ")", hall.fact(p, count[p]));
            }
        }
    }

    private static void closeUp(Expect expect) {
        RuleHall hall = expect.hall("b(X):-a(X).");
        expect.commit(hall, "a 3", "a 5", "a 9");
        expect.commit(hall, "-a 5");
        expect.facts(hall, 'a', 3, 9);
        expect.facts(hall, 'b', 3, 9);
        expect.commit(hall, "-a 3", "a 0", "a 11");
        expect.facts(hall, 'a', 0, 9, 11);
        expect.facts(hall, 'b', 0, 9, 11);
    }

    private static void outOfReach(Expect expect, int... wrong) {
        RuleHall hall = expect.hall("b(X):-a(X,Y,Z).");
        expect.commit(hall, "a 0 0 0", "a 1 1 1", "a 11 11 11");
        for (int k : wrong) {
            expect.none("fact(0, " + k + ")", hall.fact(0, k));
            expect.none("fact(1, " + k + ")", hall.fact(1, k));
        }
        expect.same("the last one", hall.fact(0, 2), 1727);
    }

    private static void noFacts(Expect expect) {
        RuleHall hall = expect.hall("b(X):-a(X).c:-d.");
        for (int p = 0; p < 4; p++) {
            expect.none("fact(" + p + ", 0)", hall.fact(p, 0));
        }
        expect.yes("put", hall.put(0, 1, 0, 0));
        expect.none("a staged fact", hall.fact(0, 0));
    }

    private static void noPredicate(Expect expect) {
        RuleHall hall = expect.hall("b:-a.j:-a.");
        expect.commit(hall, "a");
        for (int p : new int[] {2, 8, -1, 10, 256, Integer.MAX_VALUE, Integer.MIN_VALUE}) {
            for (int k : new int[] {-1, 0, 1}) {
                expect.none("fact(" + p + ", " + k + ")", hall.fact(p, k));
            }
        }
        expect.same("fact of j", hall.fact(9, 0), 0);
    }
}
