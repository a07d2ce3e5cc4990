/** Promise 10: holds. */
public final class Promise10HoldsTest {
    private static final int[] NO_CONSTANTS = {-1, 12, 13, 144, 256, Integer.MAX_VALUE, Integer.MIN_VALUE};

    public static void main(String[] args) {
        Cases cases = new Cases("Promise 10, holds");
        cases.check("whether a fact holds, BASE or DERIVED, of each WIDTH", Promise10HoldsTest::ordinary);
        cases.check("facts of the least and the largest numbers", Promise10HoldsTest::edges);
        cases.check("what is beyond the WIDTH does not matter", Promise10HoldsTest::beyondWidth);
        cases.check("what holds is that behind the latest commit", Promise10HoldsTest::latestCommit);
        cases.check("false if p is UNKNOWN or no predicate", Promise10HoldsTest::noPredicate);
        cases.check("false if a constant is none", Promise10HoldsTest::noConstant);
        cases.check("false if a constant is none though its number would be that of a fact that holds", Promise10HoldsTest::wrapRound);
        cases.finish();
    }

    private static void ordinary(Expect expect) {
        RuleHall hall = expect.hall("b(X,Y):-a(X,Y,Z),!c(Z).d(X):-b(X,Y).e:-d(X).");
        expect.commit(hall, "a 1 2 3", "a 4 5 6", "c 6");
        expect.yes("a 1 2 3", hall.holds(0, 1, 2, 3));
        expect.no("a 3 2 1", hall.holds(0, 3, 2, 1));
        expect.no("a 1 2 4", hall.holds(0, 1, 2, 4));
        expect.yes("b 1 2", hall.holds(1, 1, 2, 0));
        expect.no("b 2 1", hall.holds(1, 2, 1, 0));
        expect.no("b 4 5", hall.holds(1, 4, 5, 0));
        expect.yes("c 6", hall.holds(2, 6, 0, 0));
        expect.no("c 5", hall.holds(2, 5, 0, 0));
        expect.yes("d 1", hall.holds(3, 1, 0, 0));
        expect.no("d 4", hall.holds(3, 4, 0, 0));
        expect.yes("e", hall.holds(4, 0, 0, 0));
    }

    private static void edges(Expect expect) {
        RuleHall hall = expect.hall("j(X,Y,Z):-a(X,Y,Z).");
        expect.commit(hall, "a 0 0 0", "a 11 11 11", "a 0 0 11", "a 11 0 0");
        for (int p : new int[] {0, 9}) {
            expect.yes("0 0 0", hall.holds(p, 0, 0, 0));
            expect.yes("11 11 11", hall.holds(p, 11, 11, 11));
            expect.yes("0 0 11", hall.holds(p, 0, 0, 11));
            expect.yes("11 0 0", hall.holds(p, 11, 0, 0));
            expect.no("0 1 0", hall.holds(p, 0, 1, 0));
            expect.no("11 11 10", hall.holds(p, 11, 11, 10));
        }
    }

    private static void beyondWidth(Expect expect) {
        RuleHall hall = expect.hall("b(X,Y):-a(X,Y,Z).d(X):-b(X,Y).e:-d(X).");
        expect.commit(hall, "a 1 2 3");
        for (int any : NO_CONSTANTS) {
            expect.yes("b 1 2", hall.holds(1, 1, 2, any));
            expect.no("b 1 3", hall.holds(1, 1, 3, any));
            expect.yes("d 1", hall.holds(3, 1, any, any));
            expect.yes("e", hall.holds(4, any, any, any));
        }
    }

    private static void latestCommit(Expect expect) {
        RuleHall hall = expect.hall("b(X):-a(X).");
        expect.yes("put", hall.put(0, 1, 0, 0));
        expect.no("a staged fact", hall.holds(0, 1, 0, 0));
        hall.commit();
        expect.yes("a", hall.holds(0, 1, 0, 0));
        expect.yes("b", hall.holds(1, 1, 0, 0));
        expect.yes("remove", hall.remove(0, 1, 0, 0));
        expect.yes("a still", hall.holds(0, 1, 0, 0));
        hall.commit();
        expect.no("a no more", hall.holds(0, 1, 0, 0));
        expect.no("b no more", hall.holds(1, 1, 0, 0));
    }

    private static void noPredicate(Expect expect) {
        RuleHall hall = expect.hall("b:-a.j:-a.");
        expect.commit(hall, "a");
        for (int p : new int[] {2, 8, 10, 11, -1, 256, Integer.MAX_VALUE, Integer.MIN_VALUE}) {
            expect.no("predicate " + p, hall.holds(p, 0, 0, 0));
        }
        expect.yes("j", hall.holds(9, 0, 0, 0));
    }

    private static void noConstant(Expect expect) {
        RuleHall hall = expect.hall("b(X,Y):-a(X,Y,Z).d(X):-b(X,Y).");
        expect.commit(hall, "a 0 0 0", "a 11 11 11");
        for (int wrong : NO_CONSTANTS) {
            expect.no("first of three", hall.holds(0, wrong, 0, 0));
            expect.no("second of three", hall.holds(0, 0, wrong, 0));
            expect.no("third of three", hall.holds(0, 0, 0, wrong));
            expect.no("first of two", hall.holds(1, wrong, 0, 0));
            expect.no("second of two", hall.holds(1, 0, wrong, 0));
            expect.no("the one", hall.holds(3, wrong, 0, 0));
        }
    }

    private static void wrapRound(Expect expect) {
        RuleHall hall = expect.hall("d:-a(1,2,3),b(1,2).");
        expect.commit(hall, "a 1 2 3", "a 0 2 8", "b 1 2", "b 0 8");
        expect.no("b 0 14", hall.holds(1, 0, 14, 0));
        expect.no("b 2 -10", hall.holds(1, 2, -10, 0));
        expect.no("a 1 1 15", hall.holds(0, 1, 1, 15));
        expect.no("a 0 14 3", hall.holds(0, 0, 14, 3));
        // 12 * a is 2^32 + 8 there, and 144 * a 2^32 + 32: the numbers of b 0 8 and a 0 2 8.
        expect.no("b by 2^32", hall.holds(1, 357913942, 0, 0));
        expect.no("a by 2^32", hall.holds(0, 29826162, 0, 0));
    }
}
