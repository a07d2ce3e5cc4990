/** Promise 5: predicate. */
public final class Promise05PredicateTest {
    private static final int[] NO_PREDICATES = {-1, 10, 26, 97, 266, Integer.MAX_VALUE, Integer.MIN_VALUE};

    public static void main(String[] args) {
        Cases cases = new Cases("Promise 5, predicate");
        cases.check("what 0: 0 UNKNOWN, 1 BASE, 2 DERIVED", Promise05PredicateTest::sorts);
        cases.check("what 1: its WIDTH, from 0 to 3", Promise05PredicateTest::widths);
        cases.check("what 2: its stratum, 0 of BASE ones, from 1 on of DERIVED ones", Promise05PredicateTest::lowestStrata);
        cases.check("strata: not below those of the predicates in the BODY", Promise05PredicateTest::notBelow);
        cases.check("strata: above those of the predicates behind !", Promise05PredicateTest::above);
        cases.check("strata: the least numbers, in whatever order the rules stand", Promise05PredicateTest::leastStrata);
        cases.check("strata: as many as there are predicates", Promise05PredicateTest::tallest);
        cases.check("what 3: how many of its facts hold", Promise05PredicateTest::counts);
        cases.check("what 3: up to all that there are", Promise05PredicateTest::fullCounts);
        cases.check("0 to 3: 0 if it is UNKNOWN", Promise05PredicateTest::unknown);
        cases.check("NONE if there is none such", Promise05PredicateTest::noSuch);
        cases.check("NONE for another what", Promise05PredicateTest::otherWhat);
        cases.finish();
    }

    private static void row(Expect expect, String text, int what, int... due) {
        RuleHall hall = expect.hall(text);
        for (int p = 0; p < due.length; p++) {
            expect.same("predicate(" + p + ", " + what + ") of " + text, hall.predicate(p, what), due[p]);
        }
    }

    private static void sorts(Expect expect) {
        row(expect, "b(X):-a(X),!c(X).d.", 0, 1, 2, 1, 2, 0, 0, 0, 0, 0, 0);
        // A HEAD makes it DERIVED wherever else it stands, ahead of or behind that.
        row(expect, "b:-a.a:-c.", 0, 2, 2, 1, 0);
        row(expect, "a:-c.b:-a.", 0, 2, 2, 1, 0);
        row(expect, "a:-a.", 0, 2, 0);
        row(expect, "j:-!i.", 0, 0, 0, 0, 0, 0, 0, 0, 0, 1, 2);
    }

    private static void widths(Expect expect) {
        row(expect, "a.b(1).c(1,2).d(1,2,3).", 1, 0, 1, 2, 3, 0);
        row(expect, "a:-b(1),c(1,2),!d(1,2,3),e.", 1, 0, 1, 2, 3, 0, 0);
    }

    private static void lowestStrata(Expect expect) {
        row(expect, "b:-a.c.d:-!e.", 2, 0, 1, 1, 1, 0, 0);
        row(expect, "a:-a.", 2, 1);
        row(expect, "a:-1=1.", 2, 1);
    }

    private static void notBelow(Expect expect) {
        row(expect, "a:-b.b:-c.c:-!d.d.", 2, 2, 2, 2, 1);
        row(expect, "a:-b.b:-a.a:-!c.c:-e.", 2, 2, 2, 1, 0, 0);
    }

    private static void above(Expect expect) {
        row(expect, "a:-!b.b:-c.", 2, 2, 1, 0);
        row(expect, "a:-!b,c.b.c:-!d.d:-!e.e.", 2, 3, 1, 3, 2, 1);
        row(expect, "a:-!b.", 2, 1, 0);
    }

    private static void leastStrata(Expect expect) {
        row(expect, "a:-b.b:-c.c:-d.d:-!e.e:-f.a:-e.", 2, 2, 2, 2, 2, 1, 0);
        row(expect, "a:-e.e:-f.d:-!e.c:-d.b:-c.a:-b.", 2, 2, 2, 2, 2, 1, 0);
        row(expect, "b(X,Y):-a(X,Y).b(X,Y):-b(X,Z),a(Z,Y).c(X):-d(X,Y,Z),!b(X,Y).e:-!c(1),!g.f:-e,!c(2).i:-f,j.j:-i.",
            2, 0, 1, 2, 0, 3, 3, 0, 0, 3, 3);
    }

    private static void tallest(Expect expect) {
        String chain = "a:-!b.b:-!c.c:-!d.d:-!e.e:-!f.f:-!g.g:-!h.h:-!i.i:-!j.";
        row(expect, chain, 2, 9, 8, 7, 6, 5, 4, 3, 2, 1, 0);
        row(expect, chain + "j:-j.", 2, 10, 9, 8, 7, 6, 5, 4, 3, 2, 1);
        row(expect, chain + "j:-j.", 3, 1, 0, 1, 0, 1, 0, 1, 0, 1, 0);
        row(expect, "j:-!i.i:-!h.h:-!g.g:-!f.f:-!e.e:-!d.d:-!c.c:-!b.b:-!a.a:-a.", 2, 1, 2, 3, 4, 5, 6, 7, 8, 9, 10);
    }

    private static void counts(Expect expect) {
        RuleHall hall = expect.hall("b(X):-a(X,Y).c:-b(X).d:-!c.");
        int[][] due = {{0, 0, 0, 1}, {3, 2, 1, 0}, {1, 1, 1, 0}, {0, 0, 0, 1}};
        String[][] steps = {{}, {"a 1 1", "a 1 2", "a 2 2"}, {"-a 1 1", "-a 1 2"}, {"-a 2 2"}};
        for (int i = 0; i < due.length; i++) {
            expect.commit(hall, steps[i]);
            for (int p = 0; p < 4; p++) {
                expect.same("facts of " + p, hall.predicate(p, 3), due[i][p]);
            }
        }
        expect.yes("put", hall.put(0, 1, 1, 0));
        expect.same("what is staged does not hold", hall.predicate(0, 3), 0);
    }

    private static void fullCounts(Expect expect) {
        RuleHall hall = expect.hall("b(X,Y):-a(X),a(Y).c(X,Y,Z):-b(X,Y),a(Z).d:-a(X).");
        for (int c = 0; c < 12; c++) {
            expect.yes("put", hall.put(0, c, 0, 0));
        }
        expect.same("commit", hall.commit(), 12 + 144 + 1728 + 1);
        int[] due = {12, 144, 1728, 1};
        for (int p = 0; p < 4; p++) {
            expect.same("facts of " + p, hall.predicate(p, 3), due[p]);
        }
    }

    private static void unknown(Expect expect) {
        RuleHall hall = expect.hall("a(1,2,3).c(X):-d(X),!a(X,X,X).");
        for (int p : new int[] {1, 4, 5, 6, 7, 8, 9}) {
            for (int what = 0; what < 4; what++) {
                expect.same("predicate(" + p + ", " + what + ")", hall.predicate(p, what), 0);
            }
        }
    }

    private static void noSuch(Expect expect) {
        for (String text : new String[] {"", "a(1).j(1,2)."}) {
            RuleHall hall = expect.hall(text);
            for (int p : NO_PREDICATES) {
                for (int what = -1; what < 5; what++) {
                    expect.none("predicate(" + p + ", " + what + ")", hall.predicate(p, what));
                }
            }
        }
    }

    private static void otherWhat(Expect expect) {
        RuleHall hall = expect.hall("a(1).b(X):-c(X).");
        for (int what : new int[] {-1, 4, 5, 256, Integer.MAX_VALUE, Integer.MIN_VALUE}) {
            for (int p = 0; p < 10; p++) {
                expect.none("predicate(" + p + ", " + what + ")", hall.predicate(p, what));
            }
        }
    }
}
