/** Promise 5: predicate. */
public final class Promise05PredicateTest {
    public static void main(String[] args) {
        Expect expect = new Expect();
        RuleHall hall = expect.hall("b(X,Y):-a(X,Y).b(X,Y):-b(X,Z),a(Z,Y).c(X):-d(X,Y,Z),!b(X,Y).e:-!c(1),!g.f:-e,!c(2).i:-f,j.j:-i.");
        sorts(expect, hall);
        counts(expect, hall);
        wrongInputs(expect, hall);
        strata(expect);
        expect.finish();
    }

    private static void sorts(Expect expect, RuleHall hall) {
        int[] sort = {1, 2, 2, 1, 2, 2, 1, 0, 2, 2};
        int[] width = {2, 2, 1, 3, 0, 0, 0, 0, 0, 0};
        int[] stratum = {0, 1, 2, 0, 3, 3, 0, 0, 3, 3};
        for (int p = 0; p < 10; p++) {
            expect.same("sort of " + p, hall.predicate(p, 0), sort[p]);
            expect.same("width of " + p, hall.predicate(p, 1), width[p]);
            expect.same("stratum of " + p, hall.predicate(p, 2), stratum[p]);
        }
    }

    private static void counts(Expect expect, RuleHall hall) {
        int[] first = {0, 0, 0, 0, 1, 1, 0, 0, 0, 0};
        int[] then = {2, 3, 1, 2, 0, 1, 1, 0, 0, 0};
        for (int p = 0; p < 10; p++) {
            expect.same("facts of " + p, hall.predicate(p, 3), first[p]);
        }
        expect.commit(hall, "a 1 2", "a 2 3", "d 1 3 5", "d 1 5 5", "g");
        then[5] = 0;
        for (int p = 0; p < 10; p++) {
            expect.same("facts of " + p, hall.predicate(p, 3), then[p]);
        }
    }

    private static void wrongInputs(Expect expect, RuleHall hall) {
        for (int wrong : new int[] {-1, 10, 26, Integer.MAX_VALUE, Integer.MIN_VALUE}) {
            for (int what = -1; what < 5; what++) {
                expect.same("predicate(" + wrong + ", " + what + ")", hall.predicate(wrong, what), RuleHall.NONE);
            }
        }
        for (int what : new int[] {-1, 4, 5, Integer.MAX_VALUE, Integer.MIN_VALUE}) {
            expect.same("predicate(0, " + what + ")", hall.predicate(0, what), RuleHall.NONE);
            expect.same("predicate(7, " + what + ")", hall.predicate(7, what), RuleHall.NONE);
        }
    }

    private static void strata(Expect expect) {
        // The longest chain there is, with each rule ahead of those that it needs.
        RuleHall hall = expect.hall("a:-!b.b:-!c.c:-!d.d:-!e.e:-!f.f:-!g.g:-!h.h:-!i.i:-!j.");
        for (int p = 0; p < 10; p++) {
            expect.same("stratum of " + p, hall.predicate(p, 2), 9 - p);
        }
        hall = expect.hall("a:-!b.b:-!c.c:-!d.d:-!e.e:-!f.f:-!g.g:-!h.h:-!i.i:-!j.j:-j.");
        for (int p = 0; p < 10; p++) {
            expect.same("stratum of " + p, hall.predicate(p, 2), 10 - p);
            expect.same("facts of " + p, hall.predicate(p, 3), 1 - p % 2);
        }
        hall = expect.hall("a:-b.b:-c.c:-d.d:-!e.e:-f.a:-e.");
        int[] stratum = {2, 2, 2, 2, 1, 0};
        for (int p = 0; p < stratum.length; p++) {
            expect.same("stratum of " + p, hall.predicate(p, 2), stratum[p]);
        }
        hall = expect.hall("a(1).b:-!c.");
        expect.same("stratum of a fact", hall.predicate(0, 2), 1);
        expect.same("stratum above a base one", hall.predicate(1, 2), 1);
    }
}
