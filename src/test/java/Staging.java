/** What put and remove have in common: the cases of promise 6, which promise 7 has likewise. */
final class Staging {
    private static final int[] NO_CONSTANTS = {-1, 12, 13, 144, 256, Integer.MAX_VALUE, Integer.MIN_VALUE};

    private final boolean puts;

    Staging(boolean puts) {
        this.puts = puts;
    }

    void addTo(Cases cases) {
        cases.check("a fact is STAGED: true", this::stages);
        cases.check("what is STAGED changes nothing that holds", this::waits);
        cases.check("constants 0 and 11 are taken at each place", this::edges);
        cases.check("what is beyond the WIDTH does not matter", this::beyondWidth);
        cases.check("a predicate that is behind ! alone is BASE too", this::behindNot);
        cases.check("false if p is DERIVED", expect -> refuses(expect, 3, 4));
        cases.check("false if p is UNKNOWN", expect -> refuses(expect, 5, 9));
        cases.check("false if p is no predicate", expect -> refuses(expect, -1, 10, 256, Integer.MAX_VALUE, Integer.MIN_VALUE));
        cases.check("false if a constant is none", this::noConstants);
        cases.check("false if a constant is none though its number would wrap round to a fact's", this::wrapRound);
        cases.check("the 64th is STAGED", this::takes64);
        cases.check("false if 64 are STAGED", this::refuses65);
        cases.check("a call that is refused does not count among the 64", this::refusedDoNotCount);
        cases.check("there is room again behind abort(), commit(), crash() and a program", this::roomAgain);
    }

    private boolean stage(RuleHall hall, int p, int a, int b, int c) {
        return puts ? hall.put(p, a, b, c) : hall.remove(p, a, b, c);
    }

    private static RuleHall hall(Expect expect) {
        return expect.hall("d:-a(1,2,3),b(1,2),c(1).e(X):-c(X).");
    }

    /** A hall in which what is staged will be a change: facts are there if they are to be removed. */
    private RuleHall ready(Expect expect, String... facts) {
        RuleHall hall = hall(expect);
        if (!puts) {
            expect.commit(hall, facts);
            hall.checkpoint();
        }
        return hall;
    }

    private void stages(Expect expect) {
        RuleHall hall = ready(expect, "a 1 2 3", "b 4 5", "c 6");
        expect.yes("of three", stage(hall, 0, 1, 2, 3));
        expect.yes("of two", stage(hall, 1, 4, 5, 0));
        expect.yes("of one", stage(hall, 2, 6, 0, 0));
        expect.same("log(2)", hall.log(2), 3);
        expect.same("commit", hall.commit(), 4);
        expect.same("a", hall.holds(0, 1, 2, 3) ? 1 : 0, puts ? 1 : 0);
        expect.same("b", hall.holds(1, 4, 5, 0) ? 1 : 0, puts ? 1 : 0);
        expect.same("c", hall.holds(2, 6, 0, 0) ? 1 : 0, puts ? 1 : 0);
        expect.same("e", hall.holds(4, 6, 0, 0) ? 1 : 0, puts ? 1 : 0);
    }

    private void waits(Expect expect) {
        RuleHall hall = ready(expect, "c 6");
        expect.yes("stage", stage(hall, 2, 6, 0, 0));
        expect.same("c", hall.holds(2, 6, 0, 0) ? 1 : 0, puts ? 0 : 1);
        expect.same("e", hall.holds(4, 6, 0, 0) ? 1 : 0, puts ? 0 : 1);
        expect.same("facts of c", hall.predicate(2, 3), puts ? 0 : 1);
        expect.same("derivations of e", hall.derivations(4, 6, 0, 0), puts ? 0 : 1);
        expect.same("log(0)", hall.log(0), 0);
    }

    private void edges(Expect expect) {
        for (int[] f : new int[][] {{0, 0, 0}, {11, 0, 0}, {0, 11, 0}, {0, 0, 11}, {11, 11, 11}}) {
            RuleHall hall = ready(expect, "a " + f[0] + " " + f[1] + " " + f[2]);
            expect.yes("stage", stage(hall, 0, f[0], f[1], f[2]));
            expect.same("commit", hall.commit(), 1);
            expect.same("number", hall.changed(0, 1), f[0] * 144 + f[1] * 12 + f[2]);
        }
    }

    private void beyondWidth(Expect expect) {
        RuleHall hall = expect.hall("e:-b(1,2),c(1),d.");
        if (!puts) {
            expect.commit(hall, "b 11 7", "c 5", "d");
        }
        expect.yes("of two", stage(hall, 1, 11, 7, 12));
        expect.yes("of one", stage(hall, 2, 5, -1, Integer.MAX_VALUE));
        expect.yes("of none", stage(hall, 3, Integer.MIN_VALUE, 99, -99));
        expect.same("commit", hall.commit(), 3);
        expect.change(hall, 0, 'b', 139, puts ? 1 : 0);
        expect.change(hall, 1, 'c', 5, puts ? 1 : 0);
        expect.change(hall, 2, 'd', 0, puts ? 1 : 0);
    }

    private void behindNot(Expect expect) {
        RuleHall hall = expect.hall("a:-!b.");
        expect.yes("stage", stage(hall, 1, 0, 0, 0));
        expect.same("commit", hall.commit(), puts ? 2 : 0);
    }

    private void refuses(Expect expect, int... predicates) {
        RuleHall hall = hall(expect);
        for (int p : predicates) {
            expect.no("p " + p, stage(hall, p, 0, 0, 0));
            expect.no("p " + p, stage(hall, p, 1, 1, 1));
        }
        expect.same("log(2)", hall.log(2), 0);
    }

    private void noConstants(Expect expect) {
        RuleHall hall = hall(expect);
        for (int wrong : NO_CONSTANTS) {
            expect.no("first of three " + wrong, stage(hall, 0, wrong, 0, 0));
            expect.no("second of three " + wrong, stage(hall, 0, 0, wrong, 0));
            expect.no("third of three " + wrong, stage(hall, 0, 0, 0, wrong));
            expect.no("first of two " + wrong, stage(hall, 1, wrong, 0, 0));
            expect.no("second of two " + wrong, stage(hall, 1, 0, wrong, 0));
            expect.no("the one " + wrong, stage(hall, 2, wrong, 0, 0));
        }
        expect.same("log(2)", hall.log(2), 0);
    }

    private void wrapRound(Expect expect) {
        RuleHall hall = hall(expect);
        // 12 * a is 2^32 + 8 there, and 144 * a 2^32 + 32.
        expect.no("of two", stage(hall, 1, 357913942, 0, 0));
        expect.no("of three", stage(hall, 0, 29826162, 0, 0));
        expect.no("of three", stage(hall, 0, 0, 357913942, 0));
        expect.no("a number that is a fact's", stage(hall, 1, 0, 14, 0));
        expect.no("a number that is a fact's", stage(hall, 1, 2, -10, 0));
        expect.no("a number that is a fact's", stage(hall, 0, 1, -1, 12));
        expect.same("log(2)", hall.log(2), 0);
    }

    private void fill(Expect expect, RuleHall hall, int n) {
        for (int i = 0; i < n; i++) {
            expect.yes("stage " + i, stage(hall, 2, i % 12, 0, 0));
        }
    }

    private void takes64(Expect expect) {
        RuleHall hall = ready(expect, "a 1 2 3");
        fill(expect, hall, 63);
        expect.yes("the 64th", stage(hall, 0, 1, 2, 3));
        expect.same("log(2)", hall.log(2), 64);
        hall.commit();
        expect.same("the 64th is done", hall.holds(0, 1, 2, 3) ? 1 : 0, puts ? 1 : 0);
        expect.same("log(0)", hall.log(0), 64);
    }

    private void refuses65(Expect expect) {
        RuleHall hall = ready(expect, "a 1 2 3");
        fill(expect, hall, 64);
        expect.no("the 65th", stage(hall, 0, 1, 2, 3));
        expect.no("again", stage(hall, 0, 1, 2, 3));
        expect.same("log(2)", hall.log(2), 64);
        hall.commit();
        expect.same("the 65th is not done", hall.holds(0, 1, 2, 3) ? 1 : 0, puts ? 0 : 1);
        expect.same("log(0)", hall.log(0), 64);
        // Puts and removes share the 64.
        hall = hall(expect);
        for (int i = 0; i < 64; i++) {
            expect.yes("stage " + i, i % 2 == 0 ? hall.put(2, 1, 0, 0) : hall.remove(2, 1, 0, 0));
        }
        expect.no("the 65th", stage(hall, 2, 1, 0, 0));
    }

    private void refusedDoNotCount(Expect expect) {
        RuleHall hall = hall(expect);
        fill(expect, hall, 63);
        expect.no("derived", stage(hall, 3, 0, 0, 0));
        expect.no("unknown", stage(hall, 9, 0, 0, 0));
        expect.no("no constant", stage(hall, 2, 12, 0, 0));
        expect.same("log(2)", hall.log(2), 63);
        expect.yes("the 64th", stage(hall, 2, 1, 0, 0));
    }

    private void roomAgain(Expect expect) {
        RuleHall hall = hall(expect);
        for (int i = 0; i < 4; i++) {
            fill(expect, hall, 64);
            expect.no("the 65th", stage(hall, 2, 1, 0, 0));
            if (i == 0) {
                hall.abort();
            } else if (i == 1) {
                hall.commit();
            } else if (i == 2) {
                hall.crash();
            } else {
                expect.takes(hall, "e(X):-c(X).");
            }
            expect.same("log(2)", hall.log(2), 0);
        }
        fill(expect, hall, 64);
    }
}
