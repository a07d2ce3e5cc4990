/** Promise 3: compile. */
public final class Promise03CompileTest {
    /** A text for each fault. */
    private static final String[] FAULTY = {"k.", "a.a(1).", "a:-b,b,b,b,b,b.", "a(X).", "a:-!a."};

    public static void main(String[] args) {
        Cases cases = new Cases("Promise 3, compile");
        cases.check("how many rules", Promise03CompileTest::countsRules);
        cases.check("a program of no rules: 0", Promise03CompileTest::noRules);
        cases.check("a program of 16 rules: 16", Promise03CompileTest::sixteenRules);
        cases.check("a program as long as the tape", Promise03CompileTest::fullTape);
        cases.check("the tape is empty behind a program that is taken", Promise03CompileTest::emptyBehindProgram);
        cases.check("the tape is empty behind a fault", Promise03CompileTest::emptyBehindFault);
        for (int f = 1; f <= FAULTY.length; f++) {
            int fault = f;
            cases.check("IllegalArgumentException for fault " + f + ": all stays as it is", expect -> faultLeavesAll(expect, fault));
        }
        cases.check("a fault leaves the first, empty program", Promise03CompileTest::faultAtFirst);
        cases.check("a program that is taken leaves no facts", Promise03CompileTest::noFactsLeft);
        cases.check("a program that is taken leaves an empty log, of which nothing is SAFE", Promise03CompileTest::noLogLeft);
        cases.check("a program that is taken leaves an empty checkpoint", Promise03CompileTest::noCheckpointLeft);
        cases.check("a program that is taken leaves nothing STAGED", Promise03CompileTest::nothingStagedLeft);
        cases.check("the same program, taken again, empties all too", Promise03CompileTest::sameAgain);
        cases.check("the empty program empties all too", Promise03CompileTest::emptyTakesAll);
        cases.check("what follows from no fact holds at once", Promise03CompileTest::holdsAtOnce);
        cases.check("predicates are what the new program says alone", Promise03CompileTest::newPredicates);
        cases.check("a text leaves nothing to a later one, be it taken or not", Promise03CompileTest::textsApart);
        cases.finish();
    }

    private static void compiles(Expect expect, RuleHall hall, String text, int rules) {
        expect.yes("type " + text, Expect.type(hall, text));
        expect.same("compile " + text, hall.compile(), rules);
    }

    private static void countsRules(Expect expect) {
        compiles(expect, new RuleHall(), "a.", 1);
        compiles(expect, new RuleHall(), " a . b :- ! c . ", 2);
        compiles(expect, new RuleHall(), "a(0,11,X):-b(X),X<11.", 1);
        compiles(expect, new RuleHall(), "a.a.a:-b,b.", 3);
    }

    private static void noRules(Expect expect) {
        expect.same("compile", new RuleHall().compile(), 0);
        compiles(expect, new RuleHall(), " ", 0);
        compiles(expect, new RuleHall(), " ".repeat(480), 0);
    }

    private static void sixteenRules(Expect expect) {
        compiles(expect, new RuleHall(), "a.".repeat(16), 16);
        compiles(expect, new RuleHall(), "a:-b,c,d,e,f.".repeat(16), 16);
    }

    private static void fullTape(Expect expect) {
        RuleHall hall = new RuleHall();
        String rule = "a(A,B,C):-b(A,B,C),!c(A),B<C. ";
        compiles(expect, hall, rule.repeat(16), 16);
        expect.commit(hall, "b 1 2 3");
        expect.same("derivations", hall.derivations(0, 1, 2, 3), 16);
    }

    private static void emptyBehindProgram(Expect expect) {
        RuleHall hall = expect.hall("a.b.");
        expect.same("compile again", hall.compile(), 0);
        expect.same("the empty program", hall.predicate(0, 0), 0);
        compiles(expect, hall, "c.", 1);
        expect.same("a is unknown", hall.predicate(0, 0), 0);
    }

    private static void emptyBehindFault(Expect expect) {
        for (String text : FAULTY) {
            RuleHall hall = new RuleHall();
            expect.yes("type", Expect.type(hall, text));
            expect.yes("compile throws", Expect.throwsAtCompile(hall));
            expect.same("compile behind a fault", hall.compile(), 0);
            expect.same("fault(0)", hall.fault(0), 0);
        }
    }

    /** A hall in which nothing is as in a new one. */
    private static RuleHall busy(Expect expect) {
        RuleHall hall = expect.hall("b(X):-a(X),!c(X).d(7).");
        expect.commit(hall, "a 1", "a 2", "c 2");
        hall.checkpoint();
        expect.commit(hall, "a 5", "-a 1");
        hall.sync();
        expect.commit(hall, "c 9");
        expect.commit(hall, "a 1");
        expect.yes("put", hall.put(0, 11, 0, 0));
        return hall;
    }

    private static void faultLeavesAll(Expect expect, int fault) {
        RuleHall hall = busy(expect);
        expect.yes("type", Expect.type(hall, FAULTY[fault - 1]));
        expect.yes("compile throws", Expect.throwsAtCompile(hall));
        expect.same("fault(0)", hall.fault(0), fault);
        expect.facts(hall, 'a', 1, 2, 5);
        expect.facts(hall, 'b', 1, 5);
        expect.facts(hall, 'c', 2, 9);
        expect.facts(hall, 'd', 7);
        int[] sort = {1, 2, 1, 2, 0, 0, 0, 0, 0, 0};
        for (int p = 0; p < 10; p++) {
            expect.same("sort", hall.predicate(p, 0), sort[p]);
            expect.same("width", hall.predicate(p, 1), p < 4 ? 1 : 0);
            expect.same("stratum", hall.predicate(p, 2), sort[p] == 2 ? 1 : 0);
        }
        expect.same("derivations", hall.derivations(1, 5, 0, 0), 1);
        expect.log(hall, 4, 2, 1, 3);
        expect.change(hall, 0, 'a', 1, 1);
        expect.change(hall, 1, 'b', 1, 1);
        expect.noChange(hall, 2);
        expect.same("commit of what was staged", hall.commit(), 2);
        expect.facts(hall, 'b', 1, 5, 11);
        expect.same("crash", hall.crash(), 2 + 1 + 1 + 1);
        expect.facts(hall, 'a', 2, 5);
        expect.facts(hall, 'b', 5);
    }

    private static void faultAtFirst(Expect expect) {
        for (int f = 1; f <= FAULTY.length; f++) {
            RuleHall hall = new RuleHall();
            expect.yes("type", Expect.type(hall, FAULTY[f - 1]));
            expect.yes("compile throws", Expect.throwsAtCompile(hall));
            expect.same("a is unknown", hall.predicate(0, 0), 0);
            expect.no("put", hall.put(1, 0, 0, 0));
        }
    }

    private static void noFactsLeft(Expect expect) {
        RuleHall hall = busy(expect);
        expect.takes(hall, "e(X):-a(X),b(X),c(X),d(X).");
        for (char p = 'a'; p <= 'e'; p++) {
            expect.facts(hall, p);
        }
        expect.noChange(hall, 0);
    }

    private static void noLogLeft(Expect expect) {
        RuleHall hall = busy(expect);
        hall.sync();
        expect.takes(hall, "b(X):-a(X),!c(X).d(7).");
        expect.same("log(0)", hall.log(0), 0);
        expect.same("log(1)", hall.log(1), 0);
        expect.same("crash", hall.crash(), 1);
        expect.facts(hall, 'a');
    }

    private static void noCheckpointLeft(Expect expect) {
        RuleHall hall = busy(expect);
        hall.checkpoint();
        expect.takes(hall, "b(X):-a(X),!c(X).d(7).");
        expect.same("log(3)", hall.log(3), 0);
        expect.same("crash", hall.crash(), 1);
        expect.facts(hall, 'a');
    }

    private static void nothingStagedLeft(Expect expect) {
        RuleHall hall = busy(expect);
        expect.takes(hall, "b(X):-a(X),!c(X).d(7).");
        expect.same("log(2)", hall.log(2), 0);
        expect.same("commit", hall.commit(), 0);
        expect.facts(hall, 'a');
    }

    private static void sameAgain(Expect expect) {
        RuleHall hall = busy(expect);
        expect.takes(hall, "b(X):-a(X),!c(X).d(7).");
        expect.log(hall, 0, 0, 0, 0);
        expect.facts(hall, 'a');
        expect.facts(hall, 'b');
        expect.facts(hall, 'c');
        expect.facts(hall, 'd', 7);
        expect.noChange(hall, 0);
        expect.same("commit", expect.commit(hall, "a 3"), 2);
    }

    private static void emptyTakesAll(Expect expect) {
        RuleHall hall = busy(expect);
        expect.same("compile", hall.compile(), 0);
        expect.log(hall, 0, 0, 0, 0);
        for (int p = 0; p < 10; p++) {
            for (int what = 0; what < 4; what++) {
                expect.same("predicate(" + p + ", " + what + ")", hall.predicate(p, what), 0);
            }
            expect.none("fact", hall.fact(p, 0));
        }
        expect.same("crash", hall.crash(), 0);
        expect.noChange(hall, 0);
    }

    private static void holdsAtOnce(Expect expect) {
        RuleHall hall = expect.hall("a(3).b(X):-a(X).c:-!d.e:-1<2.f:-2<1.g:-!c.");
        expect.facts(hall, 'a', 3);
        expect.facts(hall, 'b', 3);
        expect.facts(hall, 'c', 0);
        expect.facts(hall, 'e', 0);
        expect.facts(hall, 'f');
        expect.facts(hall, 'g');
        expect.noChange(hall, 0);
        expect.same("they are no change of a commit", hall.commit(), 0);
        expect.same("they are there behind a crash", hall.crash(), 4);
    }

    private static void newPredicates(Expect expect) {
        RuleHall hall = expect.hall("a(X,Y):-b(X,Y),!c(X).d:-!a(1,1).");
        expect.takes(hall, "c(X):-a(X).");
        int[] sort = {1, 0, 2, 0};
        int[] width = {1, 0, 1, 0};
        int[] stratum = {0, 0, 1, 0};
        for (int p = 0; p < 4; p++) {
            expect.same("sort of " + p, hall.predicate(p, 0), sort[p]);
            expect.same("width of " + p, hall.predicate(p, 1), width[p]);
            expect.same("stratum of " + p, hall.predicate(p, 2), stratum[p]);
        }
    }

    /** Long and wide texts, and short ones behind them. */
    private static void textsApart(Expect expect) {
        RuleHall hall = new RuleHall();
        String[] texts = {"a(1,2,3).b(1,2,3):-!c(1,2,3),X=Y,d(X,Y,Z),!b(1,2,3).", "a(X,Y,Z):-b(X,Y,Z),!c(X,Y,Z).d(X):-e(X).",
            "a(1,2,3):-b(1,2),!c(1).d:-!a(1,2,3).e:-!d.k", "e(X,Y,Z):-d(X,Y,Z),!c(X).c(1).f:-!e(1,1,1)."};
        for (int i = 0; i < 8; i++) {
            expect.yes("type", Expect.type(hall, texts[i % 4]));
            expect.same("compile throws", Expect.throwsAtCompile(hall) ? 1 : 0, i % 2 == 0 ? 1 : 0);
            expect.takes(hall, "a:-b.c.");
            int[] sort = {2, 1, 2, 0, 0, 0};
            for (int p = 0; p < 6; p++) {
                expect.same("sort of " + p, hall.predicate(p, 0), sort[p]);
                expect.same("width of " + p, hall.predicate(p, 1), 0);
                expect.same("stratum of " + p, hall.predicate(p, 2), sort[p] == 2 ? 1 : 0);
            }
            expect.facts(hall, 'c', 0);
            expect.same("commit", expect.commit(hall, "b"), 2);
        }
    }
}
