/** Promise 13: changed. */
public final class Promise13ChangedTest {
    private static final String RULES = "a(X):-d(X),!c(X).b(X,Y):-d(X),c(Y).e(9).";

    public static void main(String[] args) {
        Cases cases = new Cases("Promise 13, changed");
        cases.check("by predicates and numbers, from 0 on", Promise13ChangedTest::order);
        cases.check("what 2: 1 if it holds now, else 0", Promise13ChangedTest::nowOrNot);
        cases.check("a fact that comes and goes in one commit has not changed", Promise13ChangedTest::comesAndGoes);
        cases.check("behind a commit() that changes nothing there is none", Promise13ChangedTest::idleCommit);
        cases.check("the latest crash() has changes too", Promise13ChangedTest::byCrash);
        cases.check("behind a crash() that changes nothing there is none", Promise13ChangedTest::idleCrash);
        cases.check("none behind a program that was taken", Promise13ChangedTest::byProgram);
        cases.check("they stay behind all other calls", Promise13ChangedTest::stay);
        cases.check("they stay behind a compile() and a commit() that throw", Promise13ChangedTest::stayBehindThrows);
        cases.check("as many as all facts that there are", Promise13ChangedTest::most);
        cases.check("NONE for k below 0", expect -> outOfReach(expect, -1, -2, -8, Integer.MIN_VALUE));
        cases.check("NONE for k from their number on", expect -> outOfReach(expect, 6, 7, 256, 17280, Integer.MAX_VALUE));
        cases.check("NONE for another what", Promise13ChangedTest::otherWhat);
        cases.finish();
    }

    /** A hall whose latest commit has changed six facts. */
    private static RuleHall changed(Expect expect) {
        RuleHall hall = expect.hall(RULES);
        expect.same("commit", expect.commit(hall, "d 3", "d 1", "c 1"), 6);
        return hall;
    }

    private static void isStillChanged(Expect expect, RuleHall hall) {
        expect.change(hall, 0, 'a', 3, 1);
        expect.change(hall, 5, 'd', 3, 1);
        expect.noChange(hall, 6);
    }

    private static void order(Expect expect) {
        RuleHall hall = changed(expect);
        expect.change(hall, 0, 'a', 3, 1);
        expect.change(hall, 1, 'b', 13, 1);
        expect.change(hall, 2, 'b', 37, 1);
        expect.change(hall, 3, 'c', 1, 1);
        expect.change(hall, 4, 'd', 1, 1);
        expect.change(hall, 5, 'd', 3, 1);
        expect.noChange(hall, 6);
        hall = expect.hall("j(X,Y,Z):-a(X,Y,Z).");
        expect.commit(hall, "a 11 11 11", "a 0 0 0", "a 1 0 0", "a 0 11 11");
        int[] numbers = {0, 143, 144, 1727};
        for (int k = 0; k < 8; k++) {
            expect.change(hall, k, k < 4 ? 'a' : 'j', numbers[k % 4], 1);
        }
        expect.noChange(hall, 8);
    }

    private static void nowOrNot(Expect expect) {
        RuleHall hall = changed(expect);
        expect.same("commit", expect.commit(hall, "-c 1", "c 3", "d 1"), 8);
        expect.change(hall, 0, 'a', 1, 1);
        expect.change(hall, 1, 'a', 3, 0);
        expect.change(hall, 2, 'b', 13, 0);
        expect.change(hall, 3, 'b', 15, 1);
        expect.change(hall, 4, 'b', 37, 0);
        expect.change(hall, 5, 'b', 39, 1);
        expect.change(hall, 6, 'c', 1, 0);
        expect.change(hall, 7, 'c', 3, 1);
        expect.noChange(hall, 8);
    }

    private static void comesAndGoes(Expect expect) {
        RuleHall hall = changed(expect);
        expect.same("commit", expect.commit(hall, "d 7", "-d 7", "-d 3", "d 3", "c 5"), 3);
        expect.change(hall, 0, 'b', 17, 1);
        expect.change(hall, 1, 'b', 41, 1);
        expect.change(hall, 2, 'c', 5, 1);
        expect.noChange(hall, 3);
    }

    private static void idleCommit(Expect expect) {
        RuleHall hall = changed(expect);
        expect.same("with nothing staged", hall.commit(), 0);
        expect.noChange(hall, 0);
        hall = changed(expect);
        expect.same("of what is so already", expect.commit(hall, "d 3", "-d 9"), 0);
        expect.noChange(hall, 0);
    }

    private static void byCrash(Expect expect) {
        RuleHall hall = expect.hall(RULES);
        expect.commit(hall, "d 3", "d 1", "c 3");
        hall.sync();
        expect.commit(hall, "d 5", "-c 3");
        expect.same("crash", hall.crash(), 2 + 1 + 1 + 2 + 1);
        expect.change(hall, 0, 'a', 3, 0);
        expect.change(hall, 1, 'a', 5, 0);
        expect.change(hall, 2, 'b', 15, 1);
        expect.change(hall, 3, 'b', 39, 1);
        expect.change(hall, 4, 'c', 3, 1);
        expect.change(hall, 5, 'd', 5, 0);
        expect.noChange(hall, 6);
    }

    private static void idleCrash(Expect expect) {
        RuleHall hall = changed(expect);
        hall.sync();
        hall.crash();
        expect.noChange(hall, 0);
        hall = changed(expect);
        hall.checkpoint();
        hall.crash();
        expect.noChange(hall, 0);
        hall = changed(expect);
        hall.crash();
        expect.change(hall, 5, 'd', 3, 0);
        hall.crash();
        expect.noChange(hall, 0);
    }

    private static void byProgram(Expect expect) {
        RuleHall hall = changed(expect);
        expect.takes(hall, "a(1).b(X):-a(X).");
        expect.noChange(hall, 0);
        hall = changed(expect);
        expect.takes(hall, RULES);
        expect.noChange(hall, 0);
        hall = changed(expect);
        expect.takes(hall, "");
        expect.noChange(hall, 0);
    }

    private static void stay(Expect expect) {
        RuleHall hall = changed(expect);
        expect.yes("put", hall.put(3, 7, 0, 0));
        expect.yes("remove", hall.remove(3, 3, 0, 0));
        isStillChanged(expect, hall);
        hall.abort();
        hall.sync();
        hall.checkpoint();
        isStillChanged(expect, hall);
        Expect.type(hall, "a.");
        hall.derivations(0, 3, 0, 0);
        hall.fact(0, 0);
        hall.changed(3, 1);
        isStillChanged(expect, hall);
    }

    private static void stayBehindThrows(Expect expect) {
        RuleHall hall = changed(expect);
        for (String text : new String[] {"a", "a.a(1).", "a.".repeat(17), "a(X).", "a:-!a."}) {
            expect.yes("type", Expect.type(hall, text));
            expect.yes("compile throws", Expect.throwsAtCompile(hall));
            isStillChanged(expect, hall);
        }
        hall = expect.hall(RULES);
        for (int i = 0; i < 60; i++) {
            expect.yes("remove", hall.remove(3, 3, 0, 0));
        }
        hall.commit();
        expect.commit(hall, "d 3", "d 1", "c 1");
        for (int i = 0; i < 64; i++) {
            expect.yes("remove", hall.remove(3, 3, 0, 0));
        }
        expect.yes("commit throws", Expect.throwsAtCommit(hall));
        isStillChanged(expect, hall);
    }

    private static void most(Expect expect) {
        RuleHall hall = expect.hall("b(X,Y,Z):-a(X),a(Y),a(Z).c(X,Y,Z):-b(X,Y,Z).d(X,Y,Z):-b(X,Y,Z).e(X,Y,Z):-b(X,Y,Z)."
            + "f(X,Y,Z):-b(X,Y,Z).g(X,Y,Z):-b(X,Y,Z).h(X,Y,Z):-b(X,Y,Z).i(X,Y,Z):-b(X,Y,Z).j(X,Y,Z):-b(X,Y,Z).");
        int all = 12 + 9 * 1728;
        expect.same("commit", expect.commit(hall, "a 0", "a 1", "a 2", "a 3", "a 4", "a 5", "a 6", "a 7", "a 8", "a 9", "a 10", "a 11"), all);
        expect.change(hall, 0, 'a', 0, 1);
        expect.change(hall, 11, 'a', 11, 1);
        expect.change(hall, 12, 'b', 0, 1);
        expect.change(hall, 12 + 1727, 'b', 1727, 1);
        expect.change(hall, 12 + 1728, 'c', 0, 1);
        expect.change(hall, all - 1, 'j', 1727, 1);
        expect.noChange(hall, all);
        expect.same("crash", hall.crash(), 0);
        expect.change(hall, all - 1, 'j', 1727, 0);
        expect.noChange(hall, all);
    }

    private static void outOfReach(Expect expect, int... wrong) {
        RuleHall hall = changed(expect);
        for (int k : wrong) {
            expect.noChange(hall, k);
        }
        isStillChanged(expect, hall);
    }

    private static void otherWhat(Expect expect) {
        RuleHall hall = changed(expect);
        for (int what : new int[] {-1, 3, 4, 256, Integer.MAX_VALUE, Integer.MIN_VALUE}) {
            for (int k = -1; k < 7; k++) {
                expect.none("changed(" + k + ", " + what + ")", hall.changed(k, what));
            }
        }
    }
}
