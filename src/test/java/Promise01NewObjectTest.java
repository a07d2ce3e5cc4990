/** Promise 1: a new object. */
public final class Promise01NewObjectTest {
    public static void main(String[] args) {
        Cases cases = new Cases("Promise 1, a new object");
        cases.check("at first there is the empty program", Promise01NewObjectTest::emptyProgram);
        cases.check("at first no fact is there to be staged, to hold or to follow", Promise01NewObjectTest::noFacts);
        cases.check("at first nothing is staged, the log and the checkpoint are empty", Promise01NewObjectTest::emptyLog);
        cases.check("at first no compile() has had a fault", Promise01NewObjectTest::noFault);
        cases.check("at first nothing has changed", Promise01NewObjectTest::noChange);
        cases.check("at first the tape is empty", Promise01NewObjectTest::emptyTape);
        cases.check("two objects have nothing in common", Promise01NewObjectTest::apart);
        cases.check("an object answers up to its 512th call", Promise01NewObjectTest::lastCall);
        cases.check("NONE is -1", expect -> expect.same("NONE", RuleHall.NONE, -1));
        cases.finish();
    }

    private static void emptyProgram(Expect expect) {
        RuleHall hall = new RuleHall();
        for (int p = 0; p < 10; p++) {
            for (int what = 0; what < 4; what++) {
                expect.same("predicate(" + p + ", " + what + ")", hall.predicate(p, what), 0);
            }
        }
    }

    private static void noFacts(Expect expect) {
        RuleHall hall = new RuleHall();
        for (int p = 0; p < 10; p++) {
            expect.no("put", hall.put(p, 0, 0, 0));
            expect.no("remove", hall.remove(p, 0, 0, 0));
            expect.no("holds", hall.holds(p, 0, 0, 0));
            expect.none("fact", hall.fact(p, 0));
            expect.none("derivations", hall.derivations(p, 0, 0, 0));
        }
    }

    private static void emptyLog(Expect expect) {
        RuleHall hall = new RuleHall();
        expect.log(hall, 0, 0, 0, 0);
        expect.same("abort", hall.abort(), 0);
        expect.same("sync", hall.sync(), 0);
        expect.same("checkpoint", hall.checkpoint(), 0);
        expect.same("crash", hall.crash(), 0);
        expect.same("commit", hall.commit(), 0);
    }

    private static void noFault(Expect expect) {
        RuleHall hall = new RuleHall();
        expect.same("fault(0)", hall.fault(0), 0);
        expect.same("fault(1)", hall.fault(1), 0);
    }

    private static void noChange(Expect expect) {
        RuleHall hall = new RuleHall();
        expect.noChange(hall, 0);
        hall.commit();
        hall.crash();
        expect.noChange(hall, 0);
    }

    private static void emptyTape(Expect expect) {
        RuleHall hall = new RuleHall();
        expect.same("compile", hall.compile(), 0);
        hall = new RuleHall();
        expect.yes("all 480 fit", Expect.type(hall, " ".repeat(478) + "a."));
        expect.same("compile", hall.compile(), 1);
    }

    private static void apart(Expect expect) {
        RuleHall one = expect.hall("a(X):-b(X).");
        RuleHall other = new RuleHall();
        expect.commit(one, "b 3");
        expect.yes("put", one.put(1, 4, 0, 0));
        Expect.type(one, "k");
        expect.same("predicate of the other", other.predicate(1, 0), 0);
        expect.log(other, 0, 0, 0, 0);
        expect.noChange(other, 0);
        expect.same("compile of the other", other.compile(), 0);
        expect.facts(one, 'a', 3);
        expect.log(one, 1, 0, 1, 0);
    }

    private static void lastCall(Expect expect) {
        RuleHall hall = new RuleHall();
        Expect.type(hall, "b(X):-a(X).");
        hall.compile();
        for (int call = 4; call < 512; call += 4) {
            int x = call / 4 % 12;
            expect.yes("put", hall.put(0, x, 0, 0));
            expect.same("commit", hall.commit(), call < 52 ? 2 : 0);
            expect.yes("holds", hall.holds(1, x, 0, 0));
            expect.same("checkpoint", hall.checkpoint(), Math.min(12, call / 4));
        }
        expect.same("call 512", hall.crash(), 24);
    }
}
