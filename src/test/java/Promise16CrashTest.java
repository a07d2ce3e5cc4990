/** Promise 16: crash. */
public final class Promise16CrashTest {
    public static void main(String[] args) {
        Cases cases = new Cases("Promise 16, crash");
        cases.check("leaves nothing where nothing is SAFE", Promise16CrashTest::nothingSafe);
        cases.check("leaves what the checkpoint has", Promise16CrashTest::checkpointStays);
        cases.check("leaves what of the log is SAFE, in its order", Promise16CrashTest::safeStays);
        cases.check("leaves the checkpoint and what of the log is SAFE behind it", Promise16CrashTest::bothStay);
        cases.check("a SAFE remove takes away what the checkpoint has", Promise16CrashTest::safeRemove);
        cases.check("leaves nothing STAGED", Promise16CrashTest::nothingStaged);
        cases.check("the log has what is SAFE alone, and goes on behind it", Promise16CrashTest::logGoesOn);
        cases.check("how many facts hold then, BASE and DERIVED", Promise16CrashTest::counts);
        cases.check("DERIVED facts are those that follow then", Promise16CrashTest::derivedAnew);
        cases.check("a crash behind a crash changes nothing", Promise16CrashTest::twice);
        cases.check("where all is SAFE it changes nothing", Promise16CrashTest::allSafe);
        cases.check("removes that are not SAFE are lost as puts are", Promise16CrashTest::lostRemoves);
        cases.check("of a full log", Promise16CrashTest::fullLog);
        cases.check("the program stays", Promise16CrashTest::programStays);
        cases.finish();
    }

    private static void nothingSafe(Expect expect) {
        RuleHall hall = expect.hall("b(X):-a(X),!c(X).");
        expect.commit(hall, "a 1", "a 2", "c 3");
        expect.same("crash", hall.crash(), 0);
        expect.log(hall, 0, 0, 0, 0);
        expect.facts(hall, 'a');
        expect.facts(hall, 'b');
        expect.facts(hall, 'c');
    }

    private static void checkpointStays(Expect expect) {
        RuleHall hall = expect.hall("b(X):-a(X),!c(X).");
        expect.commit(hall, "a 1", "a 2", "c 2");
        hall.checkpoint();
        expect.commit(hall, "a 3", "-a 1", "-c 2");
        expect.same("crash", hall.crash(), 4);
        expect.log(hall, 0, 0, 0, 3);
        expect.facts(hall, 'a', 1, 2);
        expect.facts(hall, 'b', 1);
        expect.facts(hall, 'c', 2);
    }

    private static void safeStays(Expect expect) {
        RuleHall hall = expect.hall("b(X):-a(X).");
        expect.commit(hall, "a 1", "a 2", "-a 1", "a 3", "-a 3", "a 3");
        hall.sync();
        expect.commit(hall, "a 4", "-a 2");
        expect.same("crash", hall.crash(), 4);
        expect.log(hall, 6, 6, 0, 0);
        expect.facts(hall, 'a', 2, 3);
    }

    private static void bothStay(Expect expect) {
        RuleHall hall = expect.hall("b(X):-a(X),!c(X).");
        expect.commit(hall, "a 1", "a 2", "a 3");
        hall.checkpoint();
        expect.commit(hall, "c 1", "-a 2", "a 4");
        hall.sync();
        expect.commit(hall, "-c 1", "c 4", "a 2");
        expect.log(hall, 6, 3, 0, 3);
        expect.same("crash", hall.crash(), 6);
        expect.log(hall, 3, 3, 0, 3);
        expect.facts(hall, 'a', 1, 3, 4);
        expect.facts(hall, 'b', 3, 4);
        expect.facts(hall, 'c', 1);
    }

    private static void safeRemove(Expect expect) {
        RuleHall hall = expect.hall("b(X):-a(X).");
        expect.commit(hall, "a 1", "a 2");
        hall.checkpoint();
        expect.commit(hall, "-a 1");
        hall.sync();
        expect.same("crash", hall.crash(), 2);
        expect.facts(hall, 'a', 2);
        expect.log(hall, 1, 1, 0, 2);
        // The checkpoint itself has it still: what is in the log is done anew by each crash.
        expect.commit(hall, "a 1");
        expect.same("crash", hall.crash(), 2);
        expect.facts(hall, 'a', 2);
    }

    private static void nothingStaged(Expect expect) {
        RuleHall hall = expect.hall("b(X):-a(X).");
        expect.yes("put", hall.put(0, 5, 0, 0));
        expect.yes("put", hall.put(0, 6, 0, 0));
        expect.same("crash", hall.crash(), 0);
        expect.same("log(2)", hall.log(2), 0);
        expect.same("abort", hall.abort(), 0);
        expect.same("commit", hall.commit(), 0);
        expect.facts(hall, 'a');
    }

    private static void logGoesOn(Expect expect) {
        RuleHall hall = expect.hall("b(X):-a(X).");
        expect.commit(hall, "a 1", "a 2");
        hall.sync();
        expect.commit(hall, "a 3", "a 4", "a 5");
        hall.crash();
        expect.log(hall, 2, 2, 0, 0);
        expect.commit(hall, "-a 1");
        expect.log(hall, 3, 2, 0, 0);
        hall.sync();
        expect.same("crash", hall.crash(), 2);
        expect.facts(hall, 'a', 2);
        expect.log(hall, 3, 3, 0, 0);
    }

    private static void counts(Expect expect) {
        RuleHall hall = expect.hall("b(X,Y):-a(X),a(Y).c:-!a(0).d(5).");
        expect.same("without facts of a", hall.crash(), 2);
        expect.commit(hall, "a 1", "a 2", "a 11");
        hall.sync();
        expect.same("crash", hall.crash(), 3 + 9 + 1 + 1);
        expect.commit(hall, "a 0");
        hall.sync();
        expect.same("crash", hall.crash(), 4 + 16 + 1);
    }

    private static void derivedAnew(Expect expect) {
        RuleHall hall = expect.hall("b(X,Y):-a(X,Y).b(X,Y):-b(X,Z),b(Z,Y).c(X):-b(X,Y),!b(Y,X).");
        expect.commit(hall, "a 1 2", "a 2 3");
        hall.checkpoint();
        expect.commit(hall, "a 3 1");
        expect.facts(hall, 'c');
        expect.same("crash", hall.crash(), 2 + 3 + 2);
        expect.facts(hall, 'b', 14, 15, 27);
        expect.facts(hall, 'c', 1, 2);
        expect.same("derivations", hall.derivations(1, 1, 3, 0), 1);
    }

    private static void twice(Expect expect) {
        RuleHall hall = expect.hall("b(X):-a(X).");
        expect.commit(hall, "a 1");
        hall.checkpoint();
        expect.commit(hall, "a 2");
        hall.sync();
        expect.commit(hall, "a 3");
        for (int i = 0; i < 3; i++) {
            expect.same("crash", hall.crash(), 4);
            expect.log(hall, 1, 1, 0, 1);
            expect.facts(hall, 'a', 1, 2);
        }
        expect.noChange(hall, 0);
    }

    private static void allSafe(Expect expect) {
        RuleHall hall = expect.hall("b(X):-a(X).");
        expect.commit(hall, "a 1", "a 2");
        hall.sync();
        expect.same("crash", hall.crash(), 4);
        expect.noChange(hall, 0);
        hall.checkpoint();
        expect.same("crash", hall.crash(), 4);
        expect.noChange(hall, 0);
        expect.facts(hall, 'b', 1, 2);
    }

    private static void lostRemoves(Expect expect) {
        RuleHall hall = expect.hall("b(X):-a(X).");
        expect.commit(hall, "a 1", "a 2");
        hall.sync();
        expect.commit(hall, "-a 1", "-a 2");
        expect.facts(hall, 'a');
        expect.same("crash", hall.crash(), 4);
        expect.facts(hall, 'a', 1, 2);
    }

    private static void fullLog(Expect expect) {
        RuleHall hall = expect.hall("b(X):-a(X).");
        for (int i = 0; i < 96; i++) {
            if (i == 64) {
                hall.commit();
            }
            expect.yes("stage", i == 95 ? hall.remove(0, 11, 0, 0) : hall.put(0, i % 12, 0, 0));
        }
        hall.commit();
        hall.sync();
        expect.same("crash", hall.crash(), 22);
        expect.log(hall, 96, 96, 0, 0);
        expect.no("the last one is done too", hall.holds(0, 11, 0, 0));
    }

    private static void programStays(Expect expect) {
        RuleHall hall = expect.hall("b(X):-a(X),!c(X).d:-!b(1).");
        expect.refuses(hall, "a", 1, 1);
        hall.crash();
        expect.same("sort", hall.predicate(1, 0), 2);
        expect.same("stratum", hall.predicate(3, 2), 2);
        expect.same("fault(0)", hall.fault(0), 1);
        expect.facts(hall, 'd', 0);
        expect.same("commit", expect.commit(hall, "a 1"), 3);
    }
}
