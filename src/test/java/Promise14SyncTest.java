/** Promise 14: sync. */
public final class Promise14SyncTest {
    public static void main(String[] args) {
        Cases cases = new Cases("Promise 14, sync");
        cases.check("all of the log is SAFE", Promise14SyncTest::allIsSafe);
        cases.check("how many puts and removes there are in it, idle ones too", Promise14SyncTest::counts);
        cases.check("of an empty log: 0", Promise14SyncTest::empty);
        cases.check("of a full log: 96", Promise14SyncTest::full);
        cases.check("again: as many", Promise14SyncTest::again);
        cases.check("what is STAGED is not in the log", Promise14SyncTest::staged);
        cases.check("what comes to the log behind it is not SAFE", Promise14SyncTest::laterOnes);
        cases.check("nothing else changes", Promise14SyncTest::nothingElse);
        cases.finish();
    }

    private static void allIsSafe(Expect expect) {
        RuleHall hall = expect.hall("b(X):-a(X).");
        expect.commit(hall, "a 1", "a 2");
        expect.commit(hall, "-a 1");
        hall.sync();
        expect.log(hall, 3, 3, 0, 0);
        expect.same("crash", hall.crash(), 2);
        expect.facts(hall, 'a', 2);
        expect.facts(hall, 'b', 2);
    }

    private static void counts(Expect expect) {
        RuleHall hall = expect.hall("b(X):-a(X).");
        expect.commit(hall, "a 1", "a 1", "-a 2");
        expect.same("sync", hall.sync(), 3);
        expect.commit(hall, "a 1");
        expect.same("sync", hall.sync(), 4);
    }

    private static void empty(Expect expect) {
        RuleHall hall = expect.hall("b(X):-a(X).");
        expect.same("at first", hall.sync(), 0);
        expect.commit(hall, "a 1");
        hall.checkpoint();
        expect.same("behind a checkpoint", hall.sync(), 0);
        expect.commit(hall, "a 2");
        hall.crash();
        expect.same("behind a crash", hall.sync(), 0);
    }

    private static void full(Expect expect) {
        RuleHall hall = expect.hall("b(X):-a(X).");
        for (int i = 0; i < 96; i++) {
            if (i == 48) {
                hall.commit();
            }
            expect.yes("put", hall.put(0, i % 12, 0, 0));
        }
        hall.commit();
        expect.same("sync", hall.sync(), 96);
        expect.log(hall, 96, 96, 0, 0);
        expect.same("crash", hall.crash(), 24);
        expect.log(hall, 96, 96, 0, 0);
    }

    private static void again(Expect expect) {
        RuleHall hall = expect.hall("b(X):-a(X).");
        expect.commit(hall, "a 1", "a 2");
        expect.same("sync", hall.sync(), 2);
        expect.same("sync again", hall.sync(), 2);
        hall.crash();
        expect.same("sync behind a crash", hall.sync(), 2);
    }

    private static void staged(Expect expect) {
        RuleHall hall = expect.hall("b(X):-a(X).");
        expect.commit(hall, "a 1");
        expect.yes("put", hall.put(0, 5, 0, 0));
        expect.same("sync", hall.sync(), 1);
        expect.log(hall, 1, 1, 1, 0);
        hall.commit();
        expect.log(hall, 2, 1, 0, 0);
        hall.crash();
        expect.facts(hall, 'a', 1);
    }

    private static void laterOnes(Expect expect) {
        RuleHall hall = expect.hall("b(X):-a(X).");
        expect.commit(hall, "a 1");
        hall.sync();
        expect.commit(hall, "a 2");
        expect.log(hall, 2, 1, 0, 0);
        expect.same("crash", hall.crash(), 2);
        expect.commit(hall, "a 3");
        expect.same("sync", hall.sync(), 2);
        expect.same("crash", hall.crash(), 4);
        expect.facts(hall, 'a', 1, 3);
    }

    private static void nothingElse(Expect expect) {
        RuleHall hall = expect.hall("b(X):-a(X).");
        expect.commit(hall, "a 1");
        hall.checkpoint();
        expect.commit(hall, "a 2");
        expect.yes("put", hall.put(0, 3, 0, 0));
        hall.sync();
        expect.log(hall, 1, 1, 1, 1);
        expect.facts(hall, 'a', 1, 2);
        expect.facts(hall, 'b', 1, 2);
        expect.change(hall, 0, 'a', 2, 1);
        expect.change(hall, 1, 'b', 2, 1);
        expect.noChange(hall, 2);
    }
}
