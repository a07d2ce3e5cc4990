/** Promise 17: log. */
public final class Promise17LogTest {
    public static void main(String[] args) {
        Cases cases = new Cases("Promise 17, log");
        cases.check("what 0: how many puts and removes are in the log", Promise17LogTest::logged);
        cases.check("what 1: SAFE ones of these", Promise17LogTest::safe);
        cases.check("what 2: STAGED ones", Promise17LogTest::staged);
        cases.check("what 3: facts in the checkpoint", Promise17LogTest::saved);
        cases.check("all of them empty", Promise17LogTest::empty);
        cases.check("all of them full: 96, 96, 64 and what the checkpoint has", Promise17LogTest::full);
        cases.check("NONE for another what", Promise17LogTest::otherWhat);
        cases.finish();
    }

    private static void logged(Expect expect) {
        RuleHall hall = expect.hall("b(X):-a(X).");
        expect.commit(hall, "a 1", "-a 1", "-a 7");
        expect.same("with idle ones", hall.log(0), 3);
        expect.commit(hall, "a 1");
        expect.same("of two commits", hall.log(0), 4);
        hall.commit();
        expect.same("behind a commit of none", hall.log(0), 4);
        hall.sync();
        expect.same("behind sync()", hall.log(0), 4);
        hall.checkpoint();
        expect.same("behind a checkpoint", hall.log(0), 0);
        expect.commit(hall, "a 2");
        hall.crash();
        expect.same("behind a crash", hall.log(0), 0);
    }

    private static void safe(Expect expect) {
        RuleHall hall = expect.hall("b(X):-a(X).");
        expect.commit(hall, "a 1", "a 2");
        expect.same("ahead of sync()", hall.log(1), 0);
        hall.sync();
        expect.same("behind sync()", hall.log(1), 2);
        expect.commit(hall, "a 3");
        expect.same("behind a commit", hall.log(1), 2);
        hall.crash();
        expect.same("behind a crash", hall.log(1), 2);
        hall.checkpoint();
        expect.same("behind a checkpoint", hall.log(1), 0);
    }

    private static void staged(Expect expect) {
        RuleHall hall = expect.hall("b(X):-a(X).");
        expect.yes("put", hall.put(0, 1, 0, 0));
        expect.yes("remove", hall.remove(0, 2, 0, 0));
        expect.no("put", hall.put(1, 1, 0, 0));
        expect.log(hall, 0, 0, 2, 0);
        hall.sync();
        hall.checkpoint();
        expect.log(hall, 0, 0, 2, 0);
        hall.commit();
        expect.log(hall, 2, 0, 0, 0);
        expect.yes("put", hall.put(0, 1, 0, 0));
        hall.abort();
        expect.same("behind abort()", hall.log(2), 0);
        expect.yes("put", hall.put(0, 1, 0, 0));
        hall.crash();
        expect.same("behind a crash", hall.log(2), 0);
    }

    private static void saved(Expect expect) {
        RuleHall hall = expect.hall("b(X):-a(X).c(X,Y):-d(X,Y).e(1).");
        expect.commit(hall, "a 1", "d 1 1", "d 1 2");
        expect.same("ahead of a checkpoint", hall.log(3), 0);
        hall.checkpoint();
        expect.same("behind it", hall.log(3), 3);
        expect.commit(hall, "-a 1", "-d 1 1");
        hall.sync();
        expect.same("behind a commit", hall.log(3), 3);
        hall.crash();
        expect.same("behind a crash", hall.log(3), 3);
        hall.checkpoint();
        expect.same("behind another one", hall.log(3), 1);
    }

    private static void empty(Expect expect) {
        expect.log(new RuleHall(), 0, 0, 0, 0);
        expect.log(expect.hall("a.b:-!c."), 0, 0, 0, 0);
    }

    private static void full(Expect expect) {
        RuleHall hall = expect.hall("b(X):-a(X).");
        expect.commit(hall, "a 0", "a 1", "a 2", "a 3", "a 4", "a 5", "a 6", "a 7", "a 8", "a 9", "a 10", "a 11");
        hall.checkpoint();
        for (int i = 0; i < 160; i++) {
            if (i == 64 || i == 96) {
                hall.commit();
            }
            expect.yes("put", hall.put(0, i % 12, 0, 0));
        }
        hall.sync();
        expect.log(hall, 96, 96, 64, 12);
        expect.no("put", hall.put(0, 1, 0, 0));
        expect.yes("commit throws", Expect.throwsAtCommit(hall));
        expect.log(hall, 96, 96, 64, 12);
    }

    private static void otherWhat(Expect expect) {
        RuleHall hall = expect.hall("b(X):-a(X).");
        expect.commit(hall, "a 1");
        for (int what : new int[] {-1, 4, 5, 256, Integer.MAX_VALUE, Integer.MIN_VALUE}) {
            expect.none("log(" + what + ")", hall.log(what));
        }
    }
}
