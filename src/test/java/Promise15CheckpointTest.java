/** Promise 15: checkpoint. */
public final class Promise15CheckpointTest {
    public static void main(String[] args) {
        Cases cases = new Cases("Promise 15, checkpoint");
        cases.check("keeps all BASE facts that hold, SAFE", Promise15CheckpointTest::keeps);
        cases.check("how many facts it has: BASE ones alone", Promise15CheckpointTest::baseAlone);
        cases.check("where no fact holds: 0", Promise15CheckpointTest::empty);
        cases.check("empties the log, of which nothing is SAFE then", Promise15CheckpointTest::emptiesLog);
        cases.check("empties a full log", Promise15CheckpointTest::emptiesFullLog);
        cases.check("has what holds, not what an earlier one had", Promise15CheckpointTest::notTheEarlier);
        cases.check("again: the same", Promise15CheckpointTest::again);
        cases.check("what is STAGED stays STAGED and is not in it", Promise15CheckpointTest::staged);
        cases.check("all facts of a predicate, in many transactions", Promise15CheckpointTest::many);
        cases.check("what holds and what has changed stay", Promise15CheckpointTest::nothingElse);
        cases.finish();
    }

    private static void keeps(Expect expect) {
        RuleHall hall = expect.hall("b(X):-a(X).d:-c(X,Y,Z),!f.");
        expect.commit(hall, "a 1", "a 0", "c 1 2 3", "c 11 11 11", "f");
        hall.checkpoint();
        expect.same("crash", hall.crash(), 7);
        expect.facts(hall, 'a', 0, 1);
        expect.facts(hall, 'b', 0, 1);
        expect.facts(hall, 'c', 171, 1727);
        expect.facts(hall, 'd');
        expect.facts(hall, 'f', 0);
    }

    private static void baseAlone(Expect expect) {
        RuleHall hall = expect.hall("b(X):-a(X).d:-c(X,Y,Z).e(1).");
        expect.same("derived ones alone hold", hall.checkpoint(), 0);
        expect.commit(hall, "a 1", "a 2", "c 1 2 3", "-a 2", "a 1");
        expect.same("checkpoint", hall.checkpoint(), 2);
        expect.same("log(3)", hall.log(3), 2);
        expect.same("crash", hall.crash(), 5);
        expect.facts(hall, 'e', 1);
    }

    private static void empty(Expect expect) {
        RuleHall hall = expect.hall("b(X):-a(X).");
        expect.same("at first", hall.checkpoint(), 0);
        expect.commit(hall, "a 1");
        hall.checkpoint();
        expect.commit(hall, "-a 1");
        expect.same("when all are gone", hall.checkpoint(), 0);
        expect.log(hall, 0, 0, 0, 0);
        expect.same("crash", hall.crash(), 0);
        expect.same("of an empty program", new RuleHall().checkpoint(), 0);
    }

    private static void emptiesLog(Expect expect) {
        RuleHall hall = expect.hall("b(X):-a(X).");
        expect.commit(hall, "a 1", "a 2");
        hall.sync();
        expect.commit(hall, "-a 2");
        hall.checkpoint();
        expect.log(hall, 0, 0, 0, 1);
        expect.commit(hall, "a 3");
        expect.log(hall, 1, 0, 0, 1);
        expect.same("crash", hall.crash(), 2);
        expect.facts(hall, 'a', 1);
    }

    private static void emptiesFullLog(Expect expect) {
        RuleHall hall = expect.hall("b(X):-a(X).");
        for (int i = 0; i < 96; i++) {
            if (i == 48) {
                hall.commit();
            }
            expect.yes("put", hall.put(0, i % 12, 0, 0));
        }
        hall.commit();
        expect.same("checkpoint", hall.checkpoint(), 12);
        expect.log(hall, 0, 0, 0, 12);
        for (int i = 0; i < 64; i++) {
            expect.yes("remove", hall.remove(0, i % 12, 0, 0));
        }
        expect.same("commit", hall.commit(), 24);
        expect.same("log(0)", hall.log(0), 64);
    }

    private static void notTheEarlier(Expect expect) {
        RuleHall hall = expect.hall("b(X):-a(X).d:-c(X,Y,Z).");
        expect.commit(hall, "a 1", "c 1 2 3");
        hall.checkpoint();
        expect.commit(hall, "-c 1 2 3", "-a 1", "a 11");
        expect.same("log(3)", hall.log(3), 2);
        expect.same("checkpoint", hall.checkpoint(), 1);
        expect.same("crash", hall.crash(), 2);
        expect.facts(hall, 'a', 11);
        expect.facts(hall, 'c');
        expect.facts(hall, 'd');
    }

    private static void again(Expect expect) {
        RuleHall hall = expect.hall("b(X):-a(X).");
        expect.commit(hall, "a 1", "a 2");
        expect.same("checkpoint", hall.checkpoint(), 2);
        expect.same("checkpoint", hall.checkpoint(), 2);
        hall.crash();
        expect.same("behind a crash", hall.checkpoint(), 2);
        expect.log(hall, 0, 0, 0, 2);
    }

    private static void staged(Expect expect) {
        RuleHall hall = expect.hall("b(X):-a(X).");
        expect.commit(hall, "a 1");
        expect.yes("put", hall.put(0, 7, 0, 0));
        expect.yes("remove", hall.remove(0, 1, 0, 0));
        expect.same("checkpoint", hall.checkpoint(), 1);
        expect.log(hall, 0, 0, 2, 1);
        expect.same("commit", hall.commit(), 4);
        expect.facts(hall, 'a', 7);
        hall.crash();
        expect.facts(hall, 'a', 1);
    }

    private static void many(Expect expect) {
        RuleHall hall = expect.hall("b(X):-a(X,Y).");
        for (int i = 0; i < 144; i++) {
            expect.yes("put", hall.put(0, i / 12, i % 12, 0));
            if (i % 48 == 47) {
                hall.commit();
                expect.same("checkpoint", hall.checkpoint(), i + 1);
            }
        }
        expect.log(hall, 0, 0, 0, 144);
        expect.same("crash", hall.crash(), 156);
    }

    private static void nothingElse(Expect expect) {
        RuleHall hall = expect.hall("b(X):-a(X).");
        expect.commit(hall, "a 1");
        expect.commit(hall, "a 2");
        hall.checkpoint();
        expect.facts(hall, 'a', 1, 2);
        expect.facts(hall, 'b', 1, 2);
        expect.change(hall, 0, 'a', 2, 1);
        expect.change(hall, 1, 'b', 2, 1);
        expect.noChange(hall, 2);
    }
}
