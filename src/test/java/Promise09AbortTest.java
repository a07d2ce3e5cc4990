/** Promise 9: abort. */
public final class Promise09AbortTest {
    public static void main(String[] args) {
        Cases cases = new Cases("Promise 9, abort");
        cases.check("what is STAGED is forgotten", Promise09AbortTest::forgotten);
        cases.check("how many there were, puts and removes", Promise09AbortTest::counts);
        cases.check("with nothing STAGED: 0", Promise09AbortTest::nothing);
        cases.check("with 64 STAGED: 64, and there is room again", Promise09AbortTest::full);
        cases.check("what was refused was never STAGED", Promise09AbortTest::refused);
        cases.check("what a commit() that threw left STAGED is forgotten too", Promise09AbortTest::behindThrow);
        cases.check("nothing else changes", Promise09AbortTest::nothingElse);
        cases.finish();
    }

    private static void forgotten(Expect expect) {
        RuleHall hall = expect.hall("b(X):-a(X).");
        expect.commit(hall, "a 1");
        expect.yes("put", hall.put(0, 2, 0, 0));
        expect.yes("remove", hall.remove(0, 1, 0, 0));
        hall.abort();
        expect.same("log(2)", hall.log(2), 0);
        expect.same("commit", hall.commit(), 0);
        expect.facts(hall, 'a', 1);
        expect.log(hall, 1, 0, 0, 0);
    }

    private static void counts(Expect expect) {
        RuleHall hall = expect.hall("b(X):-a(X).");
        for (int n = 1; n < 6; n++) {
            for (int i = 0; i < n; i++) {
                expect.yes("stage", i % 2 == 0 ? hall.put(0, 1, 0, 0) : hall.remove(0, 1, 0, 0));
            }
            expect.same("abort", hall.abort(), n);
        }
    }

    private static void nothing(Expect expect) {
        RuleHall hall = expect.hall("b(X):-a(X).");
        expect.same("at first", hall.abort(), 0);
        expect.commit(hall, "a 1");
        expect.same("behind a commit", hall.abort(), 0);
        expect.yes("put", hall.put(0, 2, 0, 0));
        expect.same("abort", hall.abort(), 1);
        expect.same("again", hall.abort(), 0);
        expect.yes("put", hall.put(0, 2, 0, 0));
        hall.crash();
        expect.same("behind a crash", hall.abort(), 0);
    }

    private static void full(Expect expect) {
        RuleHall hall = expect.hall("b(X):-a(X).");
        for (int i = 0; i < 64; i++) {
            expect.yes("put", hall.put(0, i % 12, 0, 0));
        }
        expect.same("abort", hall.abort(), 64);
        expect.yes("put", hall.put(0, 3, 0, 0));
        expect.same("commit", hall.commit(), 2);
        expect.facts(hall, 'b', 3);
    }

    private static void refused(Expect expect) {
        RuleHall hall = expect.hall("b(X):-a(X).");
        expect.yes("put", hall.put(0, 3, 0, 0));
        expect.no("put of a derived one", hall.put(1, 2, 0, 0));
        expect.no("put of no constant", hall.put(0, 12, 0, 0));
        expect.same("abort", hall.abort(), 1);
    }

    private static void behindThrow(Expect expect) {
        RuleHall hall = expect.hall("b(X):-a(X).");
        for (int i = 0; i < 128; i++) {
            if (i == 64) {
                hall.commit();
            }
            expect.yes("put", hall.put(0, i < 64 ? 1 : 2, 0, 0));
        }
        expect.yes("128", Expect.throwsAtCommit(hall));
        expect.same("abort", hall.abort(), 64);
        expect.same("commit", hall.commit(), 0);
        expect.facts(hall, 'a', 1);
        expect.log(hall, 64, 0, 0, 0);
    }

    private static void nothingElse(Expect expect) {
        RuleHall hall = expect.hall("b(X):-a(X).");
        expect.commit(hall, "a 1", "a 2");
        hall.checkpoint();
        expect.commit(hall, "a 3");
        hall.sync();
        expect.commit(hall, "-a 1");
        expect.yes("put", hall.put(0, 5, 0, 0));
        hall.abort();
        expect.log(hall, 2, 1, 0, 2);
        expect.facts(hall, 'a', 2, 3);
        expect.facts(hall, 'b', 2, 3);
        expect.change(hall, 0, 'a', 1, 0);
        expect.change(hall, 1, 'b', 1, 0);
        expect.noChange(hall, 2);
    }
}
