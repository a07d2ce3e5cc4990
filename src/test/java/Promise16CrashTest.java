/** Promise 16: crash. */
public final class Promise16CrashTest {
    public static void main(String[] args) {
        Expect expect = new Expect();
        RuleHall hall = expect.hall("b(X):-a(X),!c(X).");
        expect.commit(hall, "a 1", "a 2", "c 3");
        expect.same("nothing is safe", hall.crash(), 0);
        expect.log(hall, 0, 0, 0, 0);
        expect.facts(hall, 'a');
        expect.facts(hall, 'b');

        expect.commit(hall, "a 1", "a 2", "a 3");
        hall.checkpoint();
        expect.commit(hall, "c 1", "-a 2", "a 4");
        hall.sync();
        expect.commit(hall, "-c 1", "c 4", "a 2");
        expect.yes("put", hall.put(0, 5, 0, 0));
        expect.log(hall, 6, 3, 1, 3);
        expect.same("crash", hall.crash(), 6);
        expect.log(hall, 3, 3, 0, 3);
        expect.facts(hall, 'a', 1, 3, 4);
        expect.facts(hall, 'b', 3, 4);
        expect.facts(hall, 'c', 1);
        expect.same("nothing is staged", hall.commit(), 0);
        expect.facts(hall, 'a', 1, 3, 4);

        // What comes behind a crash stands behind what was safe.
        expect.commit(hall, "-a 4", "a 4", "-c 1");
        expect.log(hall, 6, 3, 0, 3);
        hall.sync();
        expect.same("crash", hall.crash(), 6);
        expect.facts(hall, 'b', 1, 3, 4);
        expect.same("crash again", hall.crash(), 6);
        expect.log(hall, 6, 6, 0, 3);
        expect.finish();
    }
}
