/** Promise 14: sync. */
public final class Promise14SyncTest {
    public static void main(String[] args) {
        Expect expect = new Expect();
        RuleHall hall = expect.hall("b(X):-a(X).");
        expect.same("sync of nothing", hall.sync(), 0);
        expect.commit(hall, "a 1", "a 1", "-a 2");
        expect.log(hall, 3, 0, 0, 0);
        expect.yes("put", hall.put(0, 5, 0, 0));
        expect.same("sync", hall.sync(), 3);
        expect.log(hall, 3, 3, 1, 0);
        hall.commit();
        expect.log(hall, 4, 3, 0, 0);
        expect.same("crash", hall.crash(), 2);
        expect.facts(hall, 'a', 1);
        expect.commit(hall, "a 6");
        expect.same("sync", hall.sync(), 4);
        expect.same("sync again", hall.sync(), 4);
        expect.same("crash", hall.crash(), 4);
        expect.facts(hall, 'b', 1, 6);
        hall.checkpoint();
        expect.same("sync behind a checkpoint", hall.sync(), 0);
        expect.finish();
    }
}
