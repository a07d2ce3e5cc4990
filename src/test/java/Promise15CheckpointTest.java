/** Promise 15: checkpoint. */
public final class Promise15CheckpointTest {
    public static void main(String[] args) {
        Expect expect = new Expect();
        RuleHall hall = expect.hall("b(X):-a(X).d:-c(X,Y,Z).e(1).");
        expect.same("checkpoint of nothing", hall.checkpoint(), 0);
        expect.commit(hall, "a 1", "a 2", "c 1 2 3", "-a 2", "a 1");
        hall.sync();
        expect.yes("put", hall.put(0, 7, 0, 0));
        expect.same("checkpoint", hall.checkpoint(), 2);
        expect.log(hall, 0, 0, 1, 2);
        expect.same("crash", hall.crash(), 5);
        expect.log(hall, 0, 0, 0, 2);
        expect.facts(hall, 'a', 1);
        expect.facts(hall, 'b', 1);
        expect.facts(hall, 'c', 171);
        expect.facts(hall, 'd', 0);
        expect.facts(hall, 'e', 1);
        // A checkpoint keeps what holds, not what held at an earlier one.
        expect.commit(hall, "-c 1 2 3", "-a 1", "a 11");
        expect.same("log(3)", hall.log(3), 2);
        expect.same("checkpoint", hall.checkpoint(), 1);
        expect.same("crash", hall.crash(), 3);
        expect.facts(hall, 'a', 11);
        expect.facts(hall, 'c');
        expect.facts(hall, 'd');
        expect.finish();
    }
}
