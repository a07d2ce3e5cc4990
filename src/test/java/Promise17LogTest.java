/** Promise 17: log. */
public final class Promise17LogTest {
    public static void main(String[] args) {
        Expect expect = new Expect();
        RuleHall hall = expect.hall("b(X):-a(X).");
        expect.log(hall, 0, 0, 0, 0);
        for (int what : new int[] {-1, 4, Integer.MAX_VALUE, Integer.MIN_VALUE}) {
            expect.same("log(" + what + ")", hall.log(what), RuleHall.NONE);
        }
        expect.yes("put", hall.put(0, 1, 0, 0));
        expect.yes("remove", hall.remove(0, 2, 0, 0));
        expect.log(hall, 0, 0, 2, 0);
        hall.commit();
        expect.log(hall, 2, 0, 0, 0);
        hall.sync();
        expect.log(hall, 2, 2, 0, 0);
        expect.commit(hall, "a 3");
        expect.log(hall, 3, 2, 0, 0);
        hall.checkpoint();
        expect.log(hall, 0, 0, 0, 2);
        expect.commit(hall, "a 4", "-a 3", "-a 1");
        expect.log(hall, 3, 0, 0, 2);
        hall.crash();
        expect.log(hall, 0, 0, 0, 2);
        expect.finish();
    }
}
