/** Promise 9: abort. */
public final class Promise09AbortTest {
    public static void main(String[] args) {
        Expect expect = new Expect();
        RuleHall hall = expect.hall("b(X):-a(X).");
        expect.same("abort of nothing", hall.abort(), 0);
        expect.same("commit", expect.commit(hall, "a 1"), 2);
        expect.yes("put", hall.put(0, 2, 0, 0));
        expect.yes("remove", hall.remove(0, 1, 0, 0));
        expect.no("put that is refused", hall.put(1, 2, 0, 0));
        expect.same("abort", hall.abort(), 2);
        expect.same("abort again", hall.abort(), 0);
        expect.log(hall, 1, 0, 0, 0);
        expect.facts(hall, 'a', 1);
        expect.change(hall, 0, 'a', 1, 1);
        expect.same("commit", hall.commit(), 0);
        expect.log(hall, 1, 0, 0, 0);
        expect.facts(hall, 'a', 1);
        for (int i = 0; i < 64; i++) {
            hall.put(0, i % 12, 0, 0);
        }
        expect.same("abort of all", hall.abort(), 64);
        expect.yes("put", hall.put(0, 3, 0, 0));
        expect.same("commit", hall.commit(), 2);
        expect.facts(hall, 'b', 1, 3);
        expect.finish();
    }
}
