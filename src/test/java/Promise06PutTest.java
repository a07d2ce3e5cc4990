/** Promise 6: put. */
public final class Promise06PutTest {
    public static void main(String[] args) {
        Cases cases = new Cases("Promise 6, put");
        new Staging(true).addTo(cases);
        cases.check("a fact that holds is put again: no change", Promise06PutTest::putAgain);
        cases.finish();
    }

    private static void putAgain(Expect expect) {
        RuleHall hall = expect.hall("b(X):-a(X).");
        expect.same("commit", expect.commit(hall, "a 1"), 2);
        expect.yes("put", hall.put(0, 1, 0, 0));
        expect.same("commit", hall.commit(), 0);
        expect.facts(hall, 'a', 1);
        expect.same("one remove is enough", expect.commit(hall, "-a 1"), 2);
        expect.facts(hall, 'a');
    }
}
