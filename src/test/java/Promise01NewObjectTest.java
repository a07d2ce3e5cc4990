/** Promise 1: a new object has the empty program, no facts and an empty log. */
public final class Promise01NewObjectTest {
    public static void main(String[] args) {
        Expect expect = new Expect();
        RuleHall hall = new RuleHall();
        expect.same("fault(0)", hall.fault(0), 0);
        expect.same("fault(1)", hall.fault(1), 0);
        for (int p = 0; p < 10; p++) {
            for (int what = 0; what < 4; what++) {
                expect.same("predicate(" + p + ", " + what + ")", hall.predicate(p, what), 0);
            }
            expect.no("put", hall.put(p, 0, 0, 0));
            expect.no("remove", hall.remove(p, 0, 0, 0));
            expect.no("holds", hall.holds(p, 0, 0, 0));
            expect.same("fact", hall.fact(p, 0), -1);
            expect.same("derivations", hall.derivations(p, 0, 0, 0), -1);
        }
        expect.log(hall, 0, 0, 0, 0);
        expect.noChange(hall, 0);
        expect.same("abort", hall.abort(), 0);
        expect.same("commit", hall.commit(), 0);
        expect.same("sync", hall.sync(), 0);
        expect.same("checkpoint", hall.checkpoint(), 0);
        expect.same("crash", hall.crash(), 0);
        expect.same("compile of an empty tape", hall.compile(), 0);

        // Two objects have nothing in common.
        RuleHall one = expect.hall("a(X):-b(X).");
        RuleHall other = new RuleHall();
        expect.commit(one, "b 3");
        expect.same("predicate of the other", other.predicate(1, 0), 0);
        expect.same("log of the other", other.log(0), 0);
        expect.facts(one, 'a', 3);
        expect.finish();
    }
}
