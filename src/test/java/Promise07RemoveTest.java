/** Promise 7: remove. */
public final class Promise07RemoveTest {
    public static void main(String[] args) {
        Cases cases = new Cases("Promise 7, remove");
        new Staging(false).addTo(cases);
        cases.check("a fact that does not hold is removed: no change", Promise07RemoveTest::removeWhatIsNotThere);
        cases.check("what follows from it no more goes with it", Promise07RemoveTest::goesWithIt);
        cases.finish();
    }

    private static void removeWhatIsNotThere(Expect expect) {
        RuleHall hall = expect.hall("b(X):-a(X).");
        expect.yes("remove", hall.remove(0, 1, 0, 0));
        expect.same("commit", hall.commit(), 0);
        expect.same("commit", expect.commit(hall, "a 2"), 2);
        expect.yes("remove", hall.remove(0, 1, 0, 0));
        expect.same("commit", hall.commit(), 0);
        expect.facts(hall, 'a', 2);
        expect.same("a later put is not hindered", expect.commit(hall, "a 1"), 2);
    }

    private static void goesWithIt(Expect expect) {
        RuleHall hall = expect.hall("b(X):-a(X,Y,Z).d:-!c.e(X):-f(X).");
        expect.commit(hall, "a 1 2 3", "a 1 2 4", "c", "f 11");
        expect.same("commit", expect.commit(hall, "-a 1 2 3", "-c", "-f 11"), 5);
        expect.facts(hall, 'a', 172);
        expect.facts(hall, 'b', 1);
        expect.facts(hall, 'c');
        expect.facts(hall, 'd', 0);
        expect.facts(hall, 'e');
        expect.same("commit", expect.commit(hall, "-a 1 2 4"), 2);
        expect.facts(hall, 'b');
    }
}
