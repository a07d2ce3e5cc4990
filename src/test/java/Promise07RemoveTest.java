/** Promise 7: remove; its wrong inputs are with those of put. */
public final class Promise07RemoveTest {
    public static void main(String[] args) {
        Expect expect = new Expect();
        RuleHall hall = expect.hall("b(X):-a(X,Y,Z).d:-!c.e(X):-f(X).");
        expect.commit(hall, "a 1 2 3", "a 1 2 4", "c", "f 11");
        expect.yes("remove", hall.remove(0, 1, 2, 3));
        expect.yes("remove", hall.remove(2, 12, 12, 12));
        expect.yes("remove", hall.remove(5, 11, -1, -1));
        expect.log(hall, 4, 0, 3, 0);
        expect.yes("holds still", hall.holds(0, 1, 2, 3));
        expect.same("commit", hall.commit(), 5);
        expect.facts(hall, 'a', 172);
        expect.facts(hall, 'b', 1);
        expect.facts(hall, 'c');
        expect.facts(hall, 'd', 0);
        expect.facts(hall, 'e');
        expect.yes("remove what is not there", hall.remove(0, 1, 2, 3));
        expect.same("commit", hall.commit(), 0);
        expect.log(hall, 8, 0, 0, 0);
        expect.no("remove of a derived one", hall.remove(1, 1, 0, 0));
        expect.no("remove of an unknown one", hall.remove(9, 1, 0, 0));
        expect.no("remove of no constant", hall.remove(0, 1, 12, 0));
        expect.finish();
    }
}
