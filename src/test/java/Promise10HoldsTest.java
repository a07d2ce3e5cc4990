/** Promise 10: holds. */
public final class Promise10HoldsTest {
    public static void main(String[] args) {
        Expect expect = new Expect();
        RuleHall hall = expect.hall("b(X,Y):-a(X,Y,Z),!c(Z).d(X):-b(X,Y).e:-d(X).");
        expect.commit(hall, "a 1 2 3", "a 11 11 11", "a 4 5 6", "c 6");
        expect.yes("a 1 2 3", hall.holds(0, 1, 2, 3));
        expect.yes("a 11 11 11", hall.holds(0, 11, 11, 11));
        expect.no("a 3 2 1", hall.holds(0, 3, 2, 1));
        expect.no("a 1 2 4", hall.holds(0, 1, 2, 4));
        expect.yes("b 1 2", hall.holds(1, 1, 2, 0));
        expect.yes("b 1 2, beyond its width", hall.holds(1, 1, 2, 77));
        expect.no("b 4 5", hall.holds(1, 4, 5, 0));
        expect.yes("d 11", hall.holds(3, 11, -1, 12));
        expect.yes("e", hall.holds(4, -1, 12, Integer.MAX_VALUE));
        expect.yes("c 6", hall.holds(2, 6, 0, 0));
        expect.no("c 5", hall.holds(2, 5, 0, 0));
        // Numbers that would meet a fact that holds if they were not looked at.
        expect.no("b 0 14", hall.holds(1, 0, 14, 0));
        expect.no("b 2 -10", hall.holds(1, 2, -10, 0));
        expect.no("a 1 1 15", hall.holds(0, 1, 1, 15));
        for (int wrong : new int[] {-1, 12, Integer.MAX_VALUE, Integer.MIN_VALUE}) {
            expect.no("a", hall.holds(0, wrong, 2, 3));
            expect.no("b", hall.holds(0, 1, wrong, 3));
            expect.no("c", hall.holds(0, 1, 2, wrong));
        }
        for (int p : new int[] {5, 9, 10, -1, Integer.MAX_VALUE, Integer.MIN_VALUE}) {
            expect.no("predicate " + p, hall.holds(p, 0, 0, 0));
        }
        expect.finish();
    }
}
