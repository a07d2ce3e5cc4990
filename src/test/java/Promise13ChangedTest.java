/** Promise 13: changed. */
public final class Promise13ChangedTest {
    public static void main(String[] args) {
        Expect expect = new Expect();
        RuleHall hall = expect.hall("a(X):-d(X),!c(X).b(X,Y):-d(X),c(Y).e(9).");
        expect.noChange(hall, 0);
        expect.commit(hall, "d 3", "d 1", "c 1");
        expect.change(hall, 0, 'a', 3, 1);
        expect.change(hall, 1, 'b', 13, 1);
        expect.change(hall, 2, 'b', 37, 1);
        expect.change(hall, 3, 'c', 1, 1);
        expect.change(hall, 4, 'd', 1, 1);
        expect.change(hall, 5, 'd', 3, 1);
        expect.noChange(hall, 6);
        expect.same("commit", expect.commit(hall, "-c 1", "c 3", "d 1"), 8);
        expect.change(hall, 0, 'a', 1, 1);
        expect.change(hall, 1, 'a', 3, 0);
        expect.change(hall, 2, 'b', 13, 0);
        expect.change(hall, 3, 'b', 15, 1);
        expect.change(hall, 4, 'b', 37, 0);
        expect.change(hall, 5, 'b', 39, 1);
        expect.change(hall, 6, 'c', 1, 0);
        expect.change(hall, 7, 'c', 3, 1);
        expect.noChange(hall, 8);
        wrongInputs(expect, hall);
        staysTillTheNext(expect, hall);
        byCrash(expect, hall);
        byProgram(expect, hall);
        expect.finish();
    }

    private static void wrongInputs(Expect expect, RuleHall hall) {
        for (int k : new int[] {-1, 8, 9, 17280, Integer.MAX_VALUE, Integer.MIN_VALUE}) {
            expect.noChange(hall, k);
        }
        for (int what : new int[] {-1, 3, Integer.MAX_VALUE, Integer.MIN_VALUE}) {
            expect.same("changed(0, " + what + ")", hall.changed(0, what), RuleHall.NONE);
        }
    }

    private static void staysTillTheNext(Expect expect, RuleHall hall) {
        expect.yes("put", hall.put(3, 7, 0, 0));
        hall.abort();
        hall.sync();
        hall.checkpoint();
        expect.change(hall, 0, 'a', 1, 1);
        expect.change(hall, 7, 'c', 3, 1);
        expect.same("commit", hall.commit(), 0);
        expect.noChange(hall, 0);
    }

    private static void byCrash(Expect expect, RuleHall hall) {
        expect.commit(hall, "d 5", "-c 3");
        expect.same("crash", hall.crash(), 7);
        expect.change(hall, 0, 'a', 3, 0);
        expect.change(hall, 1, 'a', 5, 0);
        expect.change(hall, 2, 'b', 15, 1);
        expect.change(hall, 3, 'b', 39, 1);
        expect.change(hall, 4, 'c', 3, 1);
        expect.change(hall, 5, 'd', 5, 0);
        expect.noChange(hall, 6);
        expect.same("crash", hall.crash(), 7);
        expect.noChange(hall, 0);
    }

    private static void byProgram(Expect expect, RuleHall hall) {
        expect.commit(hall, "d 8");
        expect.change(hall, 0, 'a', 8, 1);
        expect.refuses(hall, "a", 1, 1);
        expect.change(hall, 0, 'a', 8, 1);
        expect.takes(hall, "a(1).b(X):-a(X).");
        expect.noChange(hall, 0);
    }
}
