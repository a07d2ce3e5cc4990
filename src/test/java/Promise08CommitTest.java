/** Promise 8: commit. */
public final class Promise08CommitTest {
    public static void main(String[] args) {
        Expect expect = new Expect();
        order(expect);
        letters(expect);
        recursion(expect);
        negation(expect);
        comparisons(expect);
        logLimit(expect);
        denseRules(expect);
        expect.finish();
    }

    private static void order(Expect expect) {
        RuleHall hall = expect.hall("b(X):-a(X).");
        expect.same("put, remove", expect.commit(hall, "a 1", "-a 1"), 0);
        expect.facts(hall, 'a');
        expect.same("remove, put", expect.commit(hall, "-a 1", "a 1"), 2);
        expect.facts(hall, 'b', 1);
        expect.same("twice the same", expect.commit(hall, "a 1", "a 1"), 0);
        expect.same("one for another", expect.commit(hall, "-a 1", "a 2"), 4);
        expect.same("nothing", hall.commit(), 0);
        expect.log(hall, 8, 0, 0, 0);
    }

    private static void letters(Expect expect) {
        for (char letter = 'A'; letter <= 'Z'; letter++) {
            RuleHall hall = expect.hall("b(?):-a(?).".replace('?', letter));
            expect.same("commit with " + letter, expect.commit(hall, "a 1", "a 11", "a 0"), 6);
            expect.facts(hall, 'b', 0, 1, 11);
        }
        RuleHall hall = expect.hall("b(A,Z):-a(A,Z),!a(Z,A).");
        expect.same("commit", expect.commit(hall, "a 1 2", "a 3 4", "a 4 3"), 4);
        expect.facts(hall, 'b', 14);
    }

    private static void recursion(Expect expect) {
        RuleHall hall = expect.hall("b(X,Y):-a(X,Y).b(X,Y):-a(X,Z),b(Z,Y).c(X):-b(X,X).");
        for (int i = 0; i < 12; i++) {
            expect.same("edge " + i, expect.commit(hall, "a " + i + " " + (i + 1) % 12), i < 11 ? i + 2 : 1 + 144 - 66 + 12);
        }
        expect.same("b", hall.predicate(1, 3), 144);
        expect.same("cut", expect.commit(hall, "-a 11 0"), 1 + 144 - 66 + 12);
        expect.same("cut in the middle", expect.commit(hall, "-a 5 6"), 1 + 36);
        expect.same("mend and cut", expect.commit(hall, "a 5 6", "-a 5 6"), 0);
        // Two facts of a round that hold each other up do not outlive what they came from.
        hall = expect.hall("a(X):-b(X).a(X):-c(X).b(X):-a(X).");
        expect.same("commit", expect.commit(hall, "c 4"), 3);
        expect.same("commit", expect.commit(hall, "-c 4"), 3);
    }

    private static void negation(Expect expect) {
        RuleHall hall = expect.hall("b(X):-a(X),!c(X).d(X):-a(X),!b(X).e:-!f.f:-d(X),!g(X,X).");
        expect.facts(hall, 'e', 0);
        expect.same("commit", expect.commit(hall, "a 1", "a 2"), 4);
        expect.same("commit", expect.commit(hall, "c 1"), 5);
        expect.facts(hall, 'b', 2);
        expect.facts(hall, 'd', 1);
        expect.facts(hall, 'e');
        expect.facts(hall, 'f', 0);
        expect.same("commit", expect.commit(hall, "g 1 1"), 3);
        expect.facts(hall, 'e', 0);
        expect.same("commit", expect.commit(hall, "-a 1"), 2);
    }

    private static void comparisons(Expect expect) {
        RuleHall hall = expect.hall("b(X,Y):-a(X),a(Y),X<Y.c(X,Y):-a(X),a(Y),X#Y.d(X,Y):-X=Y,a(X),a(Y).e:-2<10.f:-10<2.g:-1=1,1#2.h:-1#1.i(X,11):-a(X),X<3.");
        expect.facts(hall, 'e', 0);
        expect.facts(hall, 'f');
        expect.facts(hall, 'g', 0);
        expect.facts(hall, 'h');
        expect.commit(hall, "a 2", "a 10", "a 9");
        expect.facts(hall, 'b', 33, 34, 118);
        expect.facts(hall, 'c', 33, 34, 110, 118, 122, 129);
        expect.facts(hall, 'd', 26, 117, 130);
        expect.facts(hall, 'i', 35);
    }

    private static void logLimit(Expect expect) {
        RuleHall hall = expect.hall("b(X):-a(X).");
        fill(expect, hall, 60);
        hall.commit();
        fill(expect, hall, 37);
        expect.yes("97", Expect.throwsAtCommit(hall));
        expect.log(hall, 60, 0, 37, 0);
        expect.change(hall, 0, 'a', 0, 1);
        hall.abort();
        fill(expect, hall, 35);
        expect.yes("put", hall.remove(0, 11, 0, 0));
        expect.same("96", hall.commit(), 2);
        expect.same("nothing more is fine", hall.commit(), 0);
        expect.yes("put", hall.put(0, 11, 0, 0));
        expect.yes("97", Expect.throwsAtCommit(hall));
        expect.yes("97 still", Expect.throwsAtCommit(hall));
        expect.no("nothing is done", hall.holds(0, 11, 0, 0));
        hall.sync();
        expect.yes("sync makes no room", Expect.throwsAtCommit(hall));
        expect.same("checkpoint", hall.checkpoint(), 11);
        expect.log(hall, 0, 0, 1, 11);
        expect.same("commit", hall.commit(), 2);
        expect.log(hall, 1, 0, 0, 11);
    }

    private static void fill(Expect expect, RuleHall hall, int n) {
        for (int i = 0; i < n; i++) {
            expect.yes("put", hall.put(0, i % 12, 0, 0));
        }
    }

    /** As much as a text can ask for: sixteen rules of four variables over full predicates. */
    private static void denseRules(Expect expect) {
        StringBuilder text = new StringBuilder("b(X,Y,Z):-a(X),a(Y),a(Z).");
        for (int i = 0; i < 15; i++) {
            text.append("c(W,X,Y):-b(W,X,Y),b(X,Y,Z).");
        }
        RuleHall hall = expect.hall(text.toString());
        String[] all = new String[12];
        for (int i = 0; i < 12; i++) {
            all[i] = "a " + i;
        }
        expect.same("commit", expect.commit(hall, all), 12 + 1728 + 1728);
        expect.same("derivations", hall.derivations(2, 11, 11, 11), 15 * 12);
        expect.same("fact", hall.fact(2, 1727), 1727);
        expect.same("commit", expect.commit(hall, "-a 0"), 1 + 2 * (1728 - 1331));
    }
}
