/** Promise 3: compile. */
public final class Promise03CompileTest {
    public static void main(String[] args) {
        Expect expect = new Expect();
        countsRules(expect);
        emptiesTheTape(expect);
        faultLeavesAll(expect);
        programEmptiesAll(expect);
        expect.finish();
    }

    private static void countsRules(Expect expect) {
        String[] texts = {"", "   ", "a.", " a . b :- ! c . ", "a(0,11,X):-b(X),X<11.", "a.a.a.a.a.a.a.a.a.a.a.a.a.a.a.a."};
        int[] rules = {0, 0, 1, 2, 1, 16};
        for (int i = 0; i < texts.length; i++) {
            RuleHall hall = new RuleHall();
            Expect.type(hall, texts[i]);
            expect.same("compile " + texts[i], hall.compile(), rules[i]);
        }
    }

    private static void emptiesTheTape(Expect expect) {
        RuleHall hall = expect.hall("a.b.");
        expect.same("compile again", hall.compile(), 0);
        expect.same("the empty program", hall.predicate(0, 0), 0);
        expect.refuses(hall, "a.b", 1, 3);
        expect.same("compile behind a fault", hall.compile(), 0);
        expect.same("fault(0)", hall.fault(0), 0);
        expect.same("fault(1)", hall.fault(1), 0);
    }

    private static void faultLeavesAll(Expect expect) {
        RuleHall hall = expect.hall("b(X):-a(X),!c(X).d(7).");
        expect.commit(hall, "a 1", "a 2", "c 2");
        hall.checkpoint();
        expect.same("commit", expect.commit(hall, "a 5", "-a 1"), 4);
        hall.sync();
        expect.commit(hall, "c 9");
        expect.same("commit", expect.commit(hall, "a 1"), 2);
        expect.yes("put", hall.put(0, 11, 0, 0));
        String[] bad = {"k.", "a.a(1).", "a:-b,b,b,b,b,b.", "a(X).", "a:-!a."};
        for (int i = 0; i < bad.length; i++) {
            Expect.type(hall, bad[i]);
            expect.yes("compile " + bad[i], Expect.throwsAtCompile(hall));
            expect.same("fault of " + bad[i], hall.fault(0), i + 1);
            expect.facts(hall, 'a', 1, 2, 5);
            expect.facts(hall, 'b', 1, 5);
            expect.facts(hall, 'd', 7);
            expect.same("sort", hall.predicate(1, 0), 2);
            expect.same("width", hall.predicate(1, 1), 1);
            expect.same("stratum", hall.predicate(1, 2), 1);
            expect.same("derivations", hall.derivations(1, 5, 0, 0), 1);
            expect.log(hall, 4, 2, 1, 3);
            expect.change(hall, 0, 'a', 1, 1);
            expect.change(hall, 1, 'b', 1, 1);
            expect.noChange(hall, 2);
        }
        expect.same("commit of what was staged", hall.commit(), 2);
    }

    private static void programEmptiesAll(Expect expect) {
        RuleHall hall = expect.hall("b(X):-a(X).c(4).");
        expect.commit(hall, "a 1", "a 2");
        hall.checkpoint();
        expect.commit(hall, "a 3");
        hall.sync();
        expect.yes("put", hall.put(0, 4, 0, 0));
        expect.takes(hall, "b(X):-a(X).c(5).c(6).");
        expect.log(hall, 0, 0, 0, 0);
        expect.facts(hall, 'a');
        expect.facts(hall, 'b');
        expect.facts(hall, 'c', 5, 6);
        expect.noChange(hall, 0);
        expect.same("commit of nothing", hall.commit(), 0);
        expect.same("crash", hall.crash(), 2);
        expect.noChange(hall, 0);
        expect.takes(hall, "a.");
        expect.same("b is unknown", hall.predicate(1, 0), 0);
        expect.same("width of b", hall.predicate(1, 1), 0);
        expect.same("width of a", hall.predicate(0, 1), 0);
        expect.facts(hall, 'a', 0);
    }
}
