import java.util.ArrayList;
import java.util.List;

/** Runs of calls with programs made by a fixed row of numbers: every answer is the model's. */
public final class ModelTest {
    private static final int RUNS = 800;
    // What an object answers later is free.
    private static final int CALLS = 512;

    private static final String[] RICH = {
        "b(X,Y):-a(X,Y).b(X,Y):-b(X,Z),b(Z,Y).c(X,Y):-d(X),d(Y),!b(X,Y).e(X):-b(X,X),!f(X).",
        "c(X,Y):-a(X,Y).c(X,Y):-b(X,Z),c(Z,W),b(Y,W).d(X):-c(X,Y),X#Y.e(X,Y,Z):-c(X,Y),c(Y,Z),X<Z,!d(Y).",
        "b(X):-c(X),a(X,Y),d(Y).d(X):-e(X).d(X):-a(X,Y),b(Y).b(X):-a(X,Y),d(Y),!f(Y).g:-!h(1).h(X):-b(X),d(X).",
        "a(X,Y,Z):-b(X,Y),b(Y,Z).a(X,Y,Z):-a(Y,X,Z),c(X).a(X,Z,W):-a(X,Y,Z),a(Y,Z,W),X<W.d(X,Y):-a(X,X,Y),!b(Y,X).",
        "j(X,Y,Z):-i(X,Y,Z).j(Y,Z,X):-j(X,Y,Z).h(X):-j(X,X,X).h(X):-j(X,Y,Z),!i(X,Y,Z).g(X,X,0):-h(X).g(X,1,X):-h(X),!f.",
    };

    private final Expect expect;
    private final Numbers numbers;
    private final RuleHall hall = new RuleHall();
    private final Model model = new Model();
    private int calls = 0;
    private int spread = 3;
    private int taken = 0;

    private ModelTest(Expect expect, int seed) {
        this.expect = expect;
        this.numbers = new Numbers(seed);
    }

    public static void main(String[] args) {
        Cases cases = new Cases("Promises 1 to 17");
        cases.check("runs of calls answer as the model does", ModelTest::runs);
        cases.finish();
    }

    private static void runs(Expect expect) {
        int taken = 0;
        for (int run = 0; run < RUNS; run++) {
            ModelTest test = new ModelTest(expect, run);
            test.run();
            taken += test.taken;
        }
        expect.yes("many programs are taken: " + taken, taken > RUNS);
    }

    /** Ends while there is room for the longest step. */
    private void run() {
        program();
        while (hasRoom(60)) {
            if (numbers.oneIn(250)) {
                program();
            } else {
                step();
                if (numbers.oneIn(30)) {
                    lookAround();
                }
            }
        }
        expect.yes("no more than 512 calls: " + calls, calls <= CALLS);
    }

    private boolean hasRoom(int more) {
        return calls + more <= CALLS;
    }

    private void ask(String call, long got, long due) {
        calls++;
        expect.same(call, got, due);
    }

    /** Faulty programs come and go till one is taken. */
    private void program() {
        spread = 2 + numbers.below(4);
        for (int i = 0; i < 40; i++) {
            List<Model.Rule> rules = new ArrayList<>();
            String text = makeText(rules);
            int typing = (text.length() + 7) / 8;
            if (text.length() > 480 || !hasRoom(typing + 60)) {
                continue;
            }
            Expect.type(hall, text);
            int[] fault = Model.faultOf(rules);
            calls += typing + 1;
            expect.same("compile " + text, Expect.throwsAtCompile(hall) ? 1 : 0, fault[0] > 0 ? 1 : 0);
            ask("fault(0) of " + text, hall.fault(0), fault[0]);
            ask("fault(1) of " + text, hall.fault(1), fault[1]);
            if (fault[0] == 0) {
                model.take(rules);
                taken++;
                break;
            }
        }
        if (hasRoom(60)) {
            lookAround();
        }
    }

    private String makeText(List<Model.Rule> rules) {
        StringBuilder text = new StringBuilder();
        if (numbers.oneIn(3)) {
            for (Model.Rule rule : Model.parse(RICH[numbers.below(RICH.length)])) {
                rules.add(rule);
                write(text, rule);
            }
            return text.toString();
        }
        int[] width = new int[10];
        for (int p = 0; p < 10; p++) {
            width[p] = numbers.below(12) / 3;
        }
        int most = numbers.oneIn(30) ? 18 : 12;
        for (int n = 1 + numbers.below(most); n > 0; n--) {
            rules.add(makeRule(width));
            write(text, rules.get(rules.size() - 1));
        }
        blanks(text);
        return text.toString();
    }

    private Model.Rule makeRule(int[] width) {
        Model.Rule rule = new Model.Rule();
        int head = numbers.below(7);
        int parts = numbers.oneIn(12) ? 0 : 1 + numbers.below(numbers.oneIn(30) ? 6 : 5);
        String letters = "XYZUV".substring(0, numbers.oneIn(40) ? 5 : 1 + numbers.below(4));
        int positive = parts == 0 ? 0 : 1 + numbers.below(parts);
        String bound = "";
        for (int i = 0; i < positive; i++) {
            Model.Atom atom = makeAtom(numbers.oneIn(4) ? head : numbers.below(10), width, letters);
            bound += String.join("", Model.lettersOf(atom));
            rule.body.add(atom);
        }
        // Most rules are without a fault: the other letters are bound, and what is denied lies behind the head.
        String others = numbers.oneIn(80) ? letters : bound;
        for (int i = positive; i < parts; i++) {
            int from = numbers.oneIn(30) ? 0 : head + 1;
            Model.Atom test = numbers.oneIn(3) ? makeComparison(others) : makeAtom(from + numbers.below(10 - from), width, others);
            test.sign = test.sign == ' ' ? '!' : test.sign;
            rule.body.add(numbers.below(rule.body.size() + 1), test);
        }
        rule.head = makeAtom(head, width, others);
        return rule;
    }

    private Model.Atom makeAtom(int predicate, int[] width, String letters) {
        Model.Atom atom = new Model.Atom();
        atom.predicate = (char) ('a' + predicate);
        int terms = numbers.oneIn(300) ? numbers.below(4) : width[predicate];
        for (int t = 0; t < terms; t++) {
            atom.terms.add(makeTerm(letters));
        }
        return atom;
    }

    private Model.Atom makeComparison(String letters) {
        Model.Atom atom = new Model.Atom();
        atom.sign = "=#<".charAt(numbers.below(3));
        atom.terms.add(makeTerm(letters));
        atom.terms.add(makeTerm(letters));
        return atom;
    }

    private String makeTerm(String letters) {
        if (letters.isEmpty() || numbers.oneIn(8)) {
            return Integer.toString(constant());
        }
        int i = numbers.below(letters.length());
        return letters.substring(i, i + 1);
    }

    private void write(StringBuilder text, Model.Rule rule) {
        write(text, rule.head);
        for (int i = 0; i < rule.body.size(); i++) {
            text.append(i == 0 ? ":-" : ",");
            write(text, rule.body.get(i));
        }
        text.append('.');
    }

    private void write(StringBuilder text, Model.Atom atom) {
        blanks(text);
        if (atom.predicate == '?') {
            text.append(atom.terms.get(0));
            blanks(text);
            text.append(atom.sign);
            blanks(text);
            text.append(atom.terms.get(1));
        } else {
            text.append(atom.sign == '!' ? "!" : "");
            blanks(text);
            atom.place = text.length();
            text.append(atom.predicate);
            for (int t = 0; t < atom.terms.size(); t++) {
                blanks(text);
                text.append(t == 0 ? '(' : ',').append(atom.terms.get(t));
            }
            text.append(atom.terms.isEmpty() ? "" : ")");
        }
        blanks(text);
    }

    private void blanks(StringBuilder text) {
        if (numbers.oneIn(60)) {
            text.append(' ');
        }
    }

    private int constant() {
        return numbers.oneIn(12) ? numbers.below(12) : numbers.below(spread);
    }

    /** Now and then none. */
    private int argument() {
        return numbers.oneIn(25) ? numbers.below(20) - 4 : constant();
    }

    /** Most often one that is BASE. */
    private int anyPredicate() {
        int p = numbers.below(10);
        for (int i = 0; i < 4 && model.sort(p) != 1; i++) {
            p = numbers.below(10);
        }
        return numbers.oneIn(25) ? numbers.below(14) - 2 : p;
    }

    private void step() {
        int p = anyPredicate();
        int a = argument();
        int b = argument();
        int c = argument();
        int kind = numbers.below(100);
        if (kind < 35) {
            stage(p, a, b, c);
        } else if (kind < 45) {
            for (int n = numbers.below(12); n > 0; n--) {
                stage(anyPredicate(), argument(), argument(), argument());
            }
        } else if (kind < 55) {
            ask("remove", hall.remove(p, a, b, c) ? 1 : 0, model.stage(false, p, a, b, c) ? 1 : 0);
        } else if (kind < 70) {
            commit();
        } else if (kind < 72) {
            ask("abort", hall.abort(), model.staged.size());
            model.staged.clear();
        } else if (kind < 77) {
            model.safe = model.log.size();
            ask("sync", hall.sync(), model.safe);
        } else if (kind < 82) {
            ask("checkpoint", hall.checkpoint(), model.checkpoint());
        } else if (kind < 84) {
            ask("crash", hall.crash(), model.crash());
        } else {
            lookAtFact(numbers.oneIn(3) ? p : numbers.below(10), a, b, c);
        }
    }

    private void stage(int p, int a, int b, int c) {
        ask("put", hall.put(p, a, b, c) ? 1 : 0, model.stage(true, p, a, b, c) ? 1 : 0);
    }

    private void commit() {
        int due = model.commit();
        int got;
        try {
            got = hall.commit();
        } catch (IllegalStateException e) {
            got = -1;
        }
        ask("commit", got, due);
    }

    private void lookAtFact(int p, int a, int b, int c) {
        int fact = model.fact(p, a, b, c);
        ask("holds", hall.holds(p, a, b, c) ? 1 : 0, fact >= 0 && model.now.contains(fact) ? 1 : 0);
        int due = fact < 0 || model.sort(p) != 2 ? -1 : model.derivations(fact);
        ask("derivations", hall.derivations(p, a, b, c), due);
    }

    /** At a part of all that can be seen, as there are no calls for the whole. */
    private void lookAround() {
        for (int p = 0; p < 10; p++) {
            int what = numbers.below(3);
            char name = (char) ('a' + p);
            int due = what == 0 ? model.sort(p) : (what == 1 ? model.width : model.stratum).getOrDefault(name, 0);
            ask("predicate(" + p + ", " + what + ")", hall.predicate(p, what), due);
            ask("count of " + p, hall.predicate(p, 3), model.factsOf(p).size());
        }
        for (int i = 0; i < 8; i++) {
            int p = numbers.below(10);
            List<Integer> facts = model.factsOf(p);
            int k = numbers.below(facts.size() + 1);
            ask("fact " + k + " of " + p, hall.fact(p, k), k < facts.size() ? facts.get(k) % 10000 : -1);
        }
        lookAtChanges();
        int[] due = {model.log.size(), model.safe, model.staged.size(), model.saved.size()};
        for (int what = 0; what < 4; what++) {
            ask("log(" + what + ")", hall.log(what), due[what]);
        }
    }

    private void lookAtChanges() {
        List<Integer> changes = model.changes();
        for (int i = 0; i < 4; i++) {
            int k = numbers.below(changes.size() + 1);
            int fact = k < changes.size() ? changes.get(k) : -1;
            ask("changed(" + k + ", 0)", hall.changed(k, 0), fact < 0 ? -1 : fact / 10000);
            ask("changed(" + k + ", 1)", hall.changed(k, 1), fact < 0 ? -1 : fact % 10000);
            ask("changed(" + k + ", 2)", hall.changed(k, 2), fact < 0 ? -1 : model.now.contains(fact) ? 1 : 0);
        }
    }
}
