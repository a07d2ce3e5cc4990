/** Promise 12: derivations. */
public final class Promise12DerivationsTest {
    private static final int[] NO_CONSTANTS = {-1, 12, 13, 144, 357913942, Integer.MAX_VALUE, Integer.MIN_VALUE};

    public static void main(String[] args) {
        Cases cases = new Cases("Promise 12, derivations");
        cases.check("how many pairs of a rule and constants for its VARIABLES", Promise12DerivationsTest::counts);
        cases.check("a rule without VARIABLES counts once", Promise12DerivationsTest::withoutVariables);
        cases.check("rules alike count each", Promise12DerivationsTest::rulesAlike);
        cases.check("constants and twice the same VARIABLE in a HEAD", Promise12DerivationsTest::heads);
        cases.check("from facts that hold, the fact itself among them", Promise12DerivationsTest::recursion);
        cases.check("a fact that does not hold has 0", Promise12DerivationsTest::notHolding);
        cases.check("what is STAGED does not count", Promise12DerivationsTest::staged);
        cases.check("as many as 16 rules of 4 VARIABLES give", Promise12DerivationsTest::most);
        cases.check("what is beyond the WIDTH does not matter", Promise12DerivationsTest::beyondWidth);
        cases.check("NONE if a constant is none", Promise12DerivationsTest::noConstant);
        cases.check("NONE of a BASE predicate, whether the fact holds or not", Promise12DerivationsTest::ofBase);
        cases.check("NONE of an UNKNOWN predicate or none such", Promise12DerivationsTest::noPredicate);
        cases.finish();
    }

    private static void counts(Expect expect) {
        RuleHall hall = expect.hall("a(X):-b(X,Y),b(Y,Z),!c(Z),X#Z.a(X):-b(X,Y).a(X):-b(X,Y).a(3).");
        expect.same("without facts", hall.derivations(0, 1, 0, 0), 0);
        expect.same("of a written fact", hall.derivations(0, 3, 0, 0), 1);
        expect.commit(hall, "b 1 2", "b 1 3", "b 2 4", "b 3 4", "b 3 5", "b 3 1", "c 5");
        expect.same("of 1", hall.derivations(0, 1, 0, 0), 2 + 2 * 2);
        // By 3, 1, 2; 3, 1, 3 is not so, as X # Z.
        expect.same("of 3", hall.derivations(0, 3, 0, 0), 1 + 2 * 3 + 1);
        expect.same("of 5", hall.derivations(0, 5, 0, 0), 0);
        expect.commit(hall, "-c 5");
        expect.same("of 1", hall.derivations(0, 1, 0, 0), 3 + 2 * 2);
    }

    private static void withoutVariables(Expect expect) {
        RuleHall hall = expect.hall("a.b(11):-c,!d,1<2.e(0,0,0).");
        expect.same("a", hall.derivations(0, 0, 0, 0), 1);
        expect.same("e", hall.derivations(4, 0, 0, 0), 1);
        expect.same("another of e", hall.derivations(4, 0, 0, 1), 0);
        expect.same("b", hall.derivations(1, 11, 0, 0), 0);
        expect.commit(hall, "c");
        expect.same("b", hall.derivations(1, 11, 0, 0), 1);
        expect.commit(hall, "d");
        expect.same("b", hall.derivations(1, 11, 0, 0), 0);
    }

    private static void rulesAlike(Expect expect) {
        RuleHall hall = expect.hall("a.".repeat(16));
        expect.same("a", hall.derivations(0, 0, 0, 0), 16);
        hall = expect.hall("a(X):-b(X).a(X):-b(X).a(Y):-b(Y).a(X):-b(X),b(X).");
        expect.commit(hall, "b 1");
        expect.same("a", hall.derivations(0, 1, 0, 0), 4);
    }

    private static void heads(Expect expect) {
        RuleHall hall = expect.hall("a(X,X,1):-b(X,Y).a(X,Y,2):-b(X,Y).a(X,Y,Z):-b(X,Y),b(Y,Z).c:-b(X,Y).c:-!d.");
        expect.commit(hall, "b 1 1", "b 1 2", "b 2 1");
        expect.same("1 1 1", hall.derivations(0, 1, 1, 1), 2 + 1);
        expect.same("1 2 1", hall.derivations(0, 1, 2, 1), 1);
        expect.same("1 1 2", hall.derivations(0, 1, 1, 2), 1 + 1);
        expect.same("2 2 1", hall.derivations(0, 2, 2, 1), 1);
        expect.same("2 2 2", hall.derivations(0, 2, 2, 2), 0);
        expect.same("c", hall.derivations(2, 0, 0, 0), 4);
        // The bindings of one count are not left to the next one.
        expect.same("1 1 1 again", hall.derivations(0, 1, 1, 1), 3);
        expect.commit(hall, "d");
        expect.same("c", hall.derivations(2, 0, 0, 0), 3);
        expect.same("facts of a", hall.predicate(0, 3), 7);
    }

    private static void recursion(Expect expect) {
        RuleHall hall = expect.hall("a(X,Y):-b(X,Y).a(X,Y):-a(X,Z),a(Z,Y).");
        expect.commit(hall, "b 0 1", "b 1 2", "b 2 0");
        for (int x = 0; x < 3; x++) {
            for (int y = 0; y < 3; y++) {
                expect.same("a " + x + " " + y, hall.derivations(0, x, y, 0), 3 + (y == (x + 1) % 3 ? 1 : 0));
            }
        }
        hall = expect.hall("a:-a.a:-b.");
        expect.same("a, which does not hold", hall.derivations(0, 0, 0, 0), 0);
        expect.commit(hall, "b");
        expect.same("a, which holds", hall.derivations(0, 0, 0, 0), 2);
    }

    private static void notHolding(Expect expect) {
        RuleHall hall = expect.hall("a(X,Y,Z):-b(X,Y),b(Y,Z).c(X):-b(X,Y),X<Y.");
        for (int v : new int[] {0, 11}) {
            expect.same("a", hall.derivations(0, v, v, v), 0);
            expect.same("c", hall.derivations(2, v, 0, 0), 0);
        }
        expect.commit(hall, "b 11 0");
        expect.same("a", hall.derivations(0, 11, 0, 11), 0);
        expect.same("c", hall.derivations(2, 11, 0, 0), 0);
    }

    private static void staged(Expect expect) {
        RuleHall hall = expect.hall("a(X):-b(X).");
        expect.yes("put", hall.put(1, 4, 0, 0));
        expect.same("staged to be put", hall.derivations(0, 4, 0, 0), 0);
        hall.commit();
        expect.yes("remove", hall.remove(1, 4, 0, 0));
        expect.same("staged to be removed", hall.derivations(0, 4, 0, 0), 1);
        hall.commit();
        expect.same("removed", hall.derivations(0, 4, 0, 0), 0);
    }

    private static void most(Expect expect) {
        RuleHall hall = expect.hall("a:-b(W),b(X),b(Y),b(Z).".repeat(16));
        expect.commit(hall, "b 0", "b 1", "b 2", "b 3", "b 4", "b 5", "b 6", "b 7", "b 8", "b 9", "b 10", "b 11");
        expect.same("a", hall.derivations(0, 0, 0, 0), 16 * 20736);
        hall = expect.hall("a(V,W):-b(V),b(W),b(X),b(Y),X#Y.".repeat(15));
        expect.commit(hall, "b 0", "b 1", "b 2", "b 3", "b 4", "b 5", "b 6", "b 7", "b 8", "b 9", "b 10", "b 11");
        expect.same("a", hall.derivations(0, 11, 11, 0), 15 * 132);
    }

    private static void beyondWidth(Expect expect) {
        RuleHall hall = expect.hall("a(X,Y):-b(X,Y).c:-b(1,1).d(X):-b(X,X).");
        expect.commit(hall, "b 1 1");
        for (int any : NO_CONSTANTS) {
            expect.same("of two", hall.derivations(0, 1, 1, any), 1);
            expect.same("of none", hall.derivations(2, any, any, any), 1);
            expect.same("of one", hall.derivations(3, 1, any, any), 1);
        }
    }

    private static void noConstant(Expect expect) {
        RuleHall hall = expect.hall("a(X,Y,Z):-b(X,Y),b(Y,Z).c(X,Y):-b(X,Y).d(X):-b(X,X).");
        expect.commit(hall, "b 0 0", "b 1 1", "b 11 11");
        for (int wrong : NO_CONSTANTS) {
            expect.none("first of three", hall.derivations(0, wrong, 0, 0));
            expect.none("second of three", hall.derivations(0, 0, wrong, 0));
            expect.none("third of three", hall.derivations(0, 0, 0, wrong));
            expect.none("first of two", hall.derivations(2, wrong, 0, 0));
            expect.none("second of two", hall.derivations(2, 0, wrong, 0));
            expect.none("the one", hall.derivations(3, wrong, 0, 0));
        }
    }

    private static void ofBase(Expect expect) {
        RuleHall hall = expect.hall("a(X):-b(X),!c.");
        expect.commit(hall, "b 1", "c");
        expect.none("of b 1", hall.derivations(1, 1, 0, 0));
        expect.none("of b 2", hall.derivations(1, 2, 0, 0));
        expect.none("of c", hall.derivations(2, 0, 0, 0));
    }

    private static void noPredicate(Expect expect) {
        RuleHall hall = expect.hall("a.j.");
        for (int p : new int[] {1, 8, -1, 10, 256, Integer.MAX_VALUE, Integer.MIN_VALUE}) {
            expect.none("of " + p, hall.derivations(p, 0, 0, 0));
        }
        expect.same("of j", hall.derivations(9, 0, 0, 0), 1);
    }
}
