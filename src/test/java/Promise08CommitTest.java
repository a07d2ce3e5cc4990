/** Promise 8: commit, with what the terms say of FACTS THAT HOLD. */
public final class Promise08CommitTest {
    public static void main(String[] args) {
        Cases cases = new Cases("Promise 8, commit");
        answers(cases);
        holding(cases);
        limits(cases);
        cases.finish();
    }

    private static void answers(Cases cases) {
        cases.check("what is STAGED is done in its order", Promise08CommitTest::order);
        cases.check("with nothing STAGED: 0", Promise08CommitTest::nothing);
        cases.check("how many facts hold now and did not before, or the other way round", Promise08CommitTest::bothWays);
        cases.check("a fact that comes and goes in one commit does not count", Promise08CommitTest::comesAndGoes);
        cases.check("BASE and DERIVED ones count, of all predicates", Promise08CommitTest::allCount);
        cases.check("what is done is STAGED no more", Promise08CommitTest::stagedNoMore);
    }

    private static void holding(Cases cases) {
        cases.check("alike in place of one VARIABLE, of whatever letter", Promise08CommitTest::letters);
        cases.check("what follows by recursion, and nothing else", Promise08CommitTest::recursion);
        cases.check("facts that hold one another up go with what they came from", Promise08CommitTest::noSelfSupport);
        cases.check("what follows in 15552 steps, one behind another", Promise08CommitTest::longestRow);
        cases.check("ATOMS behind ! do not hold, stratum by stratum", Promise08CommitTest::negation);
        cases.check("no predicate is looked at ahead of its stratum", Promise08CommitTest::notAhead);
        cases.check("comparisons are so, as numbers", Promise08CommitTest::comparisons);
        cases.check("comparisons of alike and neighbouring constants", Promise08CommitTest::comparisonEdges);
        cases.check("constants in ATOMS and HEADS stand for themselves", Promise08CommitTest::constantsInRules);
        cases.check("rules of 5 PARTS and 4 VARIABLES over full predicates", Promise08CommitTest::denseRules);
    }

    private static void limits(Cases cases) {
        cases.check("the log may come to have 96", Promise08CommitTest::takes96);
        cases.check("IllegalStateException: the log would have more than 96", Promise08CommitTest::refuses97);
        cases.check("IllegalStateException: it stays STAGED, and nothing else changes", Promise08CommitTest::staysStaged);
        cases.check("puts and removes that change nothing count in the log", Promise08CommitTest::idleOnesCount);
        cases.check("with nothing STAGED a full log is no hindrance", Promise08CommitTest::nothingInFullLog);
        cases.check("sync() makes no room in the log", Promise08CommitTest::syncMakesNoRoom);
        cases.check("a checkpoint makes room in the log for what stayed STAGED", Promise08CommitTest::checkpointMakesRoom);
        cases.check("abort() and fewer STAGED ones fit again", Promise08CommitTest::fewerFit);
        cases.check("a crash makes room for as many as were not SAFE", Promise08CommitTest::crashMakesRoom);
    }

    private static void order(Expect expect) {
        RuleHall hall = expect.hall("b(X):-a(X).");
        expect.same("put, remove", expect.commit(hall, "a 1", "-a 1"), 0);
        expect.facts(hall, 'a');
        expect.same("remove, put", expect.commit(hall, "-a 1", "a 1"), 2);
        expect.facts(hall, 'b', 1);
        expect.same("put, remove, put", expect.commit(hall, "a 2", "-a 2", "a 2"), 2);
        expect.same("remove, put, remove", expect.commit(hall, "-a 2", "a 2", "-a 2"), 2);
        expect.facts(hall, 'a', 1);
    }

    private static void nothing(Expect expect) {
        RuleHall hall = expect.hall("b(X):-a(X).c:-!b(1).");
        expect.same("commit", hall.commit(), 0);
        expect.commit(hall, "a 1");
        expect.same("commit", hall.commit(), 0);
        expect.log(hall, 1, 0, 0, 0);
        expect.facts(hall, 'b', 1);
    }

    private static void bothWays(Expect expect) {
        RuleHall hall = expect.hall("b(X):-a(X).c:-!b(1).");
        expect.same("come", expect.commit(hall, "a 2", "a 3"), 4);
        expect.same("come and go", expect.commit(hall, "-a 2", "a 4"), 4);
        expect.same("one goes by another's coming", expect.commit(hall, "a 1"), 3);
        expect.same("go", expect.commit(hall, "-a 3", "-a 4"), 4);
        expect.same("one comes by another's going", expect.commit(hall, "-a 1"), 3);
    }

    private static void comesAndGoes(Expect expect) {
        RuleHall hall = expect.hall("b(X):-a(X).");
        expect.same("put, remove", expect.commit(hall, "a 1", "-a 1"), 0);
        expect.commit(hall, "a 1");
        expect.same("remove, put", expect.commit(hall, "-a 1", "a 1"), 0);
        expect.same("twice the same", expect.commit(hall, "a 1", "a 1"), 0);
        expect.same("twice a new one", expect.commit(hall, "a 2", "a 2"), 2);
        expect.noChange(hall, 2);
    }

    private static void allCount(Expect expect) {
        RuleHall hall = expect.hall("a:-i(X),!j(X,X,X).b(X):-i(X).c(X,Y):-i(X),i(Y).d(X,X,X):-i(X).");
        expect.same("commit", expect.commit(hall, "i 0", "i 11", "j 5 5 5"), 3 + 1 + 2 + 4 + 2);
        expect.same("commit", expect.commit(hall, "j 0 0 0", "j 11 11 11"), 2 + 1);
    }

    private static void stagedNoMore(Expect expect) {
        RuleHall hall = expect.hall("b(X):-a(X).");
        expect.commit(hall, "a 1");
        expect.same("log(2)", hall.log(2), 0);
        expect.same("abort", hall.abort(), 0);
        expect.commit(hall, "-a 1");
        expect.same("it is not done again", hall.commit(), 0);
        expect.facts(hall, 'a');
    }

    private static void letters(Expect expect) {
        for (char letter = 'A'; letter <= 'Z'; letter++) {
            RuleHall hall = expect.hall("b(?):-a(?,?).".replace('?', letter));
            expect.same("commit with " + letter, expect.commit(hall, "a 1 1", "a 11 11", "a 0 0", "a 1 2"), 7);
            expect.facts(hall, 'b', 0, 1, 11);
        }
        for (char letter = 'A'; letter <= 'Z'; letter++) {
            RuleHall hall = expect.hall("b(?):-?<3,!c(?),?#1,a(?).".replace('?', letter));
            expect.commit(hall, "a 0", "a 1", "a 2", "a 3", "c 0");
            expect.facts(hall, 'b', 2);
        }
        RuleHall hall = expect.hall("b(A,Z):-a(A,Z),!a(Z,A).");
        expect.same("commit", expect.commit(hall, "a 1 2", "a 3 4", "a 4 3"), 4);
        expect.facts(hall, 'b', 14);
    }

    private static void recursion(Expect expect) {
        RuleHall hall = expect.hall("b(X,Y):-a(X,Y).b(X,Y):-a(X,Z),b(Z,Y).c(X):-b(X,X).");
        for (int i = 0; i < 12; i++) {
            expect.same("edge " + i, expect.commit(hall, "a " + i + " " + (i + 1) % 12), i < 11 ? i + 2 : 1 + 144 - 66 + 12);
        }
        expect.same("b", hall.predicate(1, 3), 144);
        expect.same("cut", expect.commit(hall, "-a 11 0"), 1 + 144 - 66 + 12);
        expect.same("cut in the middle", expect.commit(hall, "-a 5 6"), 1 + 36);
        expect.same("mend and cut", expect.commit(hall, "a 5 6", "-a 5 6"), 0);
        // The rule that goes round may stand ahead of the others.
        hall = expect.hall("b(X,Y):-b(X,Z),a(Z,Y).b(X,Y):-a(X,Y).");
        expect.same("a row of five", expect.commit(hall, "a 1 2", "a 2 3", "a 3 4", "a 4 5"), 4 + 10);
        hall = expect.hall("c(X):-b(X).b(Y):-c(X),a(X,Y).c(0).");
        expect.same("two that go round", expect.commit(hall, "a 0 1", "a 1 2", "a 2 0", "a 4 5"), 4 + 3 + 2);
    }

    /** Nine predicates pass a number of three constants round, which is one more each time. */
    private static void longestRow(Expect expect) {
        StringBuilder text = new StringBuilder("a(0,0,0).a(X,Y,W):-i(X,Y,Z),j(Z,W).a(X,W,0):-i(X,Y,11),j(Y,W).a(W,0,0):-i(X,11,11),j(X,W).");
        for (char p = 'b'; p <= 'i'; p++) {
            text.append(p).append("(X,Y,Z):-").append((char) (p - 1)).append("(X,Y,Z).");
        }
        RuleHall hall = expect.hall(text.toString());
        for (int c = 0; c < 11; c++) {
            expect.yes("put", hall.put(9, c, c + 1, 0));
        }
        expect.same("commit", hall.commit(), 11 + 9 * 1727);
        expect.same("the last one", hall.fact(8, 1727), 1727);
        expect.same("cut off at the first number", expect.commit(hall, "-j 10 11"), 1 + 9 * (1728 - 11));
    }

    private static void noSelfSupport(Expect expect) {
        RuleHall hall = expect.hall("a(X):-b(X).a(X):-c(X).b(X):-a(X).");
        expect.same("commit", expect.commit(hall, "c 4"), 3);
        expect.same("commit", expect.commit(hall, "-c 4"), 3);
        hall = expect.hall("a:-a.a:-b.c:-!a.");
        expect.facts(hall, 'c', 0);
        expect.same("commit", expect.commit(hall, "b"), 3);
        expect.same("commit", expect.commit(hall, "-b"), 3);
        expect.facts(hall, 'a');
        expect.facts(hall, 'c', 0);
    }

    private static void negation(Expect expect) {
        RuleHall hall = expect.hall("b(X):-a(X),!c(X).d(X):-a(X),!b(X).e:-!f.f:-d(X),!g(X,X).");
        expect.facts(hall, 'e', 0);
        expect.same("commit", expect.commit(hall, "a 1", "a 2"), 4);
        expect.same("commit", expect.commit(hall, "c 1"), 5);
        expect.facts(hall, 'b', 2);
        expect.facts(hall, 'd', 1);
        expect.facts(hall, 'e');
        expect.facts(hall, 'f', 0);
        expect.same("commit", expect.commit(hall, "g 1 1"), 3);
        expect.facts(hall, 'e', 0);
        expect.same("commit", expect.commit(hall, "-a 1"), 2);
    }

    private static void notAhead(Expect expect) {
        for (char p = 'a'; p <= 'h'; p++) {
            RuleHall hall = expect.hall("?(X):-i(X),!j(X).j(X):-i(X).".replace('?', p));
            expect.same("commit with " + p, expect.commit(hall, "i 1", "i 5"), 4);
            expect.facts(hall, p);
            expect.facts(hall, 'j', 1, 5);
            hall = expect.hall("j(X):-i(X).?(X):-i(X),!j(X).".replace('?', p));
            expect.same("commit with " + p, expect.commit(hall, "i 1", "i 5"), 4);
            expect.facts(hall, p);
        }
        RuleHall hall = expect.hall("a(X):-d(X),!b(X).b(X):-d(X),!c(X).c(X):-d(X),e(X).");
        expect.same("commit", expect.commit(hall, "d 1", "d 2", "e 2"), 3 + 3);
        expect.facts(hall, 'a', 2);
        expect.facts(hall, 'b', 1);
        expect.facts(hall, 'c', 2);
    }

    private static void comparisons(Expect expect) {
        RuleHall hall = expect.hall("b(X,Y):-a(X),a(Y),X<Y.c(X,Y):-a(X),a(Y),X#Y.d(X,Y):-X=Y,a(X),a(Y)."
            + "e:-2<10.f:-10<2.g:-1=1,1#2.h:-1#1.i(X,11):-a(X),X<3.");
        expect.facts(hall, 'e', 0);
        expect.facts(hall, 'f');
        expect.facts(hall, 'g', 0);
        expect.facts(hall, 'h');
        expect.commit(hall, "a 2", "a 10", "a 9");
        expect.facts(hall, 'b', 33, 34, 118);
        expect.facts(hall, 'c', 33, 34, 110, 118, 122, 129);
        expect.facts(hall, 'd', 26, 117, 130);
        expect.facts(hall, 'i', 35);
    }

    private static void comparisonEdges(Expect expect) {
        for (int x = 0; x < 12; x++) {
            for (int y = Math.max(0, x - 1); y < Math.min(12, x + 2); y++) {
                String pair = x + "?" + y + ".";
                RuleHall hall = expect.hall("a:-" + pair.replace('?', '=') + "b:-" + pair.replace('?', '#') + "c:-" + pair.replace('?', '<'));
                expect.same("alike " + pair, hall.predicate(0, 3), x == y ? 1 : 0);
                expect.same("not alike " + pair, hall.predicate(1, 3), x != y ? 1 : 0);
                expect.same("less " + pair, hall.predicate(2, 3), x < y ? 1 : 0);
            }
        }
    }

    private static void constantsInRules(Expect expect) {
        RuleHall hall = expect.hall("b(X,0):-a(11,X,0).c(11,0,11):-a(0,0,0).d:-!a(11,11,11).");
        expect.commit(hall, "a 11 5 0", "a 11 6 1", "a 10 7 0", "a 0 0 0");
        expect.facts(hall, 'b', 60);
        expect.facts(hall, 'c', 11 * 144 + 11);
        expect.facts(hall, 'd', 0);
        expect.commit(hall, "a 11 11 11", "-a 0 0 0");
        expect.facts(hall, 'c');
        expect.facts(hall, 'd');
    }

    /** As much as a text can ask for. */
    private static void denseRules(Expect expect) {
        StringBuilder text = new StringBuilder("b(X,Y,Z):-a(X),a(Y),a(Z).");
        for (int i = 0; i < 15; i++) {
            text.append("c(W,X,Y):-b(W,X,Y),b(X,Y,Z).");
        }
        RuleHall hall = expect.hall(text.toString());
        String[] all = new String[12];
        for (int i = 0; i < 12; i++) {
            all[i] = "a " + i;
        }
        expect.same("commit", expect.commit(hall, all), 12 + 1728 + 1728);
        expect.same("derivations", hall.derivations(2, 11, 11, 11), 15 * 12);
        expect.same("fact", hall.fact(2, 1727), 1727);
        expect.same("commit", expect.commit(hall, "-a 0"), 1 + 2 * (1728 - 1331));
        hall = expect.hall("b(W,Z):-a(W),a(X),a(Y),a(Z),W<Z.c(W,Z):-a(W),a(X),a(Y),!b(X,Y),a(Z).");
        expect.same("commit", expect.commit(hall, all), 12 + 66 + 144);
    }

    private static void fill(Expect expect, RuleHall hall, int n) {
        for (int i = 0; i < n; i++) {
            expect.yes("put", hall.put(0, i % 11, 0, 0));
        }
    }

    /** A hall whose log has n, with a(0) to a(10) holding. */
    private static RuleHall logged(Expect expect, int n) {
        RuleHall hall = expect.hall("b(X):-a(X).");
        fill(expect, hall, n - 40);
        hall.commit();
        fill(expect, hall, 40);
        hall.commit();
        expect.same("log(0)", hall.log(0), n);
        return hall;
    }

    private static void takes96(Expect expect) {
        RuleHall hall = logged(expect, 60);
        fill(expect, hall, 35);
        expect.yes("put", hall.put(0, 11, 0, 0));
        expect.same("commit", hall.commit(), 2);
        expect.log(hall, 96, 0, 0, 0);
        hall = logged(expect, 95);
        expect.same("one more", expect.commit(hall, "a 11"), 2);
        expect.log(hall, 96, 0, 0, 0);
    }

    private static void refuses97(Expect expect) {
        RuleHall hall = logged(expect, 60);
        fill(expect, hall, 37);
        expect.yes("97", Expect.throwsAtCommit(hall));
        hall = logged(expect, 96);
        fill(expect, hall, 1);
        expect.yes("97", Expect.throwsAtCommit(hall));
        hall = logged(expect, 96);
        fill(expect, hall, 64);
        expect.yes("160", Expect.throwsAtCommit(hall));
    }

    private static void staysStaged(Expect expect) {
        RuleHall hall = expect.hall("b(X):-a(X).");
        fill(expect, hall, 50);
        hall.commit();
        fill(expect, hall, 45);
        hall.commit();
        hall.sync();
        expect.same("commit", expect.commit(hall, "-a 5"), 2);
        expect.yes("put", hall.put(0, 11, 0, 0));
        for (int i = 0; i < 2; i++) {
            expect.yes("97", Expect.throwsAtCommit(hall));
            expect.log(hall, 96, 95, 1, 0);
            expect.no("nothing is done", hall.holds(0, 11, 0, 0));
            expect.same("facts of a", hall.predicate(0, 3), 10);
            expect.same("facts of b", hall.predicate(1, 3), 10);
            expect.change(hall, 0, 'a', 5, 0);
            expect.change(hall, 1, 'b', 5, 0);
            expect.noChange(hall, 2);
        }
        expect.same("crash", hall.crash(), 22);
        expect.log(hall, 95, 95, 0, 0);
    }

    private static void idleOnesCount(Expect expect) {
        RuleHall hall = expect.hall("b(X):-a(X).");
        for (int i = 0; i < 96; i += 48) {
            for (int j = 0; j < 48; j++) {
                expect.yes("remove", hall.remove(0, j % 12, 0, 0));
            }
            expect.same("commit", hall.commit(), 0);
            expect.same("log(0)", hall.log(0), i + 48);
        }
        expect.yes("remove", hall.remove(0, 1, 0, 0));
        expect.yes("97", Expect.throwsAtCommit(hall));
    }

    private static void nothingInFullLog(Expect expect) {
        RuleHall hall = logged(expect, 96);
        expect.same("commit", hall.commit(), 0);
        expect.log(hall, 96, 0, 0, 0);
        expect.noChange(hall, 0);
    }

    private static void syncMakesNoRoom(Expect expect) {
        RuleHall hall = logged(expect, 96);
        fill(expect, hall, 1);
        expect.same("sync", hall.sync(), 96);
        expect.yes("97", Expect.throwsAtCommit(hall));
    }

    private static void checkpointMakesRoom(Expect expect) {
        RuleHall hall = logged(expect, 96);
        expect.yes("put", hall.put(0, 11, 0, 0));
        expect.yes("97", Expect.throwsAtCommit(hall));
        expect.same("checkpoint", hall.checkpoint(), 11);
        expect.log(hall, 0, 0, 1, 11);
        expect.same("commit", hall.commit(), 2);
        expect.log(hall, 1, 0, 0, 11);
    }

    private static void fewerFit(Expect expect) {
        RuleHall hall = logged(expect, 95);
        fill(expect, hall, 2);
        expect.yes("97", Expect.throwsAtCommit(hall));
        expect.same("abort", hall.abort(), 2);
        expect.same("96", expect.commit(hall, "a 11"), 2);
    }

    private static void crashMakesRoom(Expect expect) {
        RuleHall hall = expect.hall("b(X):-a(X).");
        fill(expect, hall, 50);
        hall.commit();
        hall.sync();
        fill(expect, hall, 46);
        hall.commit();
        hall.crash();
        expect.log(hall, 50, 50, 0, 0);
        fill(expect, hall, 47);
        expect.yes("97", Expect.throwsAtCommit(hall));
        hall.abort();
        fill(expect, hall, 46);
        expect.same("96", hall.commit(), 0);
        expect.log(hall, 96, 50, 0, 0);
    }
}
