/** Promise 4: fault, with what the terms say of what a program and its FAULTS are. */
public final class Promise04FaultTest {
    public static void main(String[] args) {
        Cases cases = new Cases("Promise 4, fault");
        cases.check("what 0: 0 for none; what 1: 0 without one", Promise04FaultTest::noFault);
        cases.check("the fault is that of the latest compile()", Promise04FaultTest::latest);
        cases.check("NONE for another what", Promise04FaultTest::otherWhat);
        grammar(cases);
        syntaxPlaces(cases);
        otherFaults(cases);
        cases.check("the faults are looked for in the order 1 to 5", Promise04FaultTest::order);
        cases.check("the place of a rule is that of its HEAD's predicate", Promise04FaultTest::placeOfRule);
        cases.check("a text as long as the tape has its faults too", Promise04FaultTest::fullTape);
        cases.finish();
    }

    private static void grammar(Cases cases) {
        cases.check("a text of rules, perhaps none", Promise04FaultTest::rules);
        cases.check("PREDICATES are a .. j", Promise04FaultTest::predicates);
        cases.check("CONSTANTS are 0 .. 11", Promise04FaultTest::constants);
        cases.check("a constant is without a 0 ahead of another digit", Promise04FaultTest::zeroAhead);
        cases.check("VARIABLES are A .. Z, of one letter each", Promise04FaultTest::variables);
        cases.check("an ATOM has 1 to 3 TERMS in ( and ), or none of these", Promise04FaultTest::terms);
        cases.check("a BODY has one PART at least, with , between them", Promise04FaultTest::body);
        cases.check("a PART is an ATOM, or ! and an ATOM", Promise04FaultTest::atomParts);
        cases.check("a PART is two TERMS with =, # or < between", Promise04FaultTest::comparisonParts);
        cases.check("blanks count for nothing", Promise04FaultTest::blanks);
        cases.check("a number ends at a blank", Promise04FaultTest::numberEndsAtBlank);
        cases.check("between : and - a blank can't stand", Promise04FaultTest::blankInSign);
    }

    private static void syntaxPlaces(Cases cases) {
        cases.check("fault 1 is at the first character that can't stand there", Promise04FaultTest::firstCharacter);
        cases.check("fault 1 of a number that is no constant is at its first digit", Promise04FaultTest::firstDigit);
        cases.check("fault 1 of a number too large for an int or a long is at its first digit", Promise04FaultTest::hugeNumbers);
        cases.check("fault 1 is at the text's length if a character is missing", Promise04FaultTest::missing);
        cases.check("fault 1 is at the text's length behind blanks at its end", Promise04FaultTest::missingBehindBlanks);
    }

    private static void otherFaults(Cases cases) {
        cases.check("fault 2 is at the first ATOM with another number of TERMS than an earlier one", Promise04FaultTest::termsDiffer);
        cases.check("fault 3: the 17th rule; 16 are fine", Promise04FaultTest::manyRules);
        cases.check("fault 3: more than 5 PARTS; 5 are fine", Promise04FaultTest::manyParts);
        cases.check("fault 3: more than 4 VARIABLES; 4 are fine", Promise04FaultTest::manyVariables);
        cases.check("fault 3 is at the first rule that is so in any of the three ways", Promise04FaultTest::firstTooLarge);
        cases.check("fault 4: a VARIABLE in the HEAD that is in no ATOM without !", Promise04FaultTest::unboundInHead);
        cases.check("fault 4: a VARIABLE behind ! that is in no ATOM without !", Promise04FaultTest::unboundBehindNot);
        cases.check("fault 4: a VARIABLE at =, #, < that is in no ATOM without !", Promise04FaultTest::unboundAtComparison);
        cases.check("fault 4 is at the first such rule, and no rule binds for another", Promise04FaultTest::firstUnbound);
        cases.check("fault 5: a predicate DEPENDS on itself", Promise04FaultTest::dependsOnItself);
        cases.check("fault 5: a predicate DEPENDS on those in the BODIES of its rules, and on what these DEPEND on", Promise04FaultTest::dependsOnOthers);
        cases.check("fault 5 is at the first such ATOM", Promise04FaultTest::firstDenial);
        cases.check("no fault 5 where what is behind ! does not DEPEND on the HEAD's", Promise04FaultTest::soundDenials);
    }

    private static void noFault(Expect expect) {
        expect.takes("");
        expect.takes("a.");
        expect.takes("b(X):-a(X),!c(X),X<3.");
    }

    private static void latest(Expect expect) {
        RuleHall hall = new RuleHall();
        expect.refuses(hall, "a:-!a.", 5, 4);
        expect.refuses(hall, "b.a:", 1, 4);
        hall.type(97, 1);
        hall.commit();
        hall.crash();
        expect.same("fault(0) stays", hall.fault(0), 1);
        expect.same("fault(1) stays", hall.fault(1), 4);
        expect.takes(hall, ".");
        expect.refuses(hall, " a(X).", 4, 1);
        expect.same("compile", hall.compile(), 0);
        expect.same("fault(0)", hall.fault(0), 0);
        expect.same("fault(1)", hall.fault(1), 0);
    }

    private static void otherWhat(Expect expect) {
        RuleHall hall = new RuleHall();
        for (String text : new String[] {"", "a", "a."}) {
            Expect.type(hall, text);
            Expect.throwsAtCompile(hall);
            for (int what : new int[] {-1, 2, 3, 256, Integer.MAX_VALUE, Integer.MIN_VALUE}) {
                expect.none("fault(" + what + ")", hall.fault(what));
            }
        }
    }

    private static void rules(Expect expect) {
        expect.takes("");
        expect.takes("a.");
        expect.takes("a.b:-a.c.");
        expect.refuses(".", 1, 0);
        expect.refuses("a..", 1, 2);
        expect.refuses("a.b", 1, 3);
        expect.refuses("a b.", 1, 2);
        expect.refuses("a,b.", 1, 1);
        expect.refuses("!a.", 1, 0);
        expect.refuses("a.!a.", 1, 2);
        expect.refuses("1=1.", 1, 0);
        expect.refuses("X=1.", 1, 0);
        expect.refuses(":-a.", 1, 0);
        expect.refuses("a:-b:-c.", 1, 4);
    }

    private static void predicates(Expect expect) {
        for (char p = 'a'; p <= 'j'; p++) {
            expect.takes(p + ".");
            expect.takes(p + ":-" + p + ".");
            expect.takes("a:-1=1.b:-" + (p == 'b' ? "" : "!") + p + ".");
        }
        for (char p : "`kz{A0@".toCharArray()) {
            expect.refuses(p + ".", 1, 0);
            expect.refuses("a." + p + ".", 1, 2);
            expect.refuses("a:-!" + p + ".", 1, 4);
        }
        for (char p : "`kz{@".toCharArray()) {
            expect.refuses("a:-" + p + ".", 1, 3);
            expect.refuses("a:-b," + p + ".", 1, 5);
        }
        expect.refuses("ab.", 1, 1);
    }

    private static void constants(Expect expect) {
        for (int c = 0; c < 12; c++) {
            RuleHall hall = expect.hall("a(" + c + ").b:-" + c + "=" + c + ".");
            expect.facts(hall, 'a', c);
            expect.facts(hall, 'b', 0);
        }
        for (int c = 12; c < 130; c++) {
            expect.refuses("a(" + c + ").", 1, 2);
            expect.refuses("a:-" + c + "=1.", 1, 3);
            expect.refuses("a:-1<" + c + ".", 1, 5);
        }
        expect.refuses("a(/).", 1, 2);
        expect.refuses("a(:).", 1, 2);
        expect.refuses("a(-1).", 1, 2);
        expect.refuses("a(+1).", 1, 2);
    }

    private static void zeroAhead(Expect expect) {
        for (String number : new String[] {"00", "01", "09", "010", "011", "000"}) {
            expect.refuses("a(" + number + ").", 1, 2);
            expect.refuses("a:-1=" + number + ".", 1, 5);
        }
        expect.takes("a(0).a(10).b:-0<10.");
    }

    private static void variables(Expect expect) {
        for (char v = 'A'; v <= 'Z'; v++) {
            expect.takes("a(" + v + "):-b(" + v + ")," + v + "<3.");
        }
        for (char v : "@[_az".toCharArray()) {
            expect.refuses("a(" + v + ").", 1, 2);
            expect.refuses("a(1," + v + ").", 1, 4);
            expect.refuses("a:-1=" + v + ".", 1, 5);
        }
        expect.refuses("a(XY):-b(X).", 1, 3);
        expect.refuses("a(X1):-b(X).", 1, 3);
        expect.refuses("a(1X):-b(X).", 1, 3);
    }

    private static void terms(Expect expect) {
        expect.takes("a.b(1).c(1,2).d(1,2,3).");
        expect.takes("e:-a,b(1),!c(1,2),!d(1,2,3).");
        expect.refuses("a().", 1, 2);
        expect.refuses("a( ).", 1, 3);
        expect.refuses("a(,1).", 1, 2);
        expect.refuses("a(1,).", 1, 4);
        expect.refuses("a(1,,2).", 1, 4);
        expect.refuses("a(1,2,3,4).", 1, 7);
        expect.refuses("a(1,2,3,).", 1, 7);
        expect.refuses("a(10,11,X 9).", 1, 10);
        expect.refuses("b:-a(1,2,3,4).", 1, 10);
        expect.refuses("b:-!a(1,2,3,4).", 1, 11);
        expect.refuses("a(1.", 1, 3);
        expect.refuses("a(1;2).", 1, 3);
        expect.refuses("a)1(.", 1, 1);
        expect.refuses("a(1)(2).", 1, 4);
        expect.refuses("a((1)).", 1, 2);
        expect.refuses("a(1)).", 1, 4);
        expect.refuses("a(b).", 1, 2);
        expect.refuses("a(!1).", 1, 2);
    }

    private static void body(Expect expect) {
        expect.takes("a:-b.");
        expect.takes("a:-b,c.");
        expect.refuses("a:-.", 1, 3);
        expect.refuses("a:- .", 1, 4);
        expect.refuses("a:-,b.", 1, 3);
        expect.refuses("a:-b,.", 1, 5);
        expect.refuses("a:-b,,c.", 1, 5);
        expect.refuses("a:-b c.", 1, 5);
        expect.refuses("a:-b!c.", 1, 4);
        expect.refuses("a:-b;c.", 1, 4);
        expect.refuses("a:-1=1 b.", 1, 7);
        expect.refuses("a:b.", 1, 2);
        expect.refuses("a::-b.", 1, 2);
        expect.refuses("a-b.", 1, 1);
        expect.refuses("a:--b.", 1, 3);
    }

    private static void atomParts(Expect expect) {
        expect.takes("a:-b,!c.");
        expect.takes("a:-!c(1),b(1,2).");
        expect.refuses("a:-!!b.", 1, 4);
        expect.refuses("a:-!.", 1, 4);
        expect.refuses("a:-!,b.", 1, 4);
        expect.refuses("a:-!X=1.", 1, 4);
        expect.refuses("a:-!1=1.", 1, 4);
        expect.refuses("a:-b!.", 1, 4);
    }

    private static void comparisonParts(Expect expect) {
        expect.takes("a:-1=1,1#2,1<2.");
        expect.takes("a:-b(X,Y),X=Y,X#1,1<Y.");
        expect.refuses("a:-1.", 1, 4);
        expect.refuses("a:-X,b(X).", 1, 4);
        expect.refuses("a:-1>2.", 1, 4);
        expect.refuses("a:-1==2.", 1, 5);
        expect.refuses("a:-1<=2.", 1, 5);
        expect.refuses("a:-1!=2.", 1, 4);
        expect.refuses("a:-1=b.", 1, 5);
        expect.refuses("a:-b=1.", 1, 4);
        expect.refuses("a:-=1.", 1, 3);
        expect.refuses("a:-1=.", 1, 5);
        expect.refuses("a:-1<2<3.", 1, 6);
        expect.refuses("a:-(1=1).", 1, 3);
    }

    private static void blanks(Expect expect) {
        expect.takes(" ");
        RuleHall hall = expect.hall("  a  (  1  ,  X  )  :-  b  (  X  )  ,  !  c  ,  X  #  1  .  ");
        expect.commit(hall, "b 1", "b 11");
        expect.facts(hall, 'a', 23);
        expect.refuses("  k.", 1, 2);
        expect.refuses("a  b.", 1, 3);
        expect.refuses("a  (  ).", 1, 6);
        expect.refuses("a:-  1  >  2.", 1, 8);
    }

    private static void numberEndsAtBlank(Expect expect) {
        expect.refuses("a(1 1).", 1, 4);
        expect.refuses("a(0 1).", 1, 4);
        expect.refuses("a(1 2,3).", 1, 4);
        expect.refuses("a:-1=1 0.", 1, 7);
        expect.refuses("a(12 1).", 1, 2);
        RuleHall hall = expect.hall("a(1 , 11 ).");
        expect.facts(hall, 'a', 23);
    }

    private static void blankInSign(Expect expect) {
        expect.refuses("a: -b.", 1, 2);
        expect.refuses("a :  - b.", 1, 3);
        expect.refuses("a: ", 1, 2);
        expect.takes("a :- b.");
    }

    private static void firstCharacter(Expect expect) {
        expect.refuses("a.A.k.", 1, 2);
        expect.refuses("a:-b,k,k.", 1, 5);
        expect.refuses("a(1,k),k.", 1, 4);
        expect.refuses("a.b(12).k.", 1, 4);
        expect.refuses("k(12).", 1, 0);
        expect.refuses("a.~", 1, 2);
        expect.refuses("a%", 1, 1);
        expect.refuses("a:-b?", 1, 4);
        expect.refuses("a:-1=1?", 1, 6);
    }

    private static void firstDigit(Expect expect) {
        expect.refuses("a(12).", 1, 2);
        expect.refuses("a(1,20).", 1, 4);
        expect.refuses("a(110).", 1, 2);
        expect.refuses("a(119).", 1, 2);
        expect.refuses("a( 13 ).", 1, 3);
        expect.refuses("a(12k", 1, 2);
        expect.refuses("a(12", 1, 2);
        expect.refuses("a:-b(X),X<12.", 1, 10);
    }

    private static void hugeNumbers(Expect expect) {
        // 2^32 + 1 and 2^64 + 1 would wrap round to 1, 2^31 and 2^63 below 0.
        for (String number : new String[] {"2147483648", "4294967296", "4294967297", "9223372036854775808",
                "18446744073709551616", "18446744073709551617", "1" + "0".repeat(400), "9".repeat(470)}) {
            expect.refuses("a(" + number + ").", 1, 2);
        }
    }

    private static void missing(Expect expect) {
        for (String text : new String[] {"a(1,X):-b(X),!c,X<2.", "a:-1=1,2#11.", "a(0,1,2):-!b(3,4,5)."}) {
            for (int length = 1; length < text.length(); length++) {
                expect.refuses(text.substring(0, length), 1, length);
            }
            expect.refuses(text + "a", 1, text.length() + 1);
        }
    }

    private static void missingBehindBlanks(Expect expect) {
        expect.refuses("a ", 1, 2);
        expect.refuses("a(1)  ", 1, 6);
        expect.refuses("a(1 ", 1, 4);
        expect.refuses("a:- ", 1, 4);
        expect.refuses("a:-1= ", 1, 6);
        expect.refuses("a.b:-c,  ", 1, 9);
    }

    private static void termsDiffer(Expect expect) {
        expect.refuses("a.a(1).", 2, 2);
        expect.refuses("a(1).a.", 2, 5);
        expect.refuses("a(1).a(1,2).", 2, 5);
        expect.refuses("a(1,2,3).a(1,2).a(1).", 2, 9);
        expect.refuses("a(1).b:-a.", 2, 8);
        expect.refuses("a(1):-a(1,2).", 2, 6);
        expect.refuses("b:-!c(1), ! c(1,2).", 2, 12);
        expect.refuses("b:-c(1).d:-!c.", 2, 12);
        expect.refuses("a.b.b(1).a(1).", 2, 4);
        expect.refuses("b:-c(1),d,c(1),1=1,  c(1,1),d(1).", 2, 21);
        expect.takes("a(1).a(2):-b,!c(1,2).b:-!c(3,4).");
    }

    private static void manyRules(Expect expect) {
        expect.takes("a.".repeat(16));
        expect.refuses("a.".repeat(17), 3, 32);
        expect.refuses("a.".repeat(18), 3, 32);
        expect.refuses("a.".repeat(15) + "a:-b. a:-b.", 3, 36);
    }

    private static void manyParts(Expect expect) {
        expect.takes("a:-b,c,d,e,f.");
        expect.takes("a:-b,!c,1=1,1#2,1<2.");
        expect.refuses("a:-b,c,d,e,f,g.", 3, 0);
        expect.refuses("a:-b,b,b,b,b,b.", 3, 0);
        expect.refuses(" a:-b,c,d,e,f,1=1.", 3, 1);
        expect.refuses("a:-!b,!c,!d,!e,!f,!g.", 3, 0);
        expect.refuses("a.b:-1=1,1=1,1=1,1=1,1=1,1=1.", 3, 2);
    }

    private static void manyVariables(Expect expect) {
        expect.takes("a(A,B,C):-b(A,B,C),c(Z),!d(Z),Z<A,B#C.");
        expect.takes("a:-b(A,B,C),c(D,A,B),d(C,D,A).");
        expect.refuses("a.a:-b(A,B,C),c(D,E).", 3, 2);
        expect.refuses("a(E):-b(A,B,C),c(D).", 3, 0);
        expect.refuses("a:-b(A,B,C),c(D),!d(E).", 3, 0);
        expect.refuses("a:-b(A,B,C),c(D),E=1.", 3, 0);
        expect.refuses("a:-b(V,W,X),c(Y,Z).", 3, 0);
        expect.takes("a:-b(A,B),c(C,D).a:-b(E,F),c(G,H).");
        expect.takes("a(A):-b(A,B),c(C,D).a(E):-b(E,F),c(G,H).");
    }

    private static void firstTooLarge(Expect expect) {
        expect.refuses("a.".repeat(16) + " b:-c,c,c,c,c,c.", 3, 33);
        expect.refuses("a.a:-c,c,c,c,c,c." + "a.".repeat(16), 3, 2);
        expect.refuses("a.a:-c(A,B,C),d(D,E).a:-e,e,e,e,e,e.", 3, 2);
        expect.refuses("a.a:-e,e,e,e,e,e.a:-c(A,B,C),d(D,E).", 3, 2);
    }

    private static void unboundInHead(Expect expect) {
        expect.refuses("b. a(X).", 4, 3);
        expect.refuses("a(X):-b.", 4, 0);
        expect.refuses("a(X,Y):-b(X).", 4, 0);
        expect.refuses("a(1,2,Z):-b(X).", 4, 0);
        expect.refuses("a(X):-X=1.", 4, 0);
        expect.refuses("a(X):-!b(X).", 4, 0);
        expect.refuses("a(X):-b(Y),!c(Y),Y<1.", 4, 0);
        for (char v = 'A'; v <= 'Z'; v++) {
            expect.refuses("a(" + v + ").", 4, 0);
        }
        expect.takes("a(X,Y):-b(Y,X).");
        expect.takes("a(X):-X=1,b(X).");
        expect.takes("a(X):-!c(X),b(X).");
    }

    private static void unboundBehindNot(Expect expect) {
        expect.refuses("a:-b(X),!c(Y).", 4, 0);
        expect.refuses("a:-!c(1,2,Z).", 4, 0);
        expect.refuses("a:-!c(Y),!d(Y).", 4, 0);
        expect.refuses("a:-!c(Y),Y=1.", 4, 0);
        expect.refuses("a:-!c(Y),b(X),!c(X),X=1.", 4, 0);
        expect.takes("a:-!c(Y),b(1,Y).");
    }

    private static void unboundAtComparison(Expect expect) {
        for (char sign : "=#<".toCharArray()) {
            expect.refuses("a:-b(X),X" + sign + "Y.", 4, 0);
            expect.refuses("a:-b(X),Y" + sign + "X.", 4, 0);
            expect.refuses("a:-Y" + sign + "1.", 4, 0);
            expect.refuses("a:-1" + sign + "Y.", 4, 0);
            expect.refuses("a:-Y" + sign + "Y.", 4, 0);
            expect.refuses("a:-b(X),Y" + sign + "1,X" + sign + "1.", 4, 0);
            expect.takes("a:-Y" + sign + "X,b(X,Y).");
        }
    }

    private static void firstUnbound(Expect expect) {
        expect.refuses("a(X):-b(X).a(Y):-b(X).a(Z):-b(X).", 4, 11);
        expect.refuses("a:-b(X). a:-!b(X).", 4, 9);
        expect.refuses("a:-!b(X).a:-b(X).", 4, 0);
    }

    private static void dependsOnItself(Expect expect) {
        expect.refuses("a:-!a.", 5, 4);
        expect.refuses("a(X):-b(X), ! a(X).", 5, 14);
        expect.refuses("a(1):-!a(2).", 5, 7);
    }

    private static void dependsOnOthers(Expect expect) {
        expect.refuses("a:-!b.b:-a.", 5, 4);
        expect.refuses("b:-a.a:-!b.", 5, 9);
        expect.refuses("a:-!b.b:-!a.", 5, 4);
        expect.refuses("a:-b.b:-c.c:-d, !a.", 5, 17);
        expect.refuses("a:-!b.b:-c.c:-!d.d:-e,a.", 5, 4);
        expect.refuses("a:-!j.j:-i.i:-h.h:-g.g:-f.f:-e.e:-d.d:-c.c:-b.b:-a.", 5, 4);
        expect.refuses("a:-!b.b:-c.b:-d.d:-e.d:-a.", 5, 4);
    }

    private static void firstDenial(Expect expect) {
        expect.refuses("a:-!c,!b.b:-d.d:-!e,a.", 5, 7);
        expect.refuses("a:-b. b:-!c,!a.c:-!d.", 5, 13);
        expect.refuses("c(1).a:-!a.b:-!b.", 5, 9);
    }

    private static void soundDenials(Expect expect) {
        expect.takes("a:-!b.b:-!c.c:-!d.");
        expect.takes("a:-a.b:-!a.");
        expect.takes("a:-b.b:-a.c:-!a,!b.");
        expect.takes("a:-c,!b.b:-c.");
        expect.takes("a:-!b,!c,!d,!e,!f.");
    }

    private static void order(Expect expect) {
        expect.refuses("a:-!a.a(X):-b,b,b,b,b,b.k", 1, 24);
        expect.refuses("a:-!a,b,b,b,b,b.c(X).a(1).", 2, 21);
        expect.refuses("a.".repeat(17) + "a(1).", 2, 34);
        expect.refuses("a:-!a.c(X).c(1):-b,b,b,b,b,b.", 3, 11);
        expect.refuses("a:-!a.c(X).", 4, 6);
        expect.refuses("c(1).a:-!a.", 5, 9);
    }

    private static void placeOfRule(Expect expect) {
        expect.refuses("   a:-b,b,b,b,b,b.", 3, 3);
        expect.refuses("a.  a:-b(A,B,C),c(D,E).", 3, 4);
        expect.refuses("a.   b  (X).", 4, 5);
        expect.refuses("a:-b,c.   d:-!e(X).", 4, 10);
    }

    private static void fullTape(Expect expect) {
        expect.refuses("a.".repeat(240), 3, 32);
        expect.refuses("a.".repeat(237) + "a(1). ", 2, 474);
        expect.refuses("a:-" + "b,".repeat(236) + "b(1).", 2, 475);
        expect.refuses("a.".repeat(239) + "a:", 1, 480);
        expect.refuses("a.".repeat(239) + " a", 1, 480);
        expect.refuses("a:-" + "b,".repeat(237) + "b .", 3, 0);
        expect.refuses("a:-" + "b,".repeat(238) + "b", 1, 480);
        expect.refuses("a:-" + "1=1,".repeat(119) + "b", 1, 480);
        expect.refuses("a(" + "1".repeat(478), 1, 2);
        expect.refuses("a(0" + " ".repeat(477), 1, 480);
        expect.refuses(" ".repeat(479) + ":", 1, 479);
        expect.refuses(" ".repeat(474) + "a(12).", 1, 476);
        expect.takes(" ".repeat(480));
        expect.takes("a" + " ".repeat(478) + ".");
    }
}
