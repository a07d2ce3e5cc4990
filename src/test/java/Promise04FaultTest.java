/** Promise 4: fault, with each fault's place and the order in which they are looked for. */
public final class Promise04FaultTest {
    public static void main(String[] args) {
        Expect expect = new Expect();
        RuleHall hall = new RuleHall();
        for (int what : new int[] {-1, 2, 3, Integer.MAX_VALUE, Integer.MIN_VALUE}) {
            expect.same("fault(" + what + ")", hall.fault(what), RuleHall.NONE);
        }
        syntax(expect, hall);
        numbers(expect, hall);
        blanks(expect, hall);
        missing(expect, hall);
        otherFaults(expect, hall);
        order(expect, hall);
        sound(expect, hall);
        fullTape(expect, hall);
        expect.takes(hall, "");
        expect.finish();
    }

    private static void syntax(Expect expect, RuleHall hall) {
        expect.refuses(hall, "k.", 1, 0);
        expect.refuses(hall, "a.A.", 1, 2);
        expect.refuses(hall, "a.1.", 1, 2);
        expect.refuses(hall, "!a.", 1, 0);
        expect.refuses(hall, ".", 1, 0);
        expect.refuses(hall, "a..", 1, 2);
        expect.refuses(hall, "a,b.", 1, 1);
        expect.refuses(hall, "a().", 1, 2);
        expect.refuses(hall, "a(b).", 1, 2);
        expect.refuses(hall, "a(1,).", 1, 4);
        expect.refuses(hall, "a(1.", 1, 3);
        expect.refuses(hall, "a(1X).", 1, 3);
        expect.refuses(hall, "a(XY).", 1, 3);
        expect.refuses(hall, "a(1,2,3,4).", 1, 7);
        expect.refuses(hall, "a)1(.", 1, 1);
        expect.refuses(hall, "a(1)(2).", 1, 4);
        expect.refuses(hall, "a:b.", 1, 2);
        expect.refuses(hall, "a-b.", 1, 1);
        expect.refuses(hall, "a:-.", 1, 3);
        expect.refuses(hall, "a:-k.", 1, 3);
        expect.refuses(hall, "a:-b,.", 1, 5);
        expect.refuses(hall, "a:-,b.", 1, 3);
        expect.refuses(hall, "a:-b c.", 1, 5);
        expect.refuses(hall, "a:-b=c.", 1, 4);
        expect.refuses(hall, "a:-!!b.", 1, 4);
        expect.refuses(hall, "a:-!k.", 1, 4);
        expect.refuses(hall, "a:-!X=1.", 1, 4);
        expect.refuses(hall, "a:-1.", 1, 4);
        expect.refuses(hall, "a:-X,b(X).", 1, 4);
        expect.refuses(hall, "a:-1>2.", 1, 4);
        expect.refuses(hall, "a:-1==2.", 1, 5);
        expect.refuses(hall, "a:-1=b.", 1, 5);
        expect.refuses(hall, "a:-1<2<3.", 1, 6);
        expect.refuses(hall, "a:-b:-c.", 1, 4);
        expect.refuses(hall, "a.~", 1, 2);
        expect.refuses(hall, "a(@).", 1, 2);
        expect.refuses(hall, "a([).", 1, 2);
        expect.refuses(hall, "`.", 1, 0);
        expect.refuses(hall, "a(/).", 1, 2);
        expect.refuses(hall, "a(:).", 1, 2);
    }

    private static void numbers(Expect expect, RuleHall hall) {
        expect.refuses(hall, "a(12).", 1, 2);
        expect.refuses(hall, "a(1,20).", 1, 4);
        expect.refuses(hall, "a(01).", 1, 2);
        expect.refuses(hall, "a(00).", 1, 2);
        expect.refuses(hall, "a(011).", 1, 2);
        expect.refuses(hall, "a(110).", 1, 2);
        expect.refuses(hall, "a(4294967297).", 1, 2);
        expect.refuses(hall, "a(18446744073709551617).", 1, 2);
        expect.refuses(hall, "a(12", 1, 2);
        expect.refuses(hall, "a(12k", 1, 2);
        expect.refuses(hall, "a:-12=1.", 1, 3);
        expect.refuses(hall, "a:-1=12.", 1, 5);
        expect.refuses(hall, "a(1 1).", 1, 4);
        expect.refuses(hall, "a(0 1).", 1, 4);
        expect.refuses(hall, "a( 13 ).", 1, 3);
        expect.takes(hall, "a(0).a(9).a(10).a(11).b:-10<11,0=0.");
    }

    private static void blanks(Expect expect, RuleHall hall) {
        expect.takes(hall, "  a  (  1  ,  X  )  :-  b  (  X  )  ,  !  c  ,  X  #  1  .  ");
        expect.refuses(hall, "a: -b.", 1, 2);
        expect.refuses(hall, "a :  - b.", 1, 3);
        expect.takes(hall, "a :- b.");
        expect.refuses(hall, "  k.", 1, 2);
        expect.refuses(hall, "a  b.", 1, 3);
    }

    private static void missing(Expect expect, RuleHall hall) {
        String text = "a(1,X):-b(X),!c,X<2.";
        for (int length = 1; length < text.length(); length++) {
            expect.refuses(hall, text.substring(0, length), 1, length);
        }
        expect.refuses(hall, "a(1)  ", 1, 6);
        expect.refuses(hall, "a:", 1, 2);
        expect.refuses(hall, "a: ", 1, 2);
    }

    private static void otherFaults(Expect expect, RuleHall hall) {
        expect.refuses(hall, "a.a(1).", 2, 2);
        expect.refuses(hall, "a(1).b:-a.", 2, 8);
        expect.refuses(hall, "b:-!c(1), ! c(1,2).", 2, 12);
        expect.refuses(hall, "a(1,2,3).a(1,2).a(1).", 2, 9);
        expect.refuses(hall, "a.b.b(1).a(1).", 2, 4);
        expect.refuses(hall, " a:-b,c,d,e,f,1=1.", 3, 1);
        expect.refuses(hall, "a.a:-b(A,B,C),c(D,E).", 3, 2);
        expect.refuses(hall, "a.a.a.a.a.a.a.a.a.a.a.a.a.a.a.a. b:-c,c,c,c,c,c.", 3, 33);
        expect.refuses(hall, "a.a:-c,c,c,c,c,c.a.a.a.a.a.a.a.a.a.a.a.a.a.a.a.a.", 3, 2);
        expect.refuses(hall, "b. a(X).", 4, 3);
        expect.refuses(hall, "a(X):-!b(X).", 4, 0);
        expect.refuses(hall, "a:-b(X),!c(Y).", 4, 0);
        expect.refuses(hall, "a:-b(X),X=Y.", 4, 0);
        expect.refuses(hall, "a:-b(X),Y#1.", 4, 0);
        expect.refuses(hall, "a:-b(X),1<Y.", 4, 0);
        expect.refuses(hall, "a(X):-X=1.", 4, 0);
        expect.refuses(hall, "a(X):-b(X).a(Y):-b(X).", 4, 11);
        expect.refuses(hall, "a:-!a.", 5, 4);
        expect.refuses(hall, "a:-b.b:-c.c:-d, !a.", 5, 17);
        expect.refuses(hall, "a:-!b.b:-!a.", 5, 4);
        expect.refuses(hall, "a:-!c,!b.b:-d.d:-!e,a.", 5, 7);
    }

    private static void order(Expect expect, RuleHall hall) {
        expect.refuses(hall, "a:-!a.a(X):-b,b,b,b,b,b.k", 1, 24);
        expect.refuses(hall, "a:-!a,b,b,b,b,b.c(X).a(1).", 2, 21);
        expect.refuses(hall, "a:-!a.c(X).c(1):-b,b,b,b,b,b.", 3, 11);
        expect.refuses(hall, "a:-!a.c(X).", 4, 6);
        expect.refuses(hall, "c(1).a:-!a.", 5, 9);
    }

    private static void fullTape(Expect expect, RuleHall hall) {
        expect.refuses(hall, "a.".repeat(240), 3, 32);
        expect.refuses(hall, "a.".repeat(239) + "a:", 1, 480);
        expect.refuses(hall, "a.".repeat(239) + " a", 1, 480);
        expect.refuses(hall, "a:-" + "b,".repeat(237) + "b ." , 3, 0);
        expect.refuses(hall, "a:-" + "b,".repeat(238) + "b", 1, 480);
        expect.refuses(hall, "a:-" + "1=1,".repeat(119) + "b", 1, 480);
        expect.refuses(hall, "a(" + "1".repeat(478), 1, 2);
        expect.refuses(hall, "a(0" + " ".repeat(477), 1, 480);
        expect.refuses(hall, " ".repeat(479) + ":", 1, 479);
        expect.takes(hall, " ".repeat(480));
        expect.takes(hall, "a" + " ".repeat(478) + ".");
    }

    private static void sound(Expect expect, RuleHall hall) {
        expect.takes(hall, "a(A,B,C):-b(A,B,C),c(Z),!d(Z),Z<A,B#C.");
        expect.takes(hall, "a:-b,c,d,e,f.");
        expect.takes(hall, "a(X):-X=1,b(X).");
        expect.takes(hall, "a(X):-!c(X),b(X).");
        expect.takes(hall, "a:-!b.b:-!c.c:-!d.");
        expect.takes(hall, "a:-a.b:-!a.");
        expect.takes(hall, "a:-b.b:-a.c:-!a,!b.");
        expect.takes(hall, "a(X,X,X):-b(X,X,X).");
    }
}
