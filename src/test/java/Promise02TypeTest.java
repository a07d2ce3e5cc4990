/** Promise 2: type. What is on the tape is seen by where compile() finds its end, and by its rules. */
public final class Promise02TypeTest {
    public static void main(String[] args) {
        Cases cases = new Cases("Promise 2, type");
        cases.check("the n (1 .. 8) lowest bytes of word go to the tape: true", Promise02TypeTest::lowestBytes);
        cases.check("the highest first", Promise02TypeTest::highestFirst);
        cases.check("words go behind one another", Promise02TypeTest::oneBehindAnother);
        cases.check("what is in word beyond the n lowest bytes does not matter", Promise02TypeTest::bytesBeyond);
        cases.check("false, changing nothing, for n too small", expect -> otherNumber(expect, 0, -1, -8, Integer.MIN_VALUE));
        cases.check("false, changing nothing, for n too large", expect -> otherNumber(expect, 9, 16, 64, 257, 264, Integer.MAX_VALUE));
        cases.check("bytes 32 and 126 and all between are taken", Promise02TypeTest::printable);
        cases.check("false for a byte below 32", expect -> otherBytes(expect, 0, 31));
        cases.check("false for a byte above 126", expect -> otherBytes(expect, 127, 255));
        cases.check("false, changing nothing, for a byte at any place", Promise02TypeTest::badByteAtAnyPlace);
        cases.check("the tape takes 480 characters", Promise02TypeTest::takes480);
        cases.check("false, changing nothing, if it would have more than 480", Promise02TypeTest::refuses481);
        cases.check("480 go to the tape again behind a compile()", Promise02TypeTest::roomAgain);
        cases.finish();
    }

    /** A text whose only fault is that it ends too early has its length as the fault's place. */
    private static void lengthIs(Expect expect, RuleHall hall, int length) {
        expect.yes("compile throws", Expect.throwsAtCompile(hall));
        expect.same("fault(0)", hall.fault(0), 1);
        expect.same("length of the tape", hall.fault(1), length);
    }

    private static void lowestBytes(Expect expect) {
        for (int n = 1; n <= 8; n++) {
            RuleHall hall = new RuleHall();
            expect.yes("type of " + n, hall.type(Expect.word("a(0,1,2)".substring(8 - n)), n));
            hall = new RuleHall();
            expect.yes("type of " + n, hall.type(Expect.word("a       ".substring(0, n)), n));
            lengthIs(expect, hall, n);
        }
    }

    private static void highestFirst(Expect expect) {
        RuleHall hall = new RuleHall();
        expect.yes("type", hall.type(Expect.word("a(1,2)."), 7));
        expect.same("compile", hall.compile(), 1);
        expect.facts(hall, 'a', 14);
        expect.yes("type", hall.type(Expect.word("a(1,2,3)"), 8));
        expect.yes("type", hall.type(Expect.word("."), 1));
        expect.same("compile", hall.compile(), 1);
        expect.facts(hall, 'a', 171);
    }

    private static void oneBehindAnother(Expect expect) {
        RuleHall hall = new RuleHall();
        for (String piece : new String[] {"a", "(1", ").b", "(2)."}) {
            expect.yes("type", hall.type(Expect.word(piece), piece.length()));
        }
        expect.same("compile", hall.compile(), 2);
        expect.facts(hall, 'a', 1);
        expect.facts(hall, 'b', 2);
    }

    private static void bytesBeyond(Expect expect) {
        for (int n = 1; n < 8; n++) {
            for (long beyond : new long[] {0, 0x1f1f1f1f1f1f1f1fL, 0x4141414141414141L, -1}) {
                RuleHall hall = new RuleHall();
                long word = beyond << 8 * n | Expect.word("a       ".substring(0, n));
                expect.yes("type of " + n, hall.type(word, n));
                lengthIs(expect, hall, n);
            }
        }
    }

    private static void otherNumber(Expect expect, int... wrong) {
        RuleHall hall = new RuleHall();
        expect.yes("type", hall.type(Expect.word("a(1)"), 4));
        for (int n : wrong) {
            expect.no("type of " + n, hall.type(Expect.word("bbbbbbbb"), n));
        }
        lengthIs(expect, hall, 4);
    }

    private static void printable(Expect expect) {
        for (int b = 32; b <= 126; b++) {
            RuleHall hall = new RuleHall();
            expect.yes("type of byte " + b, hall.type(b, 1));
            expect.yes("type of eight times " + b, hall.type(b * 0x0101010101010101L, 8));
        }
    }

    private static void otherBytes(Expect expect, int from, int to) {
        for (int b = from; b <= to; b++) {
            RuleHall hall = new RuleHall();
            expect.no("type of byte " + b, hall.type(b, 1));
            expect.no("type of eight times " + b, hall.type(b * 0x0101010101010101L, 8));
            expect.same("compile of nothing", hall.compile(), 0);
        }
    }

    private static void badByteAtAnyPlace(Expect expect) {
        RuleHall hall = new RuleHall();
        expect.yes("type", hall.type(Expect.word("a(1)"), 4));
        for (int i = 0; i < 8; i++) {
            long gap = Expect.word(".b(1).c.") & ~(255L << 8 * i);
            for (long bad : new long[] {0, 31, 127, 128, 255}) {
                expect.no("a " + bad + " at byte " + i, hall.type(gap | bad << 8 * i, 8));
                expect.no("a " + bad + " at byte " + i + " of as many", hall.type(gap | bad << 8 * i, i + 1));
            }
        }
        lengthIs(expect, hall, 4);
    }

    private static void takes480(Expect expect) {
        RuleHall hall = new RuleHall();
        for (int i = 0; i < 60; i++) {
            expect.yes("word " + i, hall.type(Expect.word(i < 59 ? "        " : "  a(11)."), 8));
        }
        expect.same("compile", hall.compile(), 1);
        expect.facts(hall, 'a', 11);
    }

    private static void refuses481(Expect expect) {
        RuleHall hall = new RuleHall();
        expect.yes("to 476", Expect.type(hall, " ".repeat(475) + "a"));
        for (int n = 5; n <= 8; n++) {
            expect.no("to " + (476 + n), hall.type(Expect.word("bbbbbbbb"), n));
        }
        expect.yes("to 480", hall.type(Expect.word("   ."), 4));
        for (int n = 1; n <= 8; n++) {
            expect.no("to " + (480 + n), hall.type(Expect.word("bbbbbbbb"), n));
        }
        expect.same("compile", hall.compile(), 1);
        expect.same("b is unknown", hall.predicate(1, 0), 0);
    }

    private static void roomAgain(Expect expect) {
        RuleHall hall = new RuleHall();
        expect.yes("480", Expect.type(hall, "a" + " ".repeat(479)));
        lengthIs(expect, hall, 480);
        expect.yes("480 behind a fault", Expect.type(hall, "a" + " ".repeat(478) + "."));
        expect.same("compile", hall.compile(), 1);
        expect.yes("480 behind a program", Expect.type(hall, "b." + " ".repeat(478)));
        expect.no("481", hall.type(32, 1));
        expect.same("compile", hall.compile(), 1);
    }
}
