/** Promise 2: type. */
public final class Promise02TypeTest {
    public static void main(String[] args) {
        Expect expect = new Expect();
        refusesWrongInput(expect);
        takesOrderOfBytes(expect);
        holdsAtMost480(expect);
        expect.finish();
    }

    private static void refusesWrongInput(Expect expect) {
        RuleHall hall = new RuleHall();
        long word = Expect.word("a(1).b. ");
        for (int n : new int[] {0, -1, 9, 16, 64, Integer.MAX_VALUE, Integer.MIN_VALUE}) {
            expect.no("type of " + n, hall.type(word, n));
        }
        for (int b = 0; b < 256; b++) {
            expect.same("type of byte " + b, new RuleHall().type(b, 1) ? 1 : 0, b >= 32 && b <= 126 ? 1 : 0);
        }
        for (int i = 0; i < 8; i++) {
            long bad = word & ~(255L << 8 * i);
            expect.no("a 0 at byte " + i, hall.type(bad, 8));
            expect.no("a 127 at byte " + i, hall.type(bad | 127L << 8 * i, 8));
            expect.no("a 255 at byte " + i, hall.type(bad | 255L << 8 * i, 8));
            expect.yes("a 255 beyond n", i == 0 || new RuleHall().type(bad | 255L << 8 * i, i));
        }
        expect.same("nothing has come to the tape", hall.compile(), 0);
    }

    private static void takesOrderOfBytes(Expect expect) {
        RuleHall hall = new RuleHall();
        expect.yes("type", hall.type(Expect.word("zzza(1)."), 5));
        expect.yes("type", hall.type(Expect.word("b"), 1));
        expect.yes("type", hall.type(Expect.word("."), 1));
        expect.same("compile", hall.compile(), 2);
        expect.yes("holds", hall.holds(0, 1, 0, 0));
        expect.yes("holds", hall.holds(1, 0, 0, 0));
    }

    private static void holdsAtMost480(Expect expect) {
        RuleHall hall = new RuleHall();
        for (int i = 0; i < 59; i++) {
            expect.yes("type", hall.type(Expect.word("        "), 8));
        }
        expect.yes("to 476", hall.type(Expect.word("   a"), 4));
        expect.no("to 481", hall.type(Expect.word("    ."), 5));
        expect.yes("to 480", hall.type(Expect.word("   ."), 4));
        expect.no("beyond 480", hall.type(Expect.word(" "), 1));
        expect.same("compile", hall.compile(), 1);
        expect.yes("the tape is empty again", hall.type(Expect.word("b.c.d.e."), 8));
        expect.same("compile", hall.compile(), 4);
    }
}
