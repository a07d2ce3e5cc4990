/** Counts the answers that are not as due, and has the calls that the tests make again and again. */
final class Expect {
    private int asked = 0;
    private int wrong = 0;

    void same(String call, long got, long due) {
        asked++;
        if (got != due) {
            wrong++;
            System.out.println(call + " answered " + got + ", due is " + due);
        }
    }

    void yes(String call, boolean got) {
        same(call, got ? 1 : 0, 1);
    }

    void no(String call, boolean got) {
        same(call, got ? 1 : 0, 0);
    }

    /** A program that is taken, on a new object. */
    RuleHall hall(String text) {
        RuleHall hall = new RuleHall();
        takes(hall, text);
        return hall;
    }

    void takes(String text) {
        hall(text);
    }

    void takes(RuleHall hall, String text) {
        yes("type " + text, type(hall, text));
        no("compile " + text + " throws", throwsAtCompile(hall));
        same("fault(0) of " + text, hall.fault(0), 0);
        same("fault(1) of " + text, hall.fault(1), 0);
    }

    void refuses(String text, int fault, int place) {
        refuses(new RuleHall(), text, fault, place);
    }

    void refuses(RuleHall hall, String text, int fault, int place) {
        yes("type " + text, type(hall, text));
        yes("compile " + text + " throws", throwsAtCompile(hall));
        same("fault(0) of " + text, hall.fault(0), fault);
        same("fault(1) of " + text, hall.fault(1), place);
    }

    void none(String call, long got) {
        same(call, got, RuleHall.NONE);
    }

    /** Puts facts, each written as a predicate and its constants with blanks between, and commits. */
    int commit(RuleHall hall, String... facts) {
        for (String fact : facts) {
            boolean away = fact.startsWith("-");
            int[] f = parse(away ? fact.substring(1) : fact);
            yes(fact, away ? hall.remove(f[0], f[1], f[2], f[3]) : hall.put(f[0], f[1], f[2], f[3]));
        }
        return hall.commit();
    }

    /** All facts of a predicate that hold, as their numbers. */
    void facts(RuleHall hall, char predicate, int... due) {
        int p = predicate - 'a';
        same("predicate(" + p + ", 3)", hall.predicate(p, 3), due.length);
        for (int k = 0; k < due.length; k++) {
            same("fact(" + p + ", " + k + ")", hall.fact(p, k), due[k]);
        }
        same("fact(" + p + ", " + due.length + ")", hall.fact(p, due.length), RuleHall.NONE);
    }

    void log(RuleHall hall, int logged, int safe, int staged, int saved) {
        same("log(0)", hall.log(0), logged);
        same("log(1)", hall.log(1), safe);
        same("log(2)", hall.log(2), staged);
        same("log(3)", hall.log(3), saved);
    }

    void change(RuleHall hall, int k, char predicate, int number, int now) {
        same("changed(" + k + ", 0)", hall.changed(k, 0), predicate - 'a');
        same("changed(" + k + ", 1)", hall.changed(k, 1), number);
        same("changed(" + k + ", 2)", hall.changed(k, 2), now);
    }

    void noChange(RuleHall hall, int k) {
        for (int what = 0; what < 3; what++) {
            same("changed(" + k + ", " + what + ")", hall.changed(k, what), RuleHall.NONE);
        }
    }

    static int[] parse(String fact) {
        String[] words = fact.split(" ");
        int[] f = {words[0].charAt(0) - 'a', 0, 0, 0};
        for (int i = 1; i < words.length; i++) {
            f[i] = Integer.parseInt(words[i]);
        }
        return f;
    }

    static boolean type(RuleHall hall, String text) {
        boolean all = true;
        for (int from = 0; from < text.length(); from += 8) {
            String piece = text.substring(from, Math.min(text.length(), from + 8));
            all &= hall.type(word(piece), piece.length());
        }
        return all;
    }

    static long word(String piece) {
        long word = 0;
        for (char c : piece.toCharArray()) {
            word = word << 8 | c;
        }
        return word;
    }

    static boolean throwsAtCompile(RuleHall hall) {
        try {
            hall.compile();
            return false;
        } catch (IllegalArgumentException e) {
            return e.getClass() == IllegalArgumentException.class;
        }
    }

    static boolean throwsAtCommit(RuleHall hall) {
        try {
            hall.commit();
            return false;
        } catch (IllegalStateException e) {
            return e.getClass() == IllegalStateException.class;
        }
    }

    /** A case that asks nothing proves nothing. */
    boolean isAsDue() {
        return asked > 0 && wrong == 0;
    }
}
