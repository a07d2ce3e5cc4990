import java.util.ArrayList;
import java.util.Arrays;
import java.util.List;
import java.util.TreeMap;
import java.util.TreeSet;

/**
 * The document in its plainest form, to be held against RuleHall: rules are trees, facts are in
 * sorted sets, and all constants are tried for all variables, in naive rounds.
 */
final class Model {
    /** A predicate with terms (a letter or a number each), or a comparison. */
    static final class Atom {
        char predicate = '?';
        char sign = ' ';
        final List<String> terms = new ArrayList<>();
        int place;
    }

    static final class Rule {
        Atom head;
        final List<Atom> body = new ArrayList<>();

        TreeSet<String> letters() {
            TreeSet<String> letters = lettersOf(head);
            for (Atom atom : body) {
                letters.addAll(lettersOf(atom));
            }
            return letters;
        }
    }

    List<Rule> rules = new ArrayList<>();
    TreeMap<Character, Integer> width = new TreeMap<>();
    TreeMap<Character, Integer> stratum = new TreeMap<>();
    TreeSet<Integer> base = new TreeSet<>();
    TreeSet<Integer> now = new TreeSet<>();
    TreeSet<Integer> before = new TreeSet<>();
    TreeSet<Integer> saved = new TreeSet<>();
    List<Integer> staged = new ArrayList<>();
    List<Integer> log = new ArrayList<>();
    int safe = 0;

    static TreeSet<String> lettersOf(Atom atom) {
        TreeSet<String> letters = new TreeSet<>();
        for (String term : atom.terms) {
            if (Character.isUpperCase(term.charAt(0))) {
                letters.add(term);
            }
        }
        return letters;
    }

    /** Rules of a text without faults and blanks. */
    static List<Rule> parse(String text) {
        List<Rule> rules = new ArrayList<>();
        for (String sentence : text.split("\\.")) {
            String[] halves = sentence.split(":-");
            Rule rule = new Rule();
            rule.head = parseAtom(halves[0]);
            // A comma with a ) ahead of any ( behind it is between terms.
            for (String part : halves.length < 2 ? new String[0] : halves[1].split(",(?![^(]*\\))")) {
                rule.body.add(parseAtom(part));
            }
            rules.add(rule);
        }
        return rules;
    }

    private static Atom parseAtom(String text) {
        Atom atom = new Atom();
        String[] terms;
        if (text.matches(".*[=#<].*")) {
            terms = text.split("[=#<]");
            atom.sign = text.charAt(terms[0].length());
        } else {
            String bare = text.startsWith("!") ? text.substring(1) : text;
            atom.sign = text.startsWith("!") ? '!' : ' ';
            atom.predicate = bare.charAt(0);
            terms = bare.length() == 1 ? new String[0] : bare.substring(2, bare.length() - 1).split(",");
        }
        atom.terms.addAll(Arrays.asList(terms));
        return atom;
    }

    /** {fault, place} of rules whose syntax is right. */
    static int[] faultOf(List<Rule> rules) {
        TreeMap<Character, Integer> seen = new TreeMap<>();
        for (Rule rule : rules) {
            for (Atom atom : atomsOf(rule)) {
                Integer earlier = seen.putIfAbsent(atom.predicate, atom.terms.size());
                if (earlier != null && earlier != atom.terms.size()) {
                    return new int[] {2, atom.place};
                }
            }
        }
        for (int r = 0; r < rules.size(); r++) {
            if (r == 16 || rules.get(r).body.size() > 5 || rules.get(r).letters().size() > 4) {
                return new int[] {3, rules.get(r).head.place};
            }
        }
        for (Rule rule : rules) {
            TreeSet<String> missing = rule.letters();
            for (Atom atom : rule.body) {
                if (atom.sign == ' ') {
                    missing.removeAll(lettersOf(atom));
                }
            }
            if (!missing.isEmpty()) {
                return new int[] {4, rule.head.place};
            }
        }
        for (Rule rule : rules) {
            for (Atom atom : rule.body) {
                if (atom.sign == '!' && dependsOn(rules, atom.predicate, rule.head.predicate)) {
                    return new int[] {5, atom.place};
                }
            }
        }
        return new int[] {0, 0};
    }

    private static List<Atom> atomsOf(Rule rule) {
        List<Atom> atoms = new ArrayList<>(List.of(rule.head));
        for (Atom atom : rule.body) {
            if (atom.predicate != '?') {
                atoms.add(atom);
            }
        }
        return atoms;
    }

    private static boolean dependsOn(List<Rule> rules, char from, char to) {
        TreeSet<Character> reached = new TreeSet<>(List.of(from));
        boolean grows = true;
        while (grows) {
            grows = false;
            for (Rule rule : rules) {
                if (reached.contains(rule.head.predicate)) {
                    for (Atom atom : atomsOf(rule)) {
                        grows |= reached.add(atom.predicate);
                    }
                }
            }
        }
        return reached.contains(to);
    }

    void take(List<Rule> taken) {
        rules = taken;
        width.clear();
        stratum.clear();
        for (Rule rule : rules) {
            for (Atom atom : atomsOf(rule)) {
                width.put(atom.predicate, atom.terms.size());
                stratum.putIfAbsent(atom.predicate, 0);
            }
            stratum.put(rule.head.predicate, 1);
        }
        boolean rises = true;
        while (rises) {
            rises = false;
            for (Rule rule : rules) {
                for (Atom atom : atomsOf(rule)) {
                    int least = stratum.get(atom.predicate) + (atom.sign == '!' ? 1 : 0);
                    if (stratum.get(rule.head.predicate) < least) {
                        stratum.put(rule.head.predicate, least);
                        rises = true;
                    }
                }
            }
        }
        base.clear();
        saved.clear();
        staged.clear();
        log.clear();
        safe = 0;
        deduce();
        before = new TreeSet<>(now);
    }

    /** A fact as a number that sorts by predicates and numbers; -1 if there is none such. */
    int fact(int p, int a, int b, int c) {
        Integer terms = p < 0 || p > 9 ? null : width.get((char) ('a' + p));
        if (terms == null) {
            return -1;
        }
        int number = 0;
        int[] constants = {a, b, c};
        for (int i = 0; i < terms; i++) {
            if (constants[i] < 0 || constants[i] > 11) {
                return -1;
            }
            number = number * 12 + constants[i];
        }
        return p * 10000 + number;
    }

    int sort(int p) {
        Integer s = stratum.get((char) ('a' + p));
        return s == null ? 0 : s == 0 ? 1 : 2;
    }

    boolean stage(boolean puts, int p, int a, int b, int c) {
        int fact = fact(p, a, b, c);
        if (fact < 0 || sort(p) != 1 || staged.size() == 64) {
            return false;
        }
        staged.add(puts ? fact : -1 - fact);
        return true;
    }

    /** -1 if it is refused. */
    int commit() {
        if (log.size() + staged.size() > 96) {
            return -1;
        }
        before = new TreeSet<>(now);
        replay(staged);
        log.addAll(staged);
        staged.clear();
        deduce();
        return changes().size();
    }

    int crash() {
        before = new TreeSet<>(now);
        log = new ArrayList<>(log.subList(0, safe));
        base = new TreeSet<>(saved);
        replay(log);
        staged.clear();
        deduce();
        return now.size();
    }

    int checkpoint() {
        saved = new TreeSet<>(base);
        log.clear();
        safe = 0;
        return saved.size();
    }

    private void replay(List<Integer> steps) {
        for (int step : steps) {
            if (step >= 0) {
                base.add(step);
            } else {
                base.remove(-1 - step);
            }
        }
    }

    List<Integer> changes() {
        TreeSet<Integer> all = new TreeSet<>(now);
        all.addAll(before);
        all.removeIf(fact -> now.contains(fact) && before.contains(fact));
        return new ArrayList<>(all);
    }

    List<Integer> factsOf(int p) {
        return new ArrayList<>(now.subSet(p * 10000, p * 10000 + 10000));
    }

    private void deduce() {
        now = new TreeSet<>(base);
        for (int s = 1; s <= 10; s++) {
            boolean grows = true;
            while (grows) {
                List<Integer> told = new ArrayList<>();
                for (Rule rule : rules) {
                    if (stratum.get(rule.head.predicate) == s) {
                        solve(rule, told);
                    }
                }
                grows = now.addAll(told);
            }
        }
    }

    int derivations(int fact) {
        List<Integer> told = new ArrayList<>();
        for (Rule rule : rules) {
            if (rule.head.predicate - 'a' == fact / 10000) {
                solve(rule, told);
            }
        }
        told.removeIf(other -> other != fact);
        return told.size();
    }

    /** Adds the rule's HEAD once for each choice of constants for which its BODY is so. */
    private void solve(Rule rule, List<Integer> told) {
        List<String> letters = new ArrayList<>(rule.letters());
        int[] values = new int[128];
        Arrays.fill(values, -1);
        choose(rule, letters, 0, values, told);
    }

    private void choose(Rule rule, List<String> letters, int next, int[] values, List<Integer> told) {
        for (Atom atom : rule.body) {
            if (isBound(atom, values) && !isSo(atom, values)) {
                return;
            }
        }
        if (next == letters.size()) {
            told.add(instance(rule.head, values));
            return;
        }
        char letter = letters.get(next).charAt(0);
        for (int v = 0; v < 12; v++) {
            values[letter] = v;
            choose(rule, letters, next + 1, values, told);
        }
        values[letter] = -1;
    }

    private static boolean isBound(Atom atom, int[] values) {
        for (String term : atom.terms) {
            if (valueOf(term, values) < 0) {
                return false;
            }
        }
        return true;
    }

    private boolean isSo(Atom atom, int[] values) {
        if (atom.predicate != '?') {
            return now.contains(instance(atom, values)) == (atom.sign == ' ');
        }
        int left = valueOf(atom.terms.get(0), values);
        int right = valueOf(atom.terms.get(1), values);
        return atom.sign == '=' ? left == right : atom.sign == '#' ? left != right : left < right;
    }

    private static int instance(Atom atom, int[] values) {
        int number = 0;
        for (String term : atom.terms) {
            number = number * 12 + valueOf(term, values);
        }
        return (atom.predicate - 'a') * 10000 + number;
    }

    private static int valueOf(String term, int[] values) {
        return Character.isUpperCase(term.charAt(0)) ? values[term.charAt(0)] : Integer.parseInt(term);
    }
}
