import java.util.regex.Matcher;
import java.util.regex.Pattern;

/** Fault 1 against a regular expression: texts are spoilt, and the longest start that can go on is looked for. */
public final class SyntaxTest {
    private static final String TERM = " *(?:[A-Z]|[0-9]+) *";
    private static final String ATOM = " *[a-j] *(?:\\(" + TERM + "(?:," + TERM + "){0,2}\\))? *";
    private static final String PART = "(?:(?: *!)?" + ATOM + "|" + TERM + "[=#<]" + TERM + ")";
    private static final Pattern PROGRAM = Pattern.compile("(?:" + ATOM + "(?::-" + PART + "(?:," + PART + ")*)?\\.)* *");
    private static final Pattern NUMBER = Pattern.compile("[0-9]+");

    private static final String[] SEEDS = {
        "a(X):-b(X,1),!c(11),X<3.b(1,10).",
        "a.b:-a,!c. c : - d.",
        " a ( 1 , X , 11 ) :- ! b ( 0 ) , X = 2 , b ( X ) . ",
        "a(X,Y,Z):-b(X,Y,Z),X#Y,12<Z.",
        "a:-1=2,3<4,X#Y,b(X,Y).c.d.e.",
    };
    private static final String PIECES = "abjkzAZ0129(),.:-!=#< ~>";

    public static void main(String[] args) {
        Cases cases = new Cases("Promise 4, fault");
        cases.check("fault 1 of spoilt texts is where the regular expression breaks off", SyntaxTest::spoiltTexts);
        cases.finish();
    }

    private static void spoiltTexts(Expect expect) {
        Numbers numbers = new Numbers(5);
        for (int i = 0; i < 20000; i++) {
            RuleHall hall = new RuleHall();
            String text = spoil(SEEDS[numbers.below(SEEDS.length)], numbers);
            int due = placeOf(text);
            Expect.type(hall, text);
            Expect.throwsAtCompile(hall);
            expect.same("syntax fault in " + text, hall.fault(0) == 1 ? hall.fault(1) : -1, due);
        }
    }

    private static String spoil(String text, Numbers numbers) {
        StringBuilder spoilt = new StringBuilder(text);
        for (int n = numbers.below(4); n > 0 && spoilt.length() > 0; n--) {
            int at = numbers.below(spoilt.length());
            char piece = PIECES.charAt(numbers.below(PIECES.length()));
            switch (numbers.below(4)) {
                case 0:
                    spoilt.deleteCharAt(at);
                    break;
                case 1:
                    spoilt.setCharAt(at, piece);
                    break;
                case 2:
                    spoilt.insert(at, piece);
                    break;
                default:
                    spoilt.setLength(numbers.oneIn(3) ? at : spoilt.length());
            }
        }
        return spoilt.toString();
    }

    /** -1 if the text is a program. */
    static int placeOf(String text) {
        int place = loosePlaceOf(text);
        int end = place < 0 ? text.length() : place;
        Matcher number = NUMBER.matcher(text);
        while (number.find() && number.start() < end) {
            String digits = number.group();
            if (digits.length() > 2 || Integer.parseInt(digits) > 11 || digits.length() > 1 && digits.charAt(0) == '0') {
                return number.start();
            }
        }
        return place;
    }

    /** Takes every row of digits for a constant. */
    private static int loosePlaceOf(String text) {
        if (PROGRAM.matcher(text).matches()) {
            return -1;
        }
        for (int length = 1; length <= text.length(); length++) {
            Matcher start = PROGRAM.matcher(text.substring(0, length));
            if (!start.matches() && !start.hitEnd()) {
                return length - 1;
            }
        }
        return text.length();
    }
}
