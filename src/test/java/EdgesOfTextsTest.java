/** The sentences of "Terms" that hold for texts of every kind, and the weight, at their edges. */
public final class EdgesOfTextsTest {
    private static final String DATE = "Sun, 06 Nov 1994 08:49:37 GMT";
    /** A well formed text for each field. */
    private static final String[] PLAIN = {"a/b", "en", "\"a\"", "\"a\"", DATE, DATE, "\"a\"", "bytes=0-1"};
    private static final String TOKEN = "ABCDEFGHIJKLMNOPQRSTUVWXYZabcdefghijklmnopqrstuvwxyz0123456789!#$%&'*+-.^_|~\u0060";

    public static void main(String[] args) {
        Sentence.holds("CHARACTERS have the codes 1 .. 255.", EdgesOfTextsTest::characters);
        Sentence.holds("SPACE is 32, TAB 9; a GAP is a row of spaces and tabs, perhaps none.", EdgesOfTextsTest::gaps);
        Sentence.holds("A DIGIT is 48 .. 57.", EdgesOfTextsTest::digits);
        Sentence.holds("A TOKEN is a row of at least one letter, digit, or one of the characters ! # $ % & ' * + - . ^ _ | ~ and 96.",
            EdgesOfTextsTest::tokens);
        Sentence.holds("A QUOTED TEXT begins and ends with 34", EdgesOfTextsTest::marksOfQuotedTexts);
        Sentence.holds("in between are characters of 32 .. 255 but 127, and tabs", EdgesOfTextsTest::insideOfQuotedTexts);
        Sentence.holds("92 and one of these characters together stand for that character itself", EdgesOfTextsTest::behindBackslash);
        Sentence.holds("34 and 92 don't stand alone there.", EdgesOfTextsTest::markAndBackslashAlone);
        Sentence.holds("Letters A .. Z and a .. z of the same place are ALIKE where that is said.", EdgesOfTextsTest::alike);
        Sentence.holds("A LIST is a row of ELEMENTS with commas between them and gaps around each", EdgesOfTextsTest::lists);
        Sentence.holds("elements that are empty count for nothing.", EdgesOfTextsTest::emptyElements);
        Sentence.holds("A field's text is WELL FORMED when it is, with a gap before and behind it, all of what is said of its kind",
            EdgesOfTextsTest::wellFormed);
        Sentence.holds("and the list, where it is one, has an element at least.", EdgesOfTextsTest::listsWithoutElement);
        Sentence.holds("WEIGHT: behind an element of 0 or 1 there may be a gap, a semicolon, a gap, q or Q, =, and a number",
            EdgesOfTextsTest::weightsPlace);
        Sentence.holds("0 or 1, perhaps with a point and up to three digits (none, too), after 1 only zeros.", EdgesOfTextsTest::weightsNumber);
        Sentence.holds("It is told in thousandths; 1000 where there is none.", EdgesOfTextsTest::thousandths);
        Desk.end();
    }

    private static void characters() {
        for (int code = 1; code <= 255; code++) {
            OriginDesk desk = Desk.withOne(20, false);
            Desk.due("feed of the code " + code, desk.feed(Desk.MATCH, code), 1);
            Desk.due("the code " + code + " is there", desk.respond(), code == '*' ? 200 : 412);
        }
        OriginDesk none = Desk.withOne(20, false);
        Desk.due("feed of the code 0", none.feed(Desk.MATCH, 0), 0);
        Desk.due("the code 0 isn't there", none.respond(), 200);
    }

    private static void gaps() {
        for (int code = 1; code <= 255; code++) {
            boolean gap = code == 32 || code == 9;
            Desk.formed(Desk.MATCH, (char) code + "*", gap);
            Desk.formed(Desk.MATCH, "*" + (char) code, gap);
            Desk.formed(Desk.MODIFIED, (char) code + DATE, gap);
            Desk.formed(Desk.MODIFIED, DATE + (char) code, gap);
            Desk.formed(Desk.IF_RANGE, "\"a\"" + (char) code, gap);
            Desk.formed(Desk.LANGUAGES, "en;" + (char) code + "q=1", gap);
            Desk.formed(Desk.LANGUAGES, "en" + (char) code + ";q=1", gap || isLetter(code));
        }
        Desk.formed(Desk.MATCH, "*", true);
        Desk.formed(Desk.MATCH, " \t \t\t*\t  ", true);
        Desk.formed(Desk.MATCH, " ".repeat(95) + "*", true);
        Desk.formed(Desk.MATCH, "*" + "\t".repeat(95), true);
    }

    private static void digits() {
        for (int code = 1; code <= 255; code++) {
            boolean digit = code >= 48 && code <= 57;
            String one = String.valueOf((char) code);
            Desk.formed(Desk.RANGE, "bytes=" + one + "-", digit);
            Desk.formed(Desk.RANGE, "bytes=-" + one, digit);
            Desk.formed(Desk.RANGE, "bytes=0-9" + one + ",1-1", digit || code == ' ' || code == '\t' || code == ',');
            Desk.formed(Desk.MODIFIED, "Sun, 1" + one + " Nov 1994 08:49:37 GMT", digit);
            Desk.formed(Desk.MODIFIED, "Sun, 06 Nov 199" + one + " 08:49:37 GMT", digit);
            Desk.formed(Desk.MODIFIED, "Sun, 06 Nov 1994 08:49:3" + one + " GMT", digit);
            Desk.formed(Desk.ACCEPT, "a/b;q=0." + one + "9", digit);
        }
    }

    private static void tokens() {
        for (int code = 1; code <= 255; code++) {
            String one = String.valueOf((char) code);
            boolean fits = TOKEN.contains(one);
            Desk.formed(Desk.ACCEPT, one + "/b", fits && code != '*');
            Desk.formed(Desk.ACCEPT, "a/" + one, fits);
            Desk.formed(Desk.ACCEPT, "a/b;" + one + "=x", fits && code != 'q' && code != 'Q');
            Desk.formed(Desk.ACCEPT, "a/b;c=" + one, fits);
            Desk.formed(Desk.ACCEPT, "a/b;c" + one + "d=x", fits);
        }
        Desk.formed(Desk.ACCEPT, "/b", false);
        Desk.formed(Desk.ACCEPT, "a/", false);
        Desk.formed(Desk.ACCEPT, "a/b;=x", false);
        Desk.formed(Desk.ACCEPT, "a/b;c=", false);
        Desk.formed(Desk.ACCEPT, "a".repeat(94) + "/b", true);
        Desk.formed(Desk.ACCEPT, "a/" + "b".repeat(94), true);
        Desk.formed(Desk.ACCEPT, "a".repeat(95) + "/", false);
    }

    private static void marksOfQuotedTexts() {
        Desk.formed(Desk.ACCEPT, "a/b;c=\"\"", true);
        Desk.formed(Desk.ACCEPT, "a/b;c=\"x\"", true);
        Desk.formed(Desk.ACCEPT, "a/b;c=\"" + "x".repeat(88) + "\"", true);
        Desk.formed(Desk.ACCEPT, "a/b;c=\"", false);
        Desk.formed(Desk.ACCEPT, "a/b;c=\"x", false);
        Desk.formed(Desk.ACCEPT, "a/b;c=\"" + "x".repeat(89), false);
        Desk.formed(Desk.ACCEPT, "a/b;c=x\"", false);
        Desk.formed(Desk.ACCEPT, "a/b;c='x y'", false);
        Desk.formed(Desk.ACCEPT, "a/b;c=\"x\",", true);
    }

    private static boolean isQuotable(int code) {
        return code == 9 || code >= 32 && code != 127;
    }

    private static void insideOfQuotedTexts() {
        for (int code = 1; code <= 255; code++) {
            if (code != 34 && code != 92) {
                Desk.formed(Desk.ACCEPT, "a/b;c=\"" + (char) code + "\"", isQuotable(code));
                Desk.formed(Desk.ACCEPT, "a/b;c=\"x" + (char) code + "y\"", isQuotable(code));
            }
        }
    }

    private static void behindBackslash() {
        for (int code = 1; code <= 255; code++) {
            Desk.formed(Desk.ACCEPT, "a/b;c=\"\\" + (char) code + "\"", isQuotable(code));
            // A text that isn't well formed counts as if it weren't there.
            Desk.typeQuality(4, "text/html;level=\"\\" + (char) code + "\"", code == '1' || !isQuotable(code) ? 1000 : 0);
        }
        Desk.formed(Desk.ACCEPT, "a/b;c=\"\\\\\\\"\\x\"", true);
    }

    private static void markAndBackslashAlone() {
        Desk.formed(Desk.ACCEPT, "a/b;c=\"\"\"", false);
        Desk.formed(Desk.ACCEPT, "a/b;c=\"x\"y\"", false);
        Desk.formed(Desk.ACCEPT, "a/b;c=\"\\\"", false);
        Desk.formed(Desk.ACCEPT, "a/b;c=\"x\\\"", false);
        Desk.formed(Desk.ACCEPT, "a/b;c=\"\\", false);
        Desk.formed(Desk.ACCEPT, "a/b;c=\"\\\\\\\"", false);
        Desk.formed(Desk.ACCEPT, "a/b;c=\"" + "x".repeat(88) + "\\", false);
    }

    /** Every character in every place of each type's and language's name. */
    private static void alike() {
        String[] types = {"text/html", "text/plain", "application/json", "image/png", "text/html", "image/svg+xml"};
        for (int type = 0; type < types.length; type++) {
            for (int place = 0; place < types[type].length(); place++) {
                alikeInType(type, types[type], place);
            }
        }
        String[] languages = {"en", "en-us", "de", "de-at", "fr"};
        for (int language = 0; language < languages.length; language++) {
            for (int place = 0; place < languages[language].length(); place++) {
                alikeInLanguage(language, languages[language], place);
            }
        }
    }

    private static void alikeInType(int type, String name, int place) {
        char right = name.charAt(place);
        for (char other : TOKEN.toCharArray()) {
            if (right != '/' && other != '*') {
                String range = name.substring(0, place) + other + name.substring(place + 1);
                Desk.typeQuality(type, range, isAlike(other, right) ? 1000 : 0);
            }
        }
    }

    private static void alikeInLanguage(int language, String name, int place) {
        char right = name.charAt(place);
        for (char other = 'A'; other <= 'z'; other++) {
            if (right != '-' && isLetter(other)) {
                String range = name.substring(0, place) + other + name.substring(place + 1);
                Desk.languageQuality(language, range, isAlike(other, right) ? 1000 : 0);
            }
        }
    }

    private static boolean isAlike(char one, char other) {
        return one == other || isLetter(other) && Math.abs(one - other) == 32;
    }

    private static boolean isLetter(int code) {
        return code >= 'A' && code <= 'Z' || code >= 'a' && code <= 'z';
    }

    private static void lists() {
        String[] elements = {"a/b;c=\"x\"", "en", "\"a\"", "W/\"a\"", "", "", "", "0-1"};
        for (int field : new int[] {Desk.ACCEPT, Desk.LANGUAGES, Desk.MATCH, Desk.NONE_MATCH, Desk.RANGE}) {
            String begin = field == Desk.RANGE ? "bytes=" : "";
            String one = elements[field];
            Desk.formed(field, begin + one, true);
            Desk.formed(field, begin + one + "," + one, true);
            Desk.formed(field, begin + " " + one + " ,\t" + one + "\t, " + one + " \t", true);
            Desk.formed(field, begin + one + " " + one, false);
            Desk.formed(field, begin + one + "\t" + one, false);
            Desk.formed(field, begin + one + ";" + one, false);
            Desk.formed(field, begin + one + "," + one + ",x y", false);
        }
        Desk.formed(Desk.LANGUAGES, "a" + ",b".repeat(47), true);
        Desk.formed(Desk.LANGUAGES, "a" + ",b".repeat(46) + ",-", false);
    }

    private static void emptyElements() {
        for (String list : new String[] {",en", "en,", ",,en", "en,,", " , ,\t, en , , ", ",".repeat(94) + "en", "en" + ",".repeat(94)}) {
            Desk.formed(Desk.LANGUAGES, list, true);
        }
        Desk.formed(Desk.ACCEPT, ",a/b,,c/d,", true);
        Desk.formed(Desk.MATCH, ",\"a\", ,\"b\",", true);
        Desk.formed(Desk.NONE_MATCH, ", \t,W/\"a\"", true);
        OriginDesk desk = Desk.withOne(20, false);
        Desk.due("four specs and empty ones", Desk.get(desk, Desk.RANGE, "bytes=,0-0,,2-2, ,4-4,\t,6-6,,,"), 206);
        Desk.due("they are four", desk.parts(), 4);
    }

    private static void wellFormed() {
        for (int field = 0; field < PLAIN.length; field++) {
            Desk.formed(field, PLAIN[field], true);
            Desk.formed(field, " " + PLAIN[field], true);
            Desk.formed(field, PLAIN[field] + "\t", true);
            Desk.formed(field, "\t  " + PLAIN[field] + " \t ", true);
            Desk.formed(field, PLAIN[field] + "(", false);
            Desk.formed(field, PLAIN[field] + " x", false);
            Desk.formed(field, "( " + PLAIN[field], false);
            Desk.formed(field, PLAIN[field].substring(1), field == Desk.LANGUAGES);
            Desk.formed(field, " ".repeat(96 - PLAIN[field].length()) + PLAIN[field], true);
        }
    }

    private static void listsWithoutElement() {
        for (String empty : new String[] {"", " ", "\t", ",", ",,", " , ", " , \t,", ",".repeat(96)}) {
            for (int field = Desk.ACCEPT; field <= Desk.NONE_MATCH; field++) {
                Desk.formed(field, empty, false);
            }
            String specs = empty.length() > 90 ? empty.substring(6) : empty;
            Desk.formed(Desk.RANGE, "bytes=" + specs, false);
        }
    }

    private static void weightsPlace() {
        for (String behind : new String[] {"", ";q=1", ";Q=1", " ;q=1", "; q=1", "\t \t;\t \tq=1", " ; Q=1 "}) {
            weighed(behind, true);
        }
        for (String behind : new String[] {";", ";q", ";q=", ";=1", "q=1", ";q =1", ";q= 1", ";q\t=1", ";q1", ";q=1;q=1", ";q=1;", ";r=1x(", " q=1", ";;q=1"}) {
            weighed(behind, false);
        }
        for (int field : new int[] {Desk.MATCH, Desk.NONE_MATCH, Desk.IF_RANGE, Desk.RANGE}) {
            Desk.formed(field, PLAIN[field] + ";q=1", false);
        }
        Desk.formed(Desk.MATCH, "*;q=1", false);
        for (int field = Desk.ACCEPT; field <= Desk.LANGUAGES; field++) {
            for (String alone : new String[] {";q=1", " ; q=1", "q=1", ",;q=1"}) {
                Desk.formed(field, alone, false);
                Desk.formed(field, PLAIN[field] + "," + alone, false);
            }
        }
        Desk.formed(Desk.ACCEPT, ";c=d", false);
    }

    private static void weighed(String behind, boolean want) {
        Desk.formed(Desk.ACCEPT, "a/b;c=d" + behind, want);
        Desk.formed(Desk.ACCEPT, "*/*" + behind, want);
        Desk.formed(Desk.LANGUAGES, "en-us" + behind, want);
        Desk.formed(Desk.LANGUAGES, "*" + behind, want);
    }

    private static void weightsNumber() {
        for (int digits = 0; digits <= 4; digits++) {
            for (int number = 0; number < Math.pow(10, digits); number += digits < 4 ? 1 : 37) {
                String fraction = digits == 0 ? "." : String.format(".%0" + digits + "d", number);
                Desk.formed(Desk.LANGUAGES, "en;q=0" + fraction, digits <= 3);
                Desk.formed(Desk.LANGUAGES, "en;q=1" + fraction, digits <= 3 && number == 0);
            }
        }
        for (char begin = '0'; begin <= '9'; begin++) {
            Desk.formed(Desk.ACCEPT, "a/b;q=" + begin, begin <= '1');
            Desk.formed(Desk.ACCEPT, "a/b;q=" + begin + ".", begin <= '1');
            Desk.formed(Desk.ACCEPT, "a/b;q=0" + begin, false);
            Desk.formed(Desk.ACCEPT, "a/b;q=1" + begin, false);
        }
        for (String wrong : new String[] {".5", ".", "-0", "+1", "0,5", "0..5", "0.5.", "0. 5", "0 .5", "1.0000", "0.0000", "1e0", "a", "\"1\""}) {
            Desk.formed(Desk.ACCEPT, "a/b;q=" + wrong, false);
            Desk.formed(Desk.LANGUAGES, "*;q=" + wrong, false);
        }
    }

    private static void thousandths() {
        for (int weight = 0; weight < 1000; weight++) {
            String three = String.format("0.%03d", weight);
            Desk.typeQuality(0, "text/html;q=" + three, weight);
            Desk.languageQuality(0, "en;q=" + three, weight);
            if (weight % 10 == 0) {
                Desk.languageQuality(0, "en;q=" + three.substring(0, 4), weight);
            }
            if (weight % 100 == 0) {
                Desk.typeQuality(0, "text/html;q=" + three.substring(0, 3), weight);
            }
        }
        for (String full : new String[] {"", ";q=1", ";q=1.", ";q=1.0", ";q=1.00", ";q=1.000"}) {
            Desk.typeQuality(0, "text/html" + full, 1000);
            Desk.languageQuality(0, "en" + full, 1000);
        }
        Desk.typeQuality(0, "text/html;q=0", 0);
        Desk.typeQuality(0, "text/html;q=0.", 0);
    }
}
