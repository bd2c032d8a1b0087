/** The sentences on ACCEPT, LANGUAGES, the score and the choice, at their edges. */
public final class EdgesOfChoiceTest {
    private static final int BAD = OriginDesk.BAD;
    private static final int NO_LANGUAGE = 5;

    public static void main(String[] args) {
        Sentence.holds("a token, a slash, a token, where the second may be * alone, and the first only if the second is, too"
            + " (no other token of these two has a *)", EdgesOfChoiceTest::stars);
        Sentence.holds("then PARAMETERS, each a gap, a semicolon, a gap, a token that isn't q or Q, =, a token or a quoted text",
            EdgesOfChoiceTest::parameters);
        Sentence.holds("a token or a quoted text; then perhaps a weight.", EdgesOfChoiceTest::weightIsLast);
        Sentence.holds("A range MATCHES a type when its two tokens are the type's (alike), or *, and each of its parameters is one of the type's",
            EdgesOfChoiceTest::typesThatMatch);
        Sentence.holds("(names alike, values the same: of a quoted text what it says, without its marks, and a 92 for what stands behind it)",
            EdgesOfChoiceTest::valuesThatMatch);
        Sentence.holds("any type (a star on both sides of the /) 0, a type and * 1, both tokens 2, and 1 more for each parameter.",
            EdgesOfChoiceTest::specific);
        Sentence.holds("The QUALITY of a type is the weight of the most specific range that matches, of several the first one",
            EdgesOfChoiceTest::firstOfTheMostSpecific);
        Sentence.holds("of several the first one; 0 when none matches; 1000 when the field isn't there.", EdgesOfChoiceTest::noRangeOfTypes);
        Sentence.holds("*, or one to eight letters and then any number of: - and one to eight letters or digits; then perhaps a weight.",
            EdgesOfChoiceTest::languageRanges);
        Sentence.holds("A range matches a language when it is the same (alike), or the language begins so (alike) and - comes next.",
            EdgesOfChoiceTest::languagesThatMatch);
        Sentence.holds("* matches any that no other range matches.", EdgesOfChoiceTest::starOfLanguages);
        Sentence.holds("Of those that match, the longest counts, of several the first one", EdgesOfChoiceTest::longestOfLanguages);
        Sentence.holds("a language that none matches has the quality 0; 1000 when the field isn't there", EdgesOfChoiceTest::noRangeOfLanguages);
        Sentence.holds("a representation without a language has 1000 always.", EdgesOfChoiceTest::withoutLanguage);
        Sentence.holds("406 when no representation has a SCORE above 0: the product of the qualities of its type and its language.",
            EdgesOfChoiceTest::scoresAboveNothing);
        Sentence.holds("Otherwise the one with the greatest score is CHOSEN, of several the one with the least number.", EdgesOfChoiceTest::greatestScore);
        Sentence.holds("The score of representation n for the request as it is now; BAD when there is none.", EdgesOfChoiceTest::scoreOfTheRequestNow);
        Desk.end();
    }

    private static void stars() {
        for (String range : new String[] {"a/b", "a/*", "*/*"}) {
            Desk.formed(Desk.ACCEPT, range, true);
        }
        for (String range : new String[] {"*/a", "*", "*/", "/*", "**/*", "*/**", "a/**", "a/*b", "a/b*", "a*/b", "*a/b", "a*/*", "a/b*c", "**/**", "a/*/b"}) {
            Desk.formed(Desk.ACCEPT, range, false);
        }
        for (String range : new String[] {"a", "a/", "/a", "/", "a//b", "a/b/c", "a /b", "a/ b"}) {
            Desk.formed(Desk.ACCEPT, range, false);
        }
        Desk.formed(Desk.ACCEPT, "a/b;*=*;c*=**", true);
        Desk.formed(Desk.ACCEPT, "a/b;c=d*,e/f", true);
    }

    private static void parameters() {
        for (String behind : new String[] {"", ";c=d", " ;c=d", "; c=d", "\t ;\t c=d", ";c=\"\"", ";c=\"d\"", ";c=d;c=d", ";c=d;e=\"f\" ; g=h", ";qq=1", ";qQ=1",
            ";c=q", ";Qa=d", ";a=b".repeat(23)}) {
            Desk.formed(Desk.ACCEPT, "a/b" + behind, true);
        }
        for (String behind : new String[] {";", ";c", ";c=", ";=d", ";c=d;", ";;c=d", ";c=d;;e=f", ";c =d", ";c= d", ";c=d e=f", ";q=d", ";Q=d", ";q=\"1\"", ";c=d\"e\"",
            ";c=\"d\"e", ";\"c\"=d", "c=d"}) {
            Desk.formed(Desk.ACCEPT, "a/b" + behind, false);
        }
    }

    private static void weightIsLast() {
        Desk.formed(Desk.ACCEPT, "a/b;c=d;q=0.5", true);
        Desk.formed(Desk.ACCEPT, "a/b;q=0.5", true);
        Desk.formed(Desk.ACCEPT, "a/b;q=0.5;c=d", false);
        Desk.formed(Desk.ACCEPT, "a/b;q=0.5;q=0.5", false);
        Desk.formed(Desk.ACCEPT, "a/b;q=0.5 c=d", false);
        Desk.formed(Desk.ACCEPT, "a/b;q=0.5;c=d;q=0.5", false);
    }

    private static void typesThatMatch() {
        String[] names = {"text/html", "text/plain", "application/json", "image/png", "text/html;level=1", "image/svg+xml"};
        for (int type = 0; type < names.length; type++) {
            for (String range : names) {
                boolean same = range.equals(names[type]) || type == 4 && range.equals("text/html");
                Desk.typeQuality(type, range, same ? 1000 : 0);
                Desk.typeQuality(type, range.toUpperCase(), same ? 1000 : 0);
                Desk.typeQuality(type, range + ";charset=x", 0);
                Desk.typeQuality(type, range + "x", 0);
            }
            Desk.typeQuality(type, "*/*", 1000);
            Desk.typeQuality(type, names[type].substring(0, names[type].indexOf('/')) + "/*", 1000);
            Desk.typeQuality(type, "tex/*,texts/*,imag/*,images/*,applicatio/*,applications/*", 0);
            Desk.typeQuality(type, "*/*;level=1", type == 4 ? 1000 : 0);
            Desk.typeQuality(type, "*/*;level=1;level=1", type == 4 ? 1000 : 0);
            Desk.typeQuality(type, "*/*;level=1;charset=x", 0);
            Desk.typeQuality(type, "*/*;charset=x;level=1", 0);
        }
        Desk.typeQuality(2, "text/json,application/html", 0);
    }

    private static void valuesThatMatch() {
        for (String parameter : new String[] {"level=1", "LEVEL=1", "lEvEl=1", "level=\"1\"", "level=\"\\1\"", "Level=\"\\1\""}) {
            Desk.typeQuality(4, "text/html;" + parameter, 1000);
        }
        for (String parameter : new String[] {"level=2", "level=01", "level=11", "level=10", "level=\"\"", "level=\" 1\"", "level=\"1 \"", "level=\"\\\\1\"",
            "level=\"\\\"1\\\"\"", "level=\"\\1\\1\"", "leve=1", "levels=1", "l=1", "level=q", "level=\"\\\\\"", "1=level"}) {
            Desk.typeQuality(4, "text/html;" + parameter, 0);
        }
    }

    /** A range that comes first wins unless the second is more specific. */
    private static void specific() {
        String[] ranges = {"*/*", "text/*", "text/html", "text/html;level=1", "text/html;level=1;level=1"};
        int[] told = {0, 1, 2, 3, 4};
        String[] odd = {"*/*;level=1", "*/*;level=1;level=1", "text/*;level=1", "*/*;level=1;level=1;level=1", "text/*;level=1;level=1"};
        int[] oddTold = {1, 2, 2, 3, 3};
        for (int i = 0; i < ranges.length; i++) {
            for (int j = 0; j < ranges.length; j++) {
                goesFirst(ranges[i], told[i], ranges[j], told[j]);
                goesFirst(ranges[i], told[i], odd[j], oddTold[j]);
                goesFirst(odd[i], oddTold[i], ranges[j], told[j]);
                goesFirst(odd[i], oddTold[i], odd[j], oddTold[j]);
            }
        }
    }

    private static void goesFirst(String one, int oneTold, String other, int otherTold) {
        Desk.typeQuality(4, one + ";q=0.3," + other + ";q=0.7", oneTold >= otherTold ? 300 : 700);
    }

    private static void firstOfTheMostSpecific() {
        Desk.typeQuality(0, "text/html;q=0.3,text/html;q=0.9,text/html;q=0", 300);
        Desk.typeQuality(0, "text/html;q=0,text/html", 0);
        Desk.typeQuality(0, "*/*,text/*,text/html;q=0", 0);
        Desk.typeQuality(0, "*/*;q=0.1,text/*;q=0.2,text/*;q=0.9,*/*;q=0.8", 200);
        Desk.typeQuality(0, "*/*;q=0.1,image/png,*/*;q=0.8", 100);
        Desk.typeQuality(0, "text/html;level=1,text/html;charset=x,text/*;q=0.4", 400);
        Desk.typeQuality(4, "text/html;level=1;q=0.001,*/*", 1);
    }

    private static void noRangeOfTypes() {
        for (int type = 0; type < 6; type++) {
            Desk.typeQuality(type, "a/b", 0);
            Desk.typeQuality(type, "a/*,text/xml,image/svg,application/xml", 0);
            Desk.typeQuality(type, "", 1000);
            Desk.typeQuality(type, "a/b,", 0);
            Desk.typeQuality(type, "a/b;", 1000);
            Desk.typeQuality(type, ",", 1000);
        }
        OriginDesk desk = new OriginDesk(Desk.NOW);
        desk.add(0, 0, 1, 1, false, 0);
        Desk.ask(desk, 0, Desk.ACCEPT, "text/html;q=0.5");
        Desk.due("one matches", desk.score(0), 500000);
        Desk.ask(desk, 0, Desk.ACCEPT, "a/b");
        Desk.due("none matches any longer", desk.score(0), 0);
        desk.request(0);
        Desk.due("the field isn't there any longer", desk.score(0), 1000000);
    }

    private static void languageRanges() {
        for (String range : new String[] {"*", "a", "Z", "abcdefgh", "a-b", "a-1", "a-12345678", "a-abcdefgh", "abcdefgh-abcdefgh", "a-1b2c", "a-0-9", "a" + "-1".repeat(47),
            "*;q=0", "a-1;q=0.5"}) {
            Desk.formed(Desk.LANGUAGES, range, true);
        }
        for (String range : new String[] {"abcdefghi", "a-123456789", "a-abcdefghi", "a-b-abcdefghi", "-", "-a", "a-", "a--b", "a-b-", "1", "a1", "1a-b", "abcdefg1", "**", "*-a",
            "a-*", "*a", "a*", "a_b", "a b", "a-" + "b-".repeat(46), "a;c=d", "*;c=d"}) {
            Desk.formed(Desk.LANGUAGES, range, false);
        }
        for (int code = 1; code <= 255; code++) {
            boolean letter = code >= 'A' && code <= 'Z' || code >= 'a' && code <= 'z';
            boolean digit = code >= '0' && code <= '9';
            Desk.formed(Desk.LANGUAGES, String.valueOf((char) code), letter || code == '*');
            Desk.formed(Desk.LANGUAGES, "a-" + (char) code, letter || digit);
        }
    }

    private static void languagesThatMatch() {
        String[] names = {"en", "en-us", "de", "de-at", "fr"};
        String[] ranges = {"en", "en-us", "de", "de-at", "fr", "e", "en-u", "en-us-x", "en-usa", "e-n", "eng", "d", "de-a", "de-at-1", "f", "fr-fr", "us", "at", "n", "en-at", "de-us"};
        for (int language = 0; language < names.length; language++) {
            for (String range : ranges) {
                boolean fits = names[language].equals(range) || names[language].startsWith(range + "-");
                Desk.languageQuality(language, range, fits ? 1000 : 0);
                Desk.languageQuality(language, range.toUpperCase(), fits ? 1000 : 0);
            }
        }
    }

    private static void starOfLanguages() {
        for (int language = 0; language < 5; language++) {
            Desk.languageQuality(language, "*", 1000);
            Desk.languageQuality(language, "*;q=0.4,a", 400);
            Desk.languageQuality(language, "a,*;q=0", 0);
        }
        Desk.languageQuality(0, "*;q=0.9,en;q=0.1", 100);
        Desk.languageQuality(0, "en;q=0.1,*;q=0.9", 100);
        Desk.languageQuality(0, "en;q=0,*", 0);
        Desk.languageQuality(1, "*,en;q=0", 0);
        Desk.languageQuality(0, "*;q=0.9,en-us;q=0.1", 900);
        Desk.languageQuality(0, "*;q=0.3,*;q=0.9", 300);
    }

    private static void longestOfLanguages() {
        Desk.languageQuality(1, "en;q=0.9,en-us;q=0.1", 100);
        Desk.languageQuality(1, "en-us;q=0.1,en;q=0.9", 100);
        Desk.languageQuality(1, "en-us;q=0,en", 0);
        Desk.languageQuality(3, "de;q=0.2,*;q=0.9,de-at;q=0.3,de;q=0.4", 300);
        Desk.languageQuality(0, "en;q=0.9,en-us;q=0.1", 900);
        Desk.languageQuality(0, "en;q=0.2,EN;q=0.9,en;q=0", 200);
        Desk.languageQuality(1, "en-US;q=0.2,en-us;q=0.9", 200);
        Desk.languageQuality(4, "fr;q=0,fr", 0);
    }

    private static void noRangeOfLanguages() {
        for (int language = 0; language < 5; language++) {
            Desk.languageQuality(language, "es", 0);
            Desk.languageQuality(language, "es,", 0);
            Desk.languageQuality(language, "", 1000);
            Desk.languageQuality(language, "es-", 1000);
            Desk.languageQuality(language, ",", 1000);
        }
        OriginDesk desk = new OriginDesk(Desk.NOW);
        desk.add(0, 0, 1, 1, false, 0);
        Desk.ask(desk, 0, Desk.LANGUAGES, "en;q=0.5");
        Desk.due("one matches", desk.score(0), 500000);
        Desk.ask(desk, 0, Desk.LANGUAGES, "es");
        Desk.due("none matches any longer", desk.score(0), 0);
        desk.request(0);
        Desk.due("the field isn't there any longer", desk.score(0), 1000000);
    }

    private static void withoutLanguage() {
        for (String text : new String[] {"", "en", "*;q=0", "en;q=0,*;q=0", "none", "none;q=0", "es-", ","}) {
            Desk.languageQuality(NO_LANGUAGE, text, 1000);
        }
    }

    private static void scoresAboveNothing() {
        OriginDesk desk = new OriginDesk(Desk.NOW);
        desk.add(0, 0, 1, 1, false, 0);
        chooses(desk, "text/html;q=0.001", "en;q=0.001", 0);
        Desk.due("the least score above 0", desk.score(0), 1);
        chooses(desk, "", "", 0);
        Desk.due("the greatest score", desk.score(0), 1000000);
        chooses(desk, "text/html;q=0.999", "en;q=0.998", 0);
        Desk.due("a score", desk.score(0), 999 * 998);
        chooses(desk, "text/html;q=0", "en", BAD);
        Desk.due("a score of 0", desk.score(0), 0);
        chooses(desk, "text/html", "en;q=0", BAD);
        chooses(desk, "text/html;q=0", "en;q=0", BAD);
        chooses(desk, "a/b", "", BAD);
        chooses(desk, "", "fr", BAD);
        desk.add(1, 4, 1, 1, false, 0);
        chooses(desk, "text/html", "fr", BAD);
        chooses(desk, "text/plain;q=0.001", "fr;q=0.001", 1);
    }

    private static void greatestScore() {
        OriginDesk desk = new OriginDesk(Desk.NOW);
        for (int n = 0; n < 4; n++) {
            desk.add(n, n, 1, 1, false, 0);
        }
        chooses(desk, "", "", 0);
        chooses(desk, "text/plain;q=0.5,application/json;q=0.5,image/png;q=0.5", "", 1);
        chooses(desk, "text/plain;q=0.5,application/json;q=0.501,image/png;q=0.501", "", 2);
        chooses(desk, "*/*;q=0.5,image/png;q=0.501", "", 3);
        chooses(desk, "text/html;q=0.5,*/*", "en,en-us;q=0.5,*;q=0.5", 0);
        chooses(desk, "text/html;q=0.5,*/*", "en,en-us;q=0.501,*;q=0.5", 1);
        chooses(desk, "text/html;q=0.2,text/plain;q=0.3", "en;q=0.3,en-us;q=0.2", 0);
        chooses(desk, "text/html;q=0,*/*;q=0.001", "", 1);
    }

    private static void chooses(OriginDesk desk, String accept, String languages, int want) {
        Desk.due("respond to <" + accept + "> <" + languages + ">",
            Desk.get(desk, Desk.ACCEPT, accept, Desk.LANGUAGES, languages), want == BAD ? 406 : 200);
        Desk.due("chosen for <" + accept + "> <" + languages + ">", desk.chosen(), want);
    }

    private static void scoreOfTheRequestNow() {
        OriginDesk desk = new OriginDesk(Desk.NOW);
        Desk.due("none yet", desk.score(0), BAD);
        for (int n = 0; n < 4; n++) {
            desk.add(n, n, 1, 1, false, 0);
            Desk.due("the last one", desk.score(n), 1000000);
            Desk.due("one behind the last", desk.score(n + 1), BAD);
        }
        Desk.due("the number -1", desk.score(-1), BAD);
        Desk.due("the greatest number", desk.score(Integer.MAX_VALUE), BAD);
        Desk.due("the least number", desk.score(Integer.MIN_VALUE), BAD);
        Desk.feed(desk, Desk.ACCEPT, "text/plain");
        Desk.due("fed, without respond", desk.score(0), 0);
        Desk.due("fed, the other", desk.score(1), 1000000);
        Desk.feed(desk, Desk.ACCEPT, ";q=0.");
        Desk.due("fed more", desk.score(1), 0);
        Desk.feed(desk, Desk.ACCEPT, "5");
        Desk.due("fed still more", desk.score(1), 500000);
        desk.respond();
        desk.request(3);
        Desk.due("a new request, of any method", desk.score(1), 1000000);
        desk.clear();
        Desk.due("cleared", desk.score(0), BAD);
    }
}
