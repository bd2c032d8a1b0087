/** Promises 14 and 15 for field 1, and the product of two qualities. */
public final class LanguagesTest {
    private static final int BAD = OriginDesk.BAD;

    public static void main(String[] args) {
        texts();
        ranges();
        longestCounts();
        noLanguage();
        products();
        scoreIsOfTheRequestNow();
        Desk.end();
    }

    private static void texts() {
        String[] formed = {
            "en", "*", "en-us", "EN", "abcdefgh", "a-12345678", "a-b-c-d-1", " en\t", ",en,", "en , de", "en;q=0.5", "en ; Q=0.5",
            "*;q=0", "*,*", "en-x1-2y", "az", "za", "AZ", "ZA", "a-09", "a-zZ"
        };
        String[] malformed = {
            "", " ", ",,", "abcdefghi", "a-123456789", "en-", "-us", "en--us", "e1", "1e", "en_us", "en us", "**", "*-us", "en-*", "en;",
            "en;q", "en;q=", "en;q=2", "en;a=b", "en;q=1;q=1", "en;q=0.1234", "en\u00e4", "en;;q=1", "en;q =1", "en;q= 1", "en.us",
            "en`", "`", "en@", "@", "en[", "[", "en{", "{", "a-0/", "a-9:"
        };
        for (String text : formed) {
            Desk.formed(Desk.LANGUAGES, text, true);
        }
        for (String text : malformed) {
            Desk.formed(Desk.LANGUAGES, text, false);
        }
    }

    private static void ranges() {
        String[] names = {"en", "en-us", "de", "de-at", "fr"};
        for (int language = 0; language < names.length; language++) {
            for (String range : names) {
                boolean fits = names[language].equals(range) || names[language].startsWith(range + "-");
                Desk.languageQuality(language, range, fits ? 1000 : 0);
                Desk.languageQuality(language, range.toUpperCase() + ";q=0.25", fits ? 250 : 0);
            }
            Desk.languageQuality(language, "*;q=0.4", 400);
            Desk.languageQuality(language, "e, en-u, en-us-x, de-a, d, f, frr, fr-fr", 0);
            Desk.languageQuality(language, "", 1000);
            Desk.languageQuality(language, "en-;q=0.1", 1000);
        }
    }

    private static void longestCounts() {
        Desk.languageQuality(1, "en;q=0.5, en-us;q=0.7", 700);
        Desk.languageQuality(1, "en-us;q=0.7, en;q=0.9", 700);
        Desk.languageQuality(1, "en-us;q=0, en", 0);
        Desk.languageQuality(0, "en-us;q=0, en", 1000);
        Desk.languageQuality(1, "en;q=0.5, EN;q=0.9", 500);
        Desk.languageQuality(1, "*;q=0.9, en;q=0.5", 500);
        Desk.languageQuality(4, "*;q=0.9, en;q=0.5", 900);
        Desk.languageQuality(4, "*;q=0.9, *;q=0.5", 900);
        Desk.languageQuality(4, "fr;q=0, *", 0);
    }

    private static void noLanguage() {
        Desk.languageQuality(5, "fr", 1000);
        Desk.languageQuality(5, "*;q=0", 1000);
        Desk.languageQuality(5, "", 1000);
    }

    private static void products() {
        OriginDesk desk = new OriginDesk(Desk.NOW);
        desk.add(0, 0, 1, 1, false, 0);
        Desk.ask(desk, 0, Desk.ACCEPT, "text/*;q=0.123", Desk.LANGUAGES, "en;q=0.456");
        Desk.due("product", desk.score(0), 123 * 456);
        Desk.ask(desk, 0, Desk.ACCEPT, "text/*;q=0.123", Desk.LANGUAGES, "de");
        Desk.due("product with 0", desk.score(0), 0);
    }

    private static void scoreIsOfTheRequestNow() {
        OriginDesk desk = new OriginDesk(Desk.NOW);
        desk.add(0, 0, 1, 1, false, 0);
        desk.add(0, 2, 1, 1, false, 0);
        desk.respond();
        Desk.ask(desk, 3, Desk.LANGUAGES, "de;q=0.5");
        Desk.due("score 0, any method", desk.score(0), 0);
        Desk.due("score 1, any method", desk.score(1), 500000);
        Desk.due("score -1", desk.score(-1), BAD);
        Desk.due("score 2", desk.score(2), BAD);
        Desk.due("score, far", desk.score(Integer.MAX_VALUE), BAD);
        Desk.feed(desk, Desk.LANGUAGES, ",en");
        Desk.due("score 0, text grown", desk.score(0), 1000000);
    }
}
