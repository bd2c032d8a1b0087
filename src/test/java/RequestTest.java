/** Promises 4 and 5: request and feed. */
public final class RequestTest {
    private static final int BAD = OriginDesk.BAD;
    private static final String[] TAGS = {"\"v42\", W/\"v4\"", "*", "\"a,b\""};
    private static final String[] DATES =
        {"Sun, 06 Nov 1994 08:49:37 GMT", "Sunday, 06-Nov-94 08:49:37 GMT", "Sun Nov  6 08:49:37 1994", "Sun Nov 16 08:49:37 1994"};
    private static final String[][] TEXTS = {
        {"text/plain;q=0.125, */*;q=0.5", "text/html;level=\"\\\"\\1x\";q=1.000", "a/b ; c=d"},
        {"fr-ca;q=0.125, fr;q=0.5", "*;q=0.25", "abcdefgh-12345678"},
        TAGS,
        TAGS,
        DATES,
        DATES,
        {"Sun, 06 Nov 1994 08:49:37 GMT", "W/\"v42\""},
        {"bytes=10-49, -5", "bytes=0-", "bytes=-12"},
    };

    public static void main(String[] args) {
        feedTakesBytesFromTheLowestOn();
        feedStopsAtZero();
        feedKeepsToNinetySix();
        feedLooksAtTheField();
        feedTakesHighBytes();
        requestEmptiesAllFields();
        requestSetsTheMethod();
        formerTextsAreForgotten();
        fullTextsHaveAnEnd();
        Desk.end();
    }

    private static void feedTakesBytesFromTheLowestOn() {
        OriginDesk desk = Desk.withOne(20, false);
        Desk.due("feed eight", desk.feed(Desk.RANGE, Desk.pack("bytes=12")), 8);
        Desk.due("feed two more", desk.feed(Desk.RANGE, Desk.pack("-5")), 10);
        Desk.due("12-5 is no spec", desk.formed(Desk.RANGE), false);
        Desk.due("feed one more", desk.feed(Desk.RANGE, Desk.pack("0")), 11);
        Desk.due("12-50 is one", desk.formed(Desk.RANGE), true);
        desk.respond();
        Desk.due("in their order", desk.first(0), 12);
    }

    private static void feedStopsAtZero() {
        OriginDesk desk = new OriginDesk(Desk.NOW);
        Desk.due("nothing", desk.feed(3, 0), 0);
        Desk.due("a zero first", desk.feed(3, 0x2A00L), 0);
        Desk.due("empty isn't there", desk.formed(3), false);
        Desk.due("one before a zero", desk.feed(3, 0x2A00002AL), 1);
        Desk.due("that one alone", desk.formed(3), true);
        Desk.due("seven", desk.feed(3, 0x0020202020202020L), 8);
        Desk.due("a zero in the midst", desk.feed(3, 0x2020200020202020L), 12);
        Desk.due("still formed", desk.formed(3), true);
    }

    private static void feedKeepsToNinetySix() {
        OriginDesk desk = new OriginDesk(Desk.NOW);
        desk.add(0, 0, 1, 1, false, 0);
        for (int i = 1; i <= 11; i++) {
            Desk.due("spaces", desk.feed(Desk.ACCEPT, 0x2020202020202020L), 8 * i);
        }
        Desk.due("three", desk.feed(Desk.ACCEPT, Desk.pack("*/*")), 91);
        Desk.due("six would be too many", desk.feed(Desk.ACCEPT, Desk.pack(";q=0.5")), BAD);
        Desk.due("nothing was changed", desk.feed(Desk.ACCEPT, 0), 91);
        Desk.due("score at 91", desk.score(0), 1000000);
        Desk.due("five fit", desk.feed(Desk.ACCEPT, Desk.pack(";q=0.")), 96);
        Desk.due("score at 96", desk.score(0), 0);
        Desk.due("one more", desk.feed(Desk.ACCEPT, 53), BAD);
        Desk.due("none more", desk.feed(Desk.ACCEPT, 0), 96);
        Desk.due("score still", desk.score(0), 0);
        Desk.due("another field is free", desk.feed(Desk.LANGUAGES, 42), 1);
    }

    private static void feedLooksAtTheField() {
        OriginDesk desk = new OriginDesk(Desk.NOW);
        Desk.due("field -1", desk.feed(-1, 42), BAD);
        Desk.due("field 8", desk.feed(8, 42), BAD);
        Desk.due("field, far", desk.feed(Integer.MIN_VALUE, 42), BAD);
        Desk.due("field 8, nothing", desk.feed(8, 0), BAD);
        for (int field = 0; field < 8; field++) {
            Desk.due("each field has its text", desk.feed(field, 42), 1);
        }
    }

    private static void feedTakesHighBytes() {
        OriginDesk desk = new OriginDesk(Desk.NOW);
        Desk.due("eight of 255", desk.feed(Desk.MATCH, -1L), 8);
        desk.request(0);
        Desk.due("a tag of high bytes", desk.feed(Desk.MATCH, 0x22FFFEFDFCFB8022L), 8);
        Desk.due("is formed", desk.formed(Desk.MATCH), true);
    }

    private static void requestEmptiesAllFields() {
        OriginDesk desk = new OriginDesk(Desk.NOW);
        for (int field = 0; field < 8; field++) {
            desk.feed(field, 42);
        }
        desk.request(0);
        for (int field = 0; field < 8; field++) {
            Desk.due("emptied", desk.feed(field, 0), 0);
            Desk.due("not there", desk.formed(field), false);
        }
    }

    /** A shorter text behind a longer one is read as it would be on a new object. */
    private static void formerTextsAreForgotten() {
        for (int field = 0; field < 8; field++) {
            for (String text : TEXTS[field]) {
                for (int end = 0; end < text.length(); end++) {
                    OriginDesk fresh = Desk.withOne(60, false);
                    Desk.feed(fresh, field, text.substring(0, end));
                    OriginDesk used = Desk.withOne(60, false);
                    Desk.feed(used, field, text);
                    used.formed(field);
                    used.request(0);
                    Desk.feed(used, field, text.substring(0, end));
                    String what = "used with <" + text.substring(0, end) + ">";
                    Desk.due(what + ", formed", used.formed(field), fresh.formed(field));
                    Desk.due(what + ", date", used.date(field), fresh.date(field));
                    Desk.due(what + ", score", used.score(0), fresh.score(0));
                    Desk.due(what + ", respond", used.respond(), fresh.respond());
                    Desk.due(what + ", last", used.last(0), fresh.last(0));
                }
            }
        }
    }

    /** Where a text ends at the greatest length, nothing behind it may be looked at. */
    private static void fullTextsHaveAnEnd() {
        for (int field = 0; field < 8; field++) {
            for (String text : TEXTS[field]) {
                for (int end = 1; end <= text.length(); end++) {
                    String cut = text.substring(0, end);
                    OriginDesk plain = new OriginDesk(Desk.NOW);
                    Desk.feed(plain, field, cut);
                    OriginDesk full = new OriginDesk(Desk.NOW);
                    Desk.due("full", Desk.feed(full, field, " ".repeat(96 - end) + cut), 96);
                    Desk.due("formed, full, with <" + cut + ">", full.formed(field), plain.formed(field));
                }
            }
            OriginDesk same = new OriginDesk(Desk.NOW);
            Desk.feed(same, field, "a".repeat(96));
            Desk.due("formed, full of a", same.formed(field), false);
        }
    }

    private static void requestSetsTheMethod() {
        OriginDesk desk = Desk.withOne(20, false);
        int[] methods = {0, 1, 2, 3, -1, Integer.MAX_VALUE, Integer.MIN_VALUE, 0};
        int[] codes = {200, 200, 204, 501, 501, 501, 501, 200};
        for (int i = 0; i < methods.length; i++) {
            desk.request(methods[i]);
            Desk.due("method " + methods[i], desk.respond(), codes[i]);
        }
        desk.request(1);
        Desk.due("the response stays", desk.body(0), 1);
        Desk.due("and its status", desk.status(), 200);
    }
}
