/** Where a text ends: full texts, texts cut anywhere, and what a former text left behind the end of a shorter one. */
public final class EdgesOfEndsTest {
    private static final int MOST = 96;
    private static final String COMMA_DATE = "Sun, 06 Nov 1994 08:49:37 GMT";
    private static final String DASH_DATE = "Wednesday, 06-Nov-94 08:49:37 GMT";
    private static final String SPACE_DATE = "Sun Nov  6 08:49:37 1994";
    /** For each field well formed texts, the more kinds of pieces in them the better: they are cut at every place. */
    private static final String[][] TEXTS = {
        {"text/html;level=\"\\1\" ; q=0.125,*/*;q=1.000", "text/*;a=b;c=\"d,e\", application/json;Q=0.5"},
        {"en-us;q=0.125, *;q=1.000", "de-12345678-abcdefgh,abcdefgh ; Q=0."},
        {"W/\"v42\", \"a\",\"\"", " * "},
        {"\"v42\",W/\"v4\"", "*"},
        {COMMA_DATE, DASH_DATE, SPACE_DATE},
        {COMMA_DATE, DASH_DATE, SPACE_DATE},
        {"W/\"v42\"", "\"v42\"", COMMA_DATE, DASH_DATE, SPACE_DATE},
        {"bytes=12-13, 5- ,-1", "Bytes=000000003-1000000000"},
    };
    /** What may go on with a piece that was cut. */
    private static final String LEFTOVERS = "0159aZ*/\"\\,;=-:. \t";

    public static void main(String[] args) {
        Sentence.holds("with texts of at most 96 characters", EdgesOfEndsTest::fullTextsCutAnywhere);
        Sentence.holds("A field's text is WELL FORMED when it is, with a gap before and behind it", EdgesOfEndsTest::gapsUpToTheFullText);
        Sentence.holds("Puts characters behind a field's text", EdgesOfEndsTest::fedInAnyPieces);
        Sentence.holds("BAD, changing nothing, when field is not 0 .. 7, or it would be above 96.", EdgesOfEndsTest::refusedCharactersAreNowhere);
        Sentence.holds("A new request: this method, all fields empty.", EdgesOfEndsTest::nothingBehindTheEnd);
        Desk.end();
    }

    /** A gap before a text changes nothing, also when it makes the text end where the room ends. */
    private static void fullTextsCutAnywhere() {
        for (int field = 0; field < TEXTS.length; field++) {
            for (String text : TEXTS[field]) {
                for (int end = 1; end <= text.length(); end++) {
                    String cut = text.substring(0, end);
                    same(field, "a full text", " ".repeat(MOST - end) + cut, cut);
                }
            }
        }
        for (int code = 1; code <= 255; code++) {
            String full = String.valueOf((char) code).repeat(MOST);
            for (int field = 0; field < TEXTS.length; field++) {
                Desk.formed(field, full, false);
                OriginDesk desk = Desk.withOne(20, false);
                Desk.due("respond to 96 of " + code + " in " + field, Desk.get(desk, field, full), field == Desk.MATCH ? 412 : 200);
            }
        }
    }

    private static void gapsUpToTheFullText() {
        for (int field = 0; field < TEXTS.length; field++) {
            for (String text : TEXTS[field]) {
                int room = MOST - text.length();
                for (int before = 0; before <= room; before++) {
                    String padded = "\t".repeat(before) + text + " ".repeat(room - before);
                    Desk.formed(field, padded, true);
                    same(field, "a text in gaps", padded, text);
                }
                Desk.formed(field, text, true);
            }
        }
    }

    /** By one to eight characters at a time, with the fields beside it fed in between. */
    private static void fedInAnyPieces() {
        for (int field = 0; field < TEXTS.length; field++) {
            for (String text : TEXTS[field]) {
                for (int step = 1; step <= 8; step++) {
                    OriginDesk desk = Desk.withOne(20, false);
                    for (int from = 0; from < text.length(); from += step) {
                        int end = Math.min(text.length(), from + step);
                        Desk.due("feed up to " + end, desk.feed(field, Desk.pack(text.substring(from, end))), end);
                        desk.feed((field + 1) % 8, ' ');
                        desk.feed((field + 7) % 8, 0);
                    }
                    Desk.due("formed(" + field + ") of <" + text + "> by " + step, desk.formed(field), true);
                }
            }
        }
    }

    /** Characters that didn't fit go on with the text nowhere. */
    private static void refusedCharactersAreNowhere() {
        for (int field = 0; field < TEXTS.length; field++) {
            for (String text : TEXTS[field]) {
                String full = " ".repeat(MOST - text.length()) + text;
                for (char more : LEFTOVERS.toCharArray()) {
                    OriginDesk desk = Desk.withOne(20, false);
                    Desk.feed(desk, field, full);
                    Desk.due("one too many", desk.feed(field, more), OriginDesk.BAD);
                    Desk.due("eight too many", desk.feed(field, 0x0101010101010101L * more), OriginDesk.BAD);
                    Desk.due("field 8", desk.feed(8, more), OriginDesk.BAD);
                    Desk.due("field -1", desk.feed(-1, more), OriginDesk.BAD);
                    Desk.due("formed(" + field + ") of <" + full + "> still", desk.formed(field), true);
                    Desk.due("length of <" + full + "> still", desk.feed(field, 0), MOST);
                }
            }
        }
    }

    /** A text that is cut anywhere means what it means in a new object, whatever stood there in the former request. */
    private static void nothingBehindTheEnd() {
        for (int field = 0; field < TEXTS.length; field++) {
            for (String text : TEXTS[field]) {
                for (int end = 0; end <= text.length(); end++) {
                    String cut = text.substring(0, end);
                    behindFormer(field, text, cut);
                    for (char left : LEFTOVERS.toCharArray()) {
                        behindFormer(field, String.valueOf(left).repeat(MOST), cut);
                    }
                }
            }
        }
    }

    private static void behindFormer(int field, String former, String text) {
        OriginDesk used = Desk.withOne(20, false);
        Desk.feed(used, field, former);
        used.respond();
        sameAnswers("<" + text + "> behind <" + former + ">", field, used, text, text);
    }

    private static void same(int field, String what, String text, String other) {
        sameAnswers(what + " <" + text + ">", field, Desk.withOne(20, false), text, other);
    }

    /** The used desk answers for a text what a new one answers for the other. */
    private static void sameAnswers(String what, int field, OriginDesk used, String text, String other) {
        OriginDesk fresh = Desk.withOne(20, false);
        Desk.ask(used, 0, field, text);
        Desk.feed(fresh, field, other);
        Desk.due("formed(" + field + ") of " + what, used.formed(field), fresh.formed(field));
        Desk.due("date(" + field + ") of " + what, used.date(field), fresh.date(field));
        Desk.due("score for " + field + ", " + what, used.score(0), fresh.score(0));
        if (field == Desk.IF_RANGE) {
            Desk.feed(used, Desk.RANGE, "bytes=0-0");
            Desk.feed(fresh, Desk.RANGE, "bytes=0-0");
        }
        Desk.due("respond to " + field + ", " + what, used.respond(), fresh.respond());
        Desk.due("length for " + field + ", " + what, used.length(), fresh.length());
    }
}
