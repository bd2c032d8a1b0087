/** Promises 6 to 8 and 15: choice, conditions and their order. */
public final class ConditionsTest {
    private static final int BAD = OriginDesk.BAD;
    private static final String SAME = "Sun, 06 Nov 1994 08:49:37 GMT";
    private static final String BEFORE = "Sun, 06 Nov 1994 08:49:36 GMT";
    private static final String AFTER = "Sun, 06 Nov 1994 08:49:38 GMT";

    public static void main(String[] args) {
        tagLists();
        ifRangeTexts();
        firstCodes();
        choice();
        match();
        noneMatch();
        unmodified();
        modified();
        order();
        responseStays();
        Desk.end();
    }

    private static void tagLists() {
        String[] formed = {
            "*", " *\t", "\"\"", "\"a\"", "W/\"a\"", "\"a,b\"", "\"a\",\"b\"", ",\"a\" ,\tW/\"b\",", "\"!\u0080\u00ff~\"", "\"\\\"", "\"*\""
        };
        String[] malformed = {
            "", " ", ",", "*,", ",*", "**", "*,\"a\"", "\"a\",*", "a", "\"a", "a\"", "\"a\"b", "\"a\" \"b\"", "\"a b\"", "\"a\u007f\"", "\"a\t\"",
            "w/\"a\"", "W\"a\"", "W/ \"a\"", "W /\"a\"", "W/", "W/a", "W/*", "\"a\";\"b\"", "\"\u001f\"", "W/W/\"a\"", "\"a\"\"b\""
        };
        for (int field = Desk.MATCH; field <= Desk.NONE_MATCH; field++) {
            for (String text : formed) {
                Desk.formed(field, text, true);
            }
            for (String text : malformed) {
                Desk.formed(field, text, false);
            }
        }
    }

    private static void ifRangeTexts() {
        String[] formed = {"\"a\"", " W/\"a\"\t", SAME, " " + SAME + " ", "\"\""};
        String[] malformed = {"", " ", "*", "\"a\",", ",\"a\"", "\"a\",\"b\"", SAME + ",", "\"a\" " + SAME, "W/" + SAME, "a"};
        for (String text : formed) {
            Desk.formed(Desk.IF_RANGE, text, true);
        }
        for (String text : malformed) {
            Desk.formed(Desk.IF_RANGE, text, false);
        }
        Desk.formed(-1, "*", false);
        Desk.formed(8, "*", false);
    }

    private static void firstCodes() {
        OriginDesk desk = new OriginDesk(Desk.NOW);
        int[] methods = {0, 1, 2, 3, -1};
        int[] without = {404, 404, 404, 501, 501};
        int[] with = {406, 406, 204, 501, 501};
        for (int i = 0; i < methods.length; i++) {
            Desk.ask(desk, methods[i]);
            answers(desk, without[i], BAD);
        }
        desk.add(0, 0, 9, 1, false, Desk.CHANGE);
        for (int i = 0; i < methods.length; i++) {
            Desk.ask(desk, methods[i], Desk.ACCEPT, "a/b", Desk.MATCH, "x");
            answers(desk, with[i], BAD);
            Desk.due("length of " + with[i], desk.length(), 0);
            Desk.due("body of " + with[i], desk.body(0), BAD);
            Desk.due("parts of " + with[i], desk.parts(), 0);
        }
    }

    private static void choice() {
        OriginDesk desk = new OriginDesk(Desk.NOW);
        desk.add(0, 0, 1, 1, false, 0);
        desk.add(0, 2, 2, 2, false, 0);
        desk.add(1, 2, 3, 3, false, 0);
        desk.add(1, 5, 4, 4, false, 0);
        choose(desk, "", "", 0);
        choose(desk, "", "de", 1);
        choose(desk, "text/plain", "", 2);
        choose(desk, "text/plain;q=0.5, text/html;q=0.4", "de;q=0.9", 3);
        choose(desk, "text/*", "fr", 3);
        choose(desk, "text/html;q=0.9, text/plain;q=0.8", "de, en;q=0.8", 1);
        choose(desk, "text/html;q=0.001", "en;q=0.001", 0);
        choose(desk, "image/*", "en", BAD);
        choose(desk, "text/html", "fr", BAD);
        choose(desk, "text/html;q=0", "fr", BAD);
        choose(desk, "text", "e1", 0);
    }

    private static void choose(OriginDesk desk, String accept, String languages, int want) {
        Desk.ask(desk, 0, Desk.ACCEPT, accept, Desk.LANGUAGES, languages);
        answers(desk, want == BAD ? 406 : 200, want);
    }

    private static void match() {
        OriginDesk strong = Desk.withOne(20, false);
        OriginDesk weak = Desk.withOne(20, true);
        check(strong, weak, Desk.MATCH, "*", 200, 200);
        check(strong, weak, Desk.MATCH, " * ", 200, 200);
        check(strong, weak, Desk.MATCH, "\"v42\"", 200, 412);
        check(strong, weak, Desk.MATCH, "W/\"v42\"", 412, 412);
        check(strong, weak, Desk.MATCH, "\"a\", W/\"v42\" ,\"v42\",\"b\"", 200, 412);
        check(strong, weak, Desk.MATCH, "\"V42\"", 412, 412);
        check(strong, weak, Desk.MATCH, "\"v042\",\"v4\",\"v422\",\"42\",\"\"", 412, 412);
        check(strong, weak, Desk.MATCH, "*,", 412, 412);
        check(strong, weak, Desk.MATCH, "\"v42\" x", 412, 412);
        check(strong, weak, Desk.MATCH, " ", 412, 412);
        check(strong, weak, Desk.MATCH, "", 200, 200);
    }

    private static void noneMatch() {
        OriginDesk strong = Desk.withOne(20, false);
        OriginDesk weak = Desk.withOne(20, true);
        check(strong, weak, Desk.NONE_MATCH, "*", 304, 304);
        check(strong, weak, Desk.NONE_MATCH, "\"v42\"", 304, 304);
        check(strong, weak, Desk.NONE_MATCH, "W/\"v42\"", 304, 304);
        check(strong, weak, Desk.NONE_MATCH, "\"a\",W/\"v42\",\"b\"", 304, 304);
        check(strong, weak, Desk.NONE_MATCH, "\"v43\", \"v4\"", 200, 200);
        check(strong, weak, Desk.NONE_MATCH, "\"v42\" x", 200, 200);
        check(strong, weak, Desk.NONE_MATCH, "*,", 200, 200);
        check(strong, weak, Desk.NONE_MATCH, ",", 200, 200);
    }

    private static void unmodified() {
        OriginDesk desk = Desk.withOne(20, false);
        check(desk, desk, Desk.UNMODIFIED, BEFORE, 412, 412);
        check(desk, desk, Desk.UNMODIFIED, SAME, 200, 200);
        check(desk, desk, Desk.UNMODIFIED, AFTER, 200, 200);
        check(desk, desk, Desk.UNMODIFIED, BEFORE + "x", 200, 200);
        Desk.due("MATCH goes before", Desk.get(desk, Desk.UNMODIFIED, BEFORE, Desk.MATCH, "\"v42\""), 200);
        Desk.due("MATCH * goes before", Desk.get(desk, Desk.UNMODIFIED, BEFORE, Desk.MATCH, "*"), 200);
        Desk.due("MATCH malformed", Desk.get(desk, Desk.UNMODIFIED, AFTER, Desk.MATCH, "v42"), 412);
    }

    private static void modified() {
        OriginDesk desk = Desk.withOne(20, false);
        check(desk, desk, Desk.MODIFIED, BEFORE, 200, 200);
        check(desk, desk, Desk.MODIFIED, SAME, 304, 304);
        check(desk, desk, Desk.MODIFIED, AFTER, 304, 304);
        check(desk, desk, Desk.MODIFIED, AFTER + "x", 200, 200);
        Desk.due("NONE-MATCH goes before", Desk.get(desk, Desk.MODIFIED, AFTER, Desk.NONE_MATCH, "\"a\""), 200);
        Desk.due("NONE-MATCH malformed", Desk.get(desk, Desk.MODIFIED, AFTER, Desk.NONE_MATCH, "a"), 200);
        Desk.due("NONE-MATCH same", Desk.get(desk, Desk.MODIFIED, BEFORE, Desk.NONE_MATCH, "\"v42\""), 304);
    }

    private static void order() {
        OriginDesk desk = Desk.withOne(20, false);
        Desk.due("412 before 304", Desk.get(desk, Desk.MATCH, "\"a\"", Desk.NONE_MATCH, "*"), 412);
        Desk.due("412 by date before 304", Desk.get(desk, Desk.UNMODIFIED, BEFORE, Desk.MODIFIED, AFTER), 412);
        Desk.due("304 behind MATCH", Desk.get(desk, Desk.MATCH, "\"v42\"", Desk.NONE_MATCH, "\"v42\""), 304);
        Desk.due("304 before 416", Desk.get(desk, Desk.MODIFIED, AFTER, Desk.RANGE, "bytes=99-"), 304);
        Desk.due("412 before 416", Desk.get(desk, Desk.MATCH, "\"a\"", Desk.RANGE, "bytes=99-"), 412);
        Desk.due("406 before 412", Desk.get(desk, Desk.ACCEPT, "a/b", Desk.MATCH, "\"a\""), 406);
        Desk.due("206 behind all", Desk.get(desk, Desk.MATCH, "*", Desk.NONE_MATCH, "\"a\"", Desk.RANGE, "bytes=0-0"), 206);
        Desk.ask(desk, 2, Desk.MATCH, "\"a\"");
        Desk.due("OPTIONS has no conditions", desk.respond(), 204);
    }

    private static void responseStays() {
        OriginDesk desk = new OriginDesk(Desk.NOW);
        desk.add(1, 5, 5, 1, false, 0);
        desk.add(0, 5, 20, 2, false, 0);
        Desk.due("partial", Desk.get(desk, Desk.ACCEPT, "text/html", Desk.RANGE, "bytes=2-4,6-7"), 206);
        long length = desk.length();
        desk.clear();
        desk.request(1);
        desk.add(2, 5, 9, 9, true, 9);
        desk.formed(Desk.RANGE);
        Desk.feed(desk, Desk.RANGE, "bytes=0-0");
        desk.formed(Desk.RANGE);
        desk.score(0);
        Desk.due("status stays", desk.status(), 206);
        Desk.due("chosen stays", desk.chosen(), 1);
        Desk.due("length stays", desk.length(), length);
        Desk.due("parts stay", desk.parts(), 2);
        Desk.due("first stays", desk.first(0), 2);
        Desk.due("last stays", desk.last(1), 7);
        Desk.due("body stays", desk.body(25), 7 * 2 + 13 + 1);
        Desk.due("until the next", desk.respond(), 200);
        Desk.due("chosen of the next", desk.chosen(), 0);
        Desk.due("parts of the next", desk.parts(), 0);
        Desk.due("first of the next", desk.first(0), BAD);
        Desk.due("length of the next", desk.length(), 9);
    }

    private static void check(OriginDesk strong, OriginDesk weak, int field, String text, int forStrong, int forWeak) {
        for (int method = 0; method < 2; method++) {
            Desk.ask(strong, method, field, text);
            answers(strong, forStrong, 0);
            Desk.ask(weak, method, field, text);
            answers(weak, forWeak, 0);
        }
    }

    private static void answers(OriginDesk desk, int code, int chosen) {
        Desk.due("respond", desk.respond(), code);
        Desk.due("status", desk.status(), code);
        Desk.due("chosen of " + code, desk.chosen(), chosen);
    }
}
