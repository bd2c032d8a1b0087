/** The sentences on tags, on the conditions and on their order, at their edges. */
public final class EdgesOfConditionsTest {
    private static final int BAD = OriginDesk.BAD;
    private static final String SAME = "Sun, 06 Nov 1994 08:49:37 GMT";
    private static final String BEFORE = "Sun, 06 Nov 1994 08:49:36 GMT";
    private static final String AFTER = "Sun, 06 Nov 1994 08:49:38 GMT";
    private static final String[] NOT_FORMED = {" ", "\t", ",", "*,", ",*", "**", "v42", "\"v42", "v42\"", "\"v42\" x", "w/\"v42\"", "\"v42\",*", "*,\"v42\"", "\u0001"};

    public static void main(String[] args) {
        Sentence.holds("TAG: perhaps W/ (it is weak then), 34, any of the characters 33, 35 .. 126, 128 .. 255, 34.", EdgesOfConditionsTest::tags);
        Sentence.holds("A representation's tag has v and the number in digits between the marks 34 (and W/ when it is weak).",
            EdgesOfConditionsTest::tagsOfRepresentations);
        Sentence.holds("Two tags are the same STRONGLY when both are not weak and have the same characters between the marks",
            EdgesOfConditionsTest::stronglyTheSame);
        Sentence.holds("WEAKLY when they have the same characters there.", EdgesOfConditionsTest::weaklyTheSame);
        Sentence.holds("2 and 3 MATCH and NONE-MATCH: * alone, or a list of tags.", EdgesOfConditionsTest::starAlone);
        Sentence.holds("6 IF-RANGE: a tag or a date.", EdgesOfConditionsTest::tagOrDate);
        Sentence.holds("A field with an empty text isn't there", EdgesOfConditionsTest::emptyTexts);
        Sentence.holds("one that isn't well formed counts as if it weren't there (but for MATCH, NONE-MATCH and IF-RANGE see below).",
            EdgesOfConditionsTest::textsNotWellFormed);
        Sentence.holds("THE RESPONSE to a request, by the first of these that holds:", EdgesOfConditionsTest::firstThatHolds);
        Sentence.holds("501 when the method is none of 0 to 2.", EdgesOfConditionsTest::otherMethods);
        Sentence.holds("404 when there are no representations.", EdgesOfConditionsTest::noRepresentations);
        Sentence.holds("204 for OPTIONS.", EdgesOfConditionsTest::options);
        Sentence.holds("412 when MATCH is there and well formed, isn't *, and none of its tags is strongly the same as the chosen one's",
            EdgesOfConditionsTest::match);
        Sentence.holds("also when it is there and not well formed.", EdgesOfConditionsTest::matchNotWellFormed);
        Sentence.holds("412 when MATCH isn't there, and UNMODIFIED is a date before the time of change.", EdgesOfConditionsTest::unmodified);
        Sentence.holds("304 when NONE-MATCH is there and well formed, and is *, or one of its tags is weakly the same.", EdgesOfConditionsTest::noneMatch);
        Sentence.holds("304 when NONE-MATCH isn't there, and MODIFIED is a date not before the time of change.", EdgesOfConditionsTest::modified);
        Sentence.holds("(NONE-MATCH that is there and not well formed: neither.)", EdgesOfConditionsTest::noneMatchNotWellFormed);
        Desk.end();
    }

    private static void tags() {
        for (int code = 1; code <= 255; code++) {
            boolean fits = code == 33 || code >= 35 && code <= 126 || code >= 128;
            for (int field : new int[] {Desk.MATCH, Desk.NONE_MATCH, Desk.IF_RANGE}) {
                Desk.formed(field, "\"" + (char) code + "\"", fits);
                Desk.formed(field, "W/\"a" + (char) code + "b\"", fits);
                Desk.formed(field, (char) code + "/\"a\"", code == 'W');
                Desk.formed(field, "W" + (char) code + "\"a\"", code == '/');
            }
        }
        for (String tag : new String[] {"\"\"", "W/\"\"", "\"" + "a".repeat(94) + "\"", "W/\"" + "a".repeat(92) + "\"", "\"\\\"", "\",\"", "\"*\"", "\"W/\""}) {
            Desk.formed(Desk.MATCH, tag, true);
            Desk.formed(Desk.IF_RANGE, tag, true);
        }
        for (String tag : new String[] {"\"", "W/", "W/\"", "W/\"a", "a", "W", "W/a", "W/ \"a\"", "W /\"a\"", "W/W/\"a\"", "\"a\"\"", "\"a\"a", "'a'", "\"\\\"\"",
            "\"" + "a".repeat(95), "/\"a\""}) {
            Desk.formed(Desk.MATCH, tag, false);
            Desk.formed(Desk.IF_RANGE, tag, false);
        }
    }

    private static void tagsOfRepresentations() {
        for (int tag : new int[] {0, 1, 9, 10, 99, 100, 999, 1000, 1001, 9998, 9999}) {
            OriginDesk desk = new OriginDesk(Desk.NOW);
            desk.add(0, 0, 1, tag, false, 0);
            Desk.due("the tag v" + tag, Desk.get(desk, Desk.MATCH, "\"v" + tag + "\""), 200);
            for (String other : new String[] {"v0" + tag, "v" + tag + "0", "" + tag, "V" + tag, "v-" + tag, "v+" + tag, "v", "", "v" + (tag + 1), "vv" + tag, "v" + tag + "."}) {
                Desk.due("not the tag v" + tag + ": " + other, Desk.get(desk, Desk.MATCH, "\"" + other + "\""), 412);
            }
            OriginDesk weak = new OriginDesk(Desk.NOW);
            weak.add(0, 0, 1, tag, true, 0);
            Desk.due("the weak tag v" + tag, Desk.get(weak, Desk.NONE_MATCH, "W/\"v" + tag + "\""), 304);
            Desk.due("no strong tag v" + tag, Desk.get(weak, Desk.MATCH, "\"v" + tag + "\""), 412);
        }
    }

    private static void stronglyTheSame() {
        matches(false, "\"v42\"", 200);
        matches(false, "W/\"v42\"", 412);
        matches(true, "\"v42\"", 412);
        matches(true, "W/\"v42\"", 412);
        matches(false, "\"v43\"", 412);
    }

    private static void matches(boolean weak, String tag, int code) {
        OriginDesk desk = Desk.withOne(20, weak);
        String what = (weak ? "weak" : "strong") + " with " + tag;
        Desk.due("MATCH, " + what, Desk.get(desk, Desk.MATCH, tag), code);
        int ranged = code == 200 ? 206 : 200;
        Desk.due("IF-RANGE, " + what, Desk.get(desk, Desk.IF_RANGE, tag, Desk.RANGE, "bytes=0-0"), ranged);
    }

    private static void weaklyTheSame() {
        for (int weak = 0; weak < 2; weak++) {
            OriginDesk desk = Desk.withOne(20, weak == 1);
            Desk.due("strong tag", Desk.get(desk, Desk.NONE_MATCH, "\"v42\""), 304);
            Desk.due("weak tag", Desk.get(desk, Desk.NONE_MATCH, "W/\"v42\""), 304);
            for (String other : new String[] {"\"v4\"", "W/\"v422\"", "\"V42\"", "W/\"W/v42\"", "\"\"", "\"*\""}) {
                Desk.due("another tag " + other, Desk.get(desk, Desk.NONE_MATCH, other), 200);
            }
        }
    }

    private static void starAlone() {
        for (int field = Desk.MATCH; field <= Desk.NONE_MATCH; field++) {
            for (String text : new String[] {"*", " *", "*\t", " * ", "\"a\"", "\"a\",W/\"b\"", "\"*\"", "\"a\"" + ",\"a\"".repeat(23)}) {
                Desk.formed(field, text, true);
            }
            for (String text : new String[] {"**", "*,*", "*,", ",*", "* *", "*,\"a\"", "\"a\",*", "W/*", "*\"a\"", "\"a\"*", SAME}) {
                Desk.formed(field, text, false);
            }
        }
    }

    private static void tagOrDate() {
        for (String text : new String[] {"\"a\"", "W/\"a\"", " \"a\" ", SAME, "Sunday, 06-Nov-94 08:49:37 GMT", "Sun Nov  6 08:49:37 1994", "\"" + SAME.replace(' ', '_') + "\""}) {
            Desk.formed(Desk.IF_RANGE, text, true);
        }
        for (String text : new String[] {"*", "\"a\",", ",\"a\"", "\"a\",\"b\"", "\"a\" \"a\"", SAME + "," + SAME, SAME + ",", "," + SAME, "\"a\"" + SAME, SAME + "\"a\"",
            "W/" + SAME, "\"" + SAME + "\""}) {
            Desk.formed(Desk.IF_RANGE, text, false);
        }
    }

    private static void emptyTexts() {
        OriginDesk desk = Desk.withOne(20, false);
        for (int field = 0; field < 8; field++) {
            Desk.due("nothing fed to " + field, desk.feed(field, 0), 0);
            Desk.due("formed(" + field + ") of nothing", desk.formed(field), false);
        }
        Desk.due("score with empty fields", desk.score(0), 1000000);
        Desk.due("respond with empty fields", desk.respond(), 200);
        Desk.due("empty IF-RANGE", Desk.get(desk, Desk.IF_RANGE, "", Desk.RANGE, "bytes=0-0"), 206);
        Desk.due("empty MATCH", Desk.get(desk, Desk.MATCH, "", Desk.UNMODIFIED, BEFORE), 412);
        Desk.due("empty NONE-MATCH", Desk.get(desk, Desk.NONE_MATCH, "", Desk.MODIFIED, SAME), 304);
    }

    private static void textsNotWellFormed() {
        OriginDesk desk = Desk.withOne(20, false);
        Desk.due("ACCEPT", Desk.get(desk, Desk.ACCEPT, "text/html,"), 406);
        Desk.due("ACCEPT, not well formed", Desk.get(desk, Desk.ACCEPT, "text/html;"), 200);
        Desk.due("LANGUAGES", Desk.get(desk, Desk.LANGUAGES, "de"), 406);
        Desk.due("LANGUAGES, not well formed", Desk.get(desk, Desk.LANGUAGES, "de-"), 200);
        Desk.due("MODIFIED", Desk.get(desk, Desk.MODIFIED, SAME), 304);
        Desk.due("MODIFIED, not well formed", Desk.get(desk, Desk.MODIFIED, SAME + "."), 200);
        Desk.due("UNMODIFIED", Desk.get(desk, Desk.UNMODIFIED, BEFORE), 412);
        Desk.due("UNMODIFIED, not well formed", Desk.get(desk, Desk.UNMODIFIED, BEFORE + "."), 200);
        Desk.due("RANGE", Desk.get(desk, Desk.RANGE, "bytes=99-"), 416);
        Desk.due("RANGE, not well formed", Desk.get(desk, Desk.RANGE, "bytes=99"), 200);
        Desk.due("MATCH, not well formed", Desk.get(desk, Desk.MATCH, "v42"), 412);
        Desk.due("NONE-MATCH, not well formed", Desk.get(desk, Desk.NONE_MATCH, "v42", Desk.MODIFIED, SAME), 200);
        Desk.due("IF-RANGE, not well formed", Desk.get(desk, Desk.IF_RANGE, "v42", Desk.RANGE, "bytes=0-0"), 200);
    }

    /** A request for which everything holds; what held is then taken away, one after the other. */
    private static void firstThatHolds() {
        OriginDesk desk = new OriginDesk(Desk.NOW);
        Object[] fields = {Desk.ACCEPT, "a/b", Desk.MATCH, "\"a\"", Desk.UNMODIFIED, BEFORE, Desk.NONE_MATCH, "*", Desk.MODIFIED, SAME, Desk.RANGE, "bytes=99-"};
        Desk.due("501 before 404", answer(desk, 3, fields), 501);
        Desk.due("404 before 204", answer(desk, 2, fields), 404);
        Desk.due("404 before 406", answer(desk, 0, fields), 404);
        desk.add(1, 4, 20, 42, false, Desk.CHANGE);
        Desk.due("501 before all", answer(desk, 3, fields), 501);
        Desk.due("204 before 406", answer(desk, 2, fields), 204);
        Desk.due("406 before 412", answer(desk, 0, fields), 406);
        fields[1] = "";
        Desk.due("204 before 412", answer(desk, 2, fields), 204);
        Desk.due("412 of MATCH before 304", answer(desk, 0, fields), 412);
        fields[3] = "";
        Desk.due("412 of UNMODIFIED before 304", answer(desk, 0, fields), 412);
        Desk.due("412 for HEAD", answer(desk, 1, fields), 412);
        fields[5] = "";
        Desk.due("304 of NONE-MATCH before 416", answer(desk, 0, fields), 304);
        fields[7] = "";
        Desk.due("304 of MODIFIED before 416", answer(desk, 0, fields), 304);
        Desk.due("304 for HEAD", answer(desk, 1, fields), 304);
        fields[9] = "";
        Desk.due("416", answer(desk, 0, fields), 416);
        fields[11] = "bytes=9-";
        Desk.due("206", answer(desk, 0, fields), 206);
        fields[11] = "";
        Desk.due("200", answer(desk, 0, fields), 200);
    }

    private static int answer(OriginDesk desk, int method, Object... fields) {
        Desk.ask(desk, method, fields);
        return desk.respond();
    }

    private static void otherMethods() {
        OriginDesk desk = Desk.withOne(20, false);
        for (int method : new int[] {-1, 3, 4, 256, 257, 65536, Integer.MAX_VALUE, Integer.MIN_VALUE}) {
            Desk.due("method " + method, answer(desk, method), 501);
        }
        for (int method = 0; method <= 2; method++) {
            Desk.due("method " + method, answer(desk, method), method == 2 ? 204 : 200);
        }
    }

    private static void noRepresentations() {
        OriginDesk desk = new OriginDesk(Desk.NOW);
        for (int method = 0; method <= 2; method++) {
            Desk.due("none, method " + method, answer(desk, method), 404);
        }
        desk.add(6, 0, 1, 1, false, 0);
        Desk.due("none but a refused one", answer(desk, 0), 404);
        desk.add(0, 0, 0, 0, false, 0);
        Desk.due("an empty one", answer(desk, 0), 200);
        desk.clear();
        Desk.due("cleared", answer(desk, 0), 404);
    }

    private static void options() {
        OriginDesk desk = Desk.withOne(20, false);
        Desk.due("OPTIONS", answer(desk, 2), 204);
        Desk.due("OPTIONS, nothing acceptable", answer(desk, 2, Desk.ACCEPT, "a/b"), 204);
        Desk.due("OPTIONS with conditions", answer(desk, 2, Desk.MATCH, "x", Desk.NONE_MATCH, "*"), 204);
        Desk.due("OPTIONS with RANGE", answer(desk, 2, Desk.RANGE, "bytes=0-0"), 204);
        Desk.due("nothing chosen", desk.chosen(), BAD);
        Desk.due("no length", desk.length(), 0);
    }

    private static void match() {
        OriginDesk desk = new OriginDesk(Desk.NOW);
        desk.add(0, 5, 20, 41, false, Desk.CHANGE);
        desk.add(1, 5, 20, 42, false, Desk.CHANGE);
        Desk.due("the chosen one's", Desk.get(desk, Desk.MATCH, "\"v41\""), 200);
        Desk.due("another one's", Desk.get(desk, Desk.MATCH, "\"v42\""), 412);
        Desk.due("chosen of 412", desk.chosen(), 0);
        Desk.due("now the chosen one's", Desk.get(desk, Desk.MATCH, "\"v42\"", Desk.ACCEPT, "text/plain"), 200);
        Desk.due("first of several", Desk.get(desk, Desk.MATCH, "\"v41\",\"a\",\"b\""), 200);
        Desk.due("last of several", Desk.get(desk, Desk.MATCH, "\"a\",\"b\",\"v41\""), 200);
        Desk.due("weak and strong", Desk.get(desk, Desk.MATCH, "W/\"v41\",\"v41\""), 200);
        Desk.due("strong and weak", Desk.get(desk, Desk.MATCH, "\"v41\",W/\"v41\""), 200);
        Desk.due("none of several", Desk.get(desk, Desk.MATCH, "\"a\",W/\"v41\",\"\""), 412);
        Desk.due("a star", Desk.get(desk, Desk.MATCH, "*"), 200);
        Desk.due("a star with gaps", Desk.get(desk, Desk.MATCH, "\t* "), 200);
        Desk.due("a star as a tag", Desk.get(desk, Desk.MATCH, "\"*\""), 412);
        desk.clear();
        desk.add(0, 5, 20, 41, true, Desk.CHANGE);
        Desk.due("a star for a weak one", Desk.get(desk, Desk.MATCH, "*"), 200);
    }

    private static void matchNotWellFormed() {
        OriginDesk desk = Desk.withOne(20, false);
        for (String text : NOT_FORMED) {
            Desk.due("MATCH <" + text + ">", Desk.get(desk, Desk.MATCH, text), 412);
            Desk.due("MATCH <" + text + ">, UNMODIFIED", Desk.get(desk, Desk.MATCH, text, Desk.UNMODIFIED, AFTER), 412);
        }
    }

    private static void unmodified() {
        OriginDesk desk = Desk.withOne(20, false);
        Desk.due("a second before", Desk.get(desk, Desk.UNMODIFIED, BEFORE), 412);
        Desk.due("at the same time", Desk.get(desk, Desk.UNMODIFIED, SAME), 200);
        Desk.due("a second after", Desk.get(desk, Desk.UNMODIFIED, AFTER), 200);
        Desk.due("no date", Desk.get(desk, Desk.UNMODIFIED, "\"v42\""), 200);
        Desk.due("before, but MATCH fits", Desk.get(desk, Desk.UNMODIFIED, BEFORE, Desk.MATCH, "\"v42\""), 200);
        Desk.due("before, but MATCH is a star", Desk.get(desk, Desk.UNMODIFIED, BEFORE, Desk.MATCH, "*"), 200);
        Desk.due("MODIFIED before is another field", Desk.get(desk, Desk.MODIFIED, BEFORE), 200);
        Desk.due("IF-RANGE before is another field", Desk.get(desk, Desk.IF_RANGE, BEFORE), 200);
        edgesOfTime(Desk.UNMODIFIED, 0L, "Thu, 01 Jan 1970 00:00:00 GMT", 200);
        edgesOfTime(Desk.UNMODIFIED, 1L, "Thu, 01 Jan 1970 00:00:00 GMT", 412);
        edgesOfTime(Desk.UNMODIFIED, 4102444799L, "Thu, 31 Dec 2099 23:59:59 GMT", 200);
        edgesOfTime(Desk.UNMODIFIED, 4102444799L, "Thu, 31 Dec 2099 23:59:58 GMT", 412);
        edgesOfTime(Desk.UNMODIFIED, 2147483648L, "Tue, 19 Jan 2038 03:14:07 GMT", 412);
    }

    private static void modified() {
        OriginDesk desk = Desk.withOne(20, false);
        Desk.due("a second before", Desk.get(desk, Desk.MODIFIED, BEFORE), 200);
        Desk.due("at the same time", Desk.get(desk, Desk.MODIFIED, SAME), 304);
        Desk.due("a second after", Desk.get(desk, Desk.MODIFIED, AFTER), 304);
        Desk.due("no date", Desk.get(desk, Desk.MODIFIED, "\"v42\""), 200);
        Desk.due("after, but NONE-MATCH is another tag", Desk.get(desk, Desk.MODIFIED, AFTER, Desk.NONE_MATCH, "\"a\""), 200);
        Desk.due("UNMODIFIED after is another field", Desk.get(desk, Desk.UNMODIFIED, AFTER), 200);
        edgesOfTime(Desk.MODIFIED, 0L, "Thu, 01 Jan 1970 00:00:00 GMT", 304);
        edgesOfTime(Desk.MODIFIED, 1L, "Thu, 01 Jan 1970 00:00:00 GMT", 200);
        edgesOfTime(Desk.MODIFIED, 4102444799L, "Thu, 31 Dec 2099 23:59:59 GMT", 304);
        edgesOfTime(Desk.MODIFIED, 4102444799L, "Thu, 31 Dec 2099 23:59:58 GMT", 200);
        edgesOfTime(Desk.MODIFIED, 2147483648L, "Tue, 19 Jan 2038 03:14:08 GMT", 304);
    }

    private static void edgesOfTime(int field, long change, String text, int code) {
        OriginDesk desk = new OriginDesk(Desk.NOW);
        desk.add(0, 5, 20, 1, false, change);
        Desk.due("change " + change + ", field " + field + " <" + text + ">", Desk.get(desk, field, text), code);
    }

    private static void noneMatch() {
        OriginDesk desk = new OriginDesk(Desk.NOW);
        desk.add(0, 5, 20, 41, false, Desk.CHANGE);
        desk.add(1, 5, 20, 42, true, Desk.CHANGE);
        Desk.due("a star", Desk.get(desk, Desk.NONE_MATCH, "*"), 304);
        Desk.due("chosen of 304", desk.chosen(), 0);
        Desk.due("a star with gaps", Desk.get(desk, Desk.NONE_MATCH, " *\t"), 304);
        Desk.due("the chosen one's", Desk.get(desk, Desk.NONE_MATCH, "\"v41\""), 304);
        Desk.due("another one's", Desk.get(desk, Desk.NONE_MATCH, "\"v42\""), 200);
        Desk.due("first of several", Desk.get(desk, Desk.NONE_MATCH, "W/\"v41\",\"a\",\"b\""), 304);
        Desk.due("last of several", Desk.get(desk, Desk.NONE_MATCH, "\"a\",\"b\",W/\"v41\""), 304);
        Desk.due("none of several", Desk.get(desk, Desk.NONE_MATCH, "\"a\",\"v4\",\"\""), 200);
        Desk.due("a star as a tag", Desk.get(desk, Desk.NONE_MATCH, "\"*\""), 200);
        Desk.due("a weak one's", Desk.get(desk, Desk.NONE_MATCH, "\"v42\"", Desk.ACCEPT, "text/plain"), 304);
        Desk.due("a tag that fits, MODIFIED doesn't", Desk.get(desk, Desk.NONE_MATCH, "\"v41\"", Desk.MODIFIED, BEFORE), 304);
    }

    private static void noneMatchNotWellFormed() {
        OriginDesk desk = Desk.withOne(20, false);
        for (String text : NOT_FORMED) {
            Desk.due("NONE-MATCH <" + text + ">", Desk.get(desk, Desk.NONE_MATCH, text), 200);
            Desk.due("NONE-MATCH <" + text + ">, MODIFIED", Desk.get(desk, Desk.NONE_MATCH, text, Desk.MODIFIED, AFTER), 200);
        }
    }
}
