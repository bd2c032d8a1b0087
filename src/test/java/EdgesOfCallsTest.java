/** The sentences on the object and its calls, promise by promise, at their edges. */
public final class EdgesOfCallsTest {
    private static final int BAD = OriginDesk.BAD;
    private static final long SPACES = 0x2020202020202020L;

    public static void main(String[] args) {
        Sentence.holds("An object is used for at most 512 calls after it has been made", EdgesOfCallsTest::manyCalls);
        Sentence.holds("A REPRESENTATION has a TYPE (0 text/html, 1 text/plain, 2 application/json, 3 image/png, 4 text/html;level=1, 5 image/svg+xml)",
            EdgesOfCallsTest::types);
        Sentence.holds("a LANGUAGE (0 en, 1 en-us, 2 de, 3 de-at, 4 fr, 5 none)", EdgesOfCallsTest::languages);
        Sentence.holds("a LENGTH (0 .. 100000)", EdgesOfCallsTest::lengths);
        Sentence.holds("a TAG number (0 .. 9999), which may be WEAK", EdgesOfCallsTest::tags);
        Sentence.holds("and a time of CHANGE, in seconds from the beginning of 1970 on (0 .. 4102444799).", EdgesOfCallsTest::changes);
        Sentence.holds("THE REQUEST has a METHOD (0 GET, 1 HEAD, 2 OPTIONS, any other) and FIELDS 0 .. 7 with texts of at most 96 characters",
            EdgesOfCallsTest::fieldsOfTheRequest);
        Sentence.holds("0 ACCEPT, 1 LANGUAGES, 2 MATCH, 3 NONE-MATCH, 4 MODIFIED, 5 UNMODIFIED, 6 IF-RANGE, 7 RANGE.", EdgesOfCallsTest::kindsOfFields);
        Sentence.holds("No representations; the method GET, all fields empty; no response yet.", EdgesOfCallsTest::newObject);
        Sentence.holds("Adds a representation and answers its number", EdgesOfCallsTest::numbers);
        Sentence.holds("BAD when a number is out of its bounds, or there are four.", EdgesOfCallsTest::refusedRepresentations);
        Sentence.holds("Takes all representations away.", EdgesOfCallsTest::clear);
        Sentence.holds("A new request: this method, all fields empty.", EdgesOfCallsTest::newRequest);
        Sentence.holds("Puts characters behind a field's text: the bytes of a long from the lowest on, up to the first that is 0.",
            EdgesOfCallsTest::bytesOfALong);
        Sentence.holds("Answers the text's length; BAD, changing nothing, when field is not 0 .. 7", EdgesOfCallsTest::otherFields);
        Sentence.holds("when field is not 0 .. 7, or it would be above 96.", EdgesOfCallsTest::fullTexts);
        Sentence.holds("Answers the request: the status.", EdgesOfCallsTest::respondAnswersTheStatus);
        Sentence.holds("The response is this one until the next call of respond (whatever add() and clear() do meanwhile).", EdgesOfCallsTest::responseStays);
        Sentence.holds("The response is this one until the next call of respond", EdgesOfCallsTest::everyStatusStays);
        Sentence.holds("The status of the response; BAD when there is none.", EdgesOfCallsTest::status);
        Sentence.holds("The representation that was chosen for the response (also of 304, 412, 416); BAD when none was (404, 406, 501, 204),"
            + " or there is no response.", EdgesOfCallsTest::chosen);
        Sentence.holds("Whether a field is there and well formed now; false also when field is not 0 .. 7.", EdgesOfCallsTest::formed);
        Desk.end();
    }

    /** Every call up to the 512th answers as the first did. */
    private static void manyCalls() {
        OriginDesk responding = new OriginDesk(Desk.NOW);
        responding.add(0, 0, 5, 1, false, 0);
        for (int call = 2; call <= 512; call++) {
            Desk.due("respond as call " + call, responding.respond(), 200);
        }
        OriginDesk feeding = new OriginDesk(Desk.NOW);
        for (int call = 1; call <= 512; call++) {
            int fed = (call - 1) / 8 + 1;
            Desk.due("feed as call " + call, feeding.feed((call - 1) % 8, ' '), fed);
        }
        OriginDesk requesting = new OriginDesk(Desk.NOW);
        for (int call = 1; call <= 511; call++) {
            requesting.request(2);
        }
        Desk.due("respond as call 512, nothing there", requesting.respond(), 404);
        OriginDesk adding = new OriginDesk(Desk.NOW);
        for (int call = 1; call <= 512; call += 4) {
            adding.clear();
            Desk.due("add as call " + (call + 1), adding.add(0, 0, 9, 1, false, 0), 0);
            Desk.due("add as call " + (call + 2), adding.add(0, 0, 9, 1, false, 0), 1);
            Desk.due("score as call " + (call + 3), adding.score(1), 1000000);
        }
    }

    private static void types() {
        for (int type : new int[] {-1, 6, 7, 256, Integer.MIN_VALUE, Integer.MAX_VALUE}) {
            Desk.due("type " + type, new OriginDesk(Desk.NOW).add(type, 0, 0, 0, false, 0), BAD);
        }
        String[] names = {"text/html", "text/plain", "application/json", "image/png", "text/html;level=1", "image/svg+xml"};
        for (int type = 0; type < 6; type++) {
            Desk.due("type " + type, new OriginDesk(Desk.NOW).add(type, 0, 0, 0, false, 0), 0);
            Desk.typeQuality(type, names[type], 1000);
            Desk.typeQuality(type, names[(type + 1) % 6], 0);
        }
    }

    private static void languages() {
        for (int language : new int[] {-1, 6, 7, 256, Integer.MIN_VALUE, Integer.MAX_VALUE}) {
            Desk.due("language " + language, new OriginDesk(Desk.NOW).add(0, language, 0, 0, false, 0), BAD);
        }
        String[] names = {"en", "en-us", "de", "de-at", "fr"};
        for (int language = 0; language < 5; language++) {
            Desk.due("language " + language, new OriginDesk(Desk.NOW).add(0, language, 0, 0, false, 0), 0);
            Desk.languageQuality(language, names[language], 1000);
            Desk.languageQuality(language, names[(language + 1) % 5], 0);
        }
        Desk.due("no language", new OriginDesk(Desk.NOW).add(0, 5, 0, 0, false, 0), 0);
        Desk.languageQuality(5, "en", 1000);
    }

    private static void lengths() {
        for (int length : new int[] {-1, 100001, Integer.MIN_VALUE, Integer.MAX_VALUE}) {
            Desk.due("length " + length, new OriginDesk(Desk.NOW).add(0, 0, length, 0, false, 0), BAD);
        }
        for (int length : new int[] {0, 1, 65536, 99999, 100000}) {
            OriginDesk desk = new OriginDesk(Desk.NOW);
            Desk.due("length " + length, desk.add(0, 0, length, 0, false, 0), 0);
            desk.respond();
            Desk.due("body of length " + length, desk.length(), length);
        }
    }

    private static void tags() {
        for (int tag : new int[] {-1, 10000, Integer.MIN_VALUE, Integer.MAX_VALUE}) {
            Desk.due("tag " + tag, new OriginDesk(Desk.NOW).add(0, 0, 0, tag, false, 0), BAD);
            Desk.due("weak tag " + tag, new OriginDesk(Desk.NOW).add(0, 0, 0, tag, true, 0), BAD);
        }
        for (int tag : new int[] {0, 1, 9998, 9999}) {
            OriginDesk desk = new OriginDesk(Desk.NOW);
            Desk.due("tag " + tag, desk.add(0, 0, 0, tag, false, 0), 0);
            Desk.due("MATCH of tag " + tag, Desk.get(desk, Desk.MATCH, "\"v" + tag + "\""), 200);
            OriginDesk weak = new OriginDesk(Desk.NOW);
            Desk.due("weak tag " + tag, weak.add(0, 0, 0, tag, true, 0), 0);
            Desk.due("MATCH of weak tag " + tag, Desk.get(weak, Desk.MATCH, "\"v" + tag + "\""), 412);
        }
    }

    private static void changes() {
        for (long change : new long[] {-1, 4102444800L, 1L << 32, 1L << 62, Long.MIN_VALUE, Long.MAX_VALUE, -4294967296L}) {
            Desk.due("change " + change, new OriginDesk(Desk.NOW).add(0, 0, 0, 0, false, change), BAD);
        }
        long[] changes = {0, 1, 2147483647L, 2147483648L, 4102444798L, 4102444799L};
        String[] dates = {"Thu, 01 Jan 1970 00:00:00 GMT", "Thu, 01 Jan 1970 00:00:01 GMT", "Tue, 19 Jan 2038 03:14:07 GMT", "Tue, 19 Jan 2038 03:14:08 GMT",
            "Thu, 31 Dec 2099 23:59:58 GMT", "Thu, 31 Dec 2099 23:59:59 GMT"};
        for (int i = 0; i < changes.length; i++) {
            OriginDesk desk = new OriginDesk(Desk.NOW);
            Desk.due("change " + changes[i], desk.add(0, 0, 5, 0, false, changes[i]), 0);
            for (int j = 0; j < dates.length; j++) {
                int code = Desk.get(desk, Desk.IF_RANGE, dates[j], Desk.RANGE, "bytes=0-0");
                Desk.due("IF-RANGE " + dates[j] + " at " + changes[i], code, i == j ? 206 : 200);
            }
        }
    }

    private static void fieldsOfTheRequest() {
        for (int field = 0; field < 8; field++) {
            OriginDesk desk = new OriginDesk(Desk.NOW);
            for (int length = 8; length <= 96; length += 8) {
                Desk.due("field " + field + " at " + length, desk.feed(field, SPACES), length);
            }
            Desk.due("field " + field + " at 97", desk.feed(field, ' '), BAD);
            for (int other = 0; other < 8; other++) {
                Desk.due("field " + other + " beside " + field, desk.feed(other, 0), other == field ? 96 : 0);
            }
        }
        int[] methods = {0, 1, 2, 3, -1};
        int[] codes = {206, 200, 204, 501, 501};
        for (int i = 0; i < methods.length; i++) {
            OriginDesk desk = Desk.withOne(20, false);
            Desk.ask(desk, methods[i], Desk.RANGE, "bytes=0-0");
            Desk.due("method " + methods[i], desk.respond(), codes[i]);
        }
    }

    /** Texts of one kind each, with the fields in which they are well formed. */
    private static void kindsOfFields() {
        String[] texts = {"a/b", "en", "*", "\"a\"", "\"a\",", "Sun, 06 Nov 1994 08:49:37 GMT", "bytes=0-0"};
        String[] fields = {"0", "1", "123", "236", "23", "456", "7"};
        for (int i = 0; i < texts.length; i++) {
            for (int field = 0; field < 8; field++) {
                Desk.formed(field, texts[i], fields[i].indexOf('0' + field) >= 0);
            }
        }
    }

    private static void newObject() {
        OriginDesk desk = new OriginDesk(Desk.NOW);
        hasNoResponse(desk);
        for (int n = -1; n <= 4; n++) {
            Desk.due("score(" + n + ") of a new object", desk.score(n), BAD);
        }
        for (int field = 0; field < 8; field++) {
            Desk.due("text of " + field + " of a new object", desk.feed(field, 0), 0);
            Desk.due("formed(" + field + ") of a new object", desk.formed(field), false);
            Desk.due("date(" + field + ") of a new object", desk.date(field), BAD);
        }
        Desk.due("number of the first", desk.add(0, 0, 5, 1, false, 0), 0);
        hasNoResponse(desk);
        Desk.feed(desk, Desk.RANGE, "bytes=1-2");
        hasNoResponse(desk);
        Desk.due("the method is GET", desk.respond(), 206);
        Desk.due("a new object's respond", new OriginDesk(Desk.NOW).respond(), 404);
    }

    private static void hasNoResponse(OriginDesk desk) {
        Desk.due("status of no response", desk.status(), BAD);
        Desk.due("chosen of no response", desk.chosen(), BAD);
        Desk.due("length of no response", desk.length(), 0);
        Desk.due("body of no response", desk.body(0), BAD);
        Desk.due("parts of no response", desk.parts(), 0);
        Desk.due("first of no response", desk.first(0), BAD);
        Desk.due("last of no response", desk.last(0), BAD);
    }

    private static void numbers() {
        OriginDesk desk = new OriginDesk(Desk.NOW);
        for (int n = 0; n < 4; n++) {
            Desk.due("the number " + n, desk.add(n, n, n, n, n % 2 == 1, n), n);
        }
        desk.clear();
        Desk.due("the first number again", desk.add(5, 5, 5, 5, true, 5), 0);
        Desk.due("refused", desk.add(5, 5, -5, 5, true, 5), BAD);
        Desk.due("the next number", desk.add(5, 5, 5, 5, true, 5), 1);
    }

    private static void refusedRepresentations() {
        OriginDesk desk = new OriginDesk(Desk.NOW);
        for (int n = 0; n < 4; n++) {
            refused(desk, n);
            Desk.due("one in its bounds", desk.add(0, 0, 10 + n, n, false, n), n);
        }
        refused(desk, 4);
        Desk.due("a fifth", desk.add(0, 0, 0, 0, false, 0), BAD);
        Desk.due("a fifth again", desk.add(5, 5, 100000, 9999, true, 4102444799L), BAD);
        Desk.due("no score of a fifth", desk.score(4), BAD);
        Desk.due("the first is as it was", Desk.get(desk, Desk.MATCH, "\"v0\""), 200);
        Desk.due("its length", desk.length(), 10);
    }

    /** Each number just out of its bounds; none of these is added. */
    private static void refused(OriginDesk desk, int count) {
        Desk.due("type -1", desk.add(-1, 0, 0, 0, false, 0), BAD);
        Desk.due("type 6", desk.add(6, 0, 0, 0, false, 0), BAD);
        Desk.due("language -1", desk.add(0, -1, 0, 0, false, 0), BAD);
        Desk.due("language 6", desk.add(0, 6, 0, 0, false, 0), BAD);
        Desk.due("length -1", desk.add(0, 0, -1, 0, false, 0), BAD);
        Desk.due("length 100001", desk.add(0, 0, 100001, 0, false, 0), BAD);
        Desk.due("tag -1", desk.add(0, 0, 0, -1, false, 0), BAD);
        Desk.due("tag 10000", desk.add(0, 0, 0, 10000, false, 0), BAD);
        Desk.due("change -1", desk.add(0, 0, 0, 0, false, -1), BAD);
        Desk.due("change 4102444800", desk.add(0, 0, 0, 0, false, 4102444800L), BAD);
        Desk.due("none of them is there", desk.score(count), BAD);
    }

    private static void clear() {
        OriginDesk desk = new OriginDesk(Desk.NOW);
        desk.clear();
        Desk.due("nothing to take away", desk.respond(), 404);
        for (int n = 0; n < 4; n++) {
            desk.add(n, 5, 10 + n, n, false, 0);
        }
        Desk.feed(desk, Desk.ACCEPT, "image/png");
        desk.clear();
        for (int n = 0; n < 4; n++) {
            Desk.due("taken away", desk.score(n), BAD);
        }
        Desk.due("all taken away", desk.respond(), 404);
        Desk.due("the request is as it was", desk.feed(Desk.ACCEPT, 0), 9);
        Desk.due("the first again", desk.add(0, 5, 7, 0, false, 0), 0);
        Desk.due("none behind it", desk.score(1), BAD);
        Desk.due("those taken away aren't chosen", desk.respond(), 406);
        for (int n = 1; n < 4; n++) {
            Desk.due("room for four again", desk.add(0, 5, 7, 0, false, 0), n);
        }
        Desk.due("full again", desk.add(0, 5, 7, 0, false, 0), BAD);
    }

    private static void newRequest() {
        OriginDesk desk = Desk.withOne(20, false);
        for (int method = -1; method <= 3; method++) {
            for (int field = 0; field < 8; field++) {
                Desk.feed(desk, field, field == Desk.RANGE ? "bytes=0-0" : "*");
            }
            desk.request(method);
            for (int field = 0; field < 8; field++) {
                Desk.due("text of " + field + " in a new request", desk.feed(field, 0), 0);
                Desk.due("formed(" + field + ") in a new request", desk.formed(field), false);
            }
            Desk.due("method " + method, desk.respond(), method == 0 || method == 1 ? 200 : method == 2 ? 204 : 501);
        }
        Desk.due("the representation stays", desk.score(0), 1000000);
        desk.request(0);
        desk.feed(Desk.LANGUAGES, Desk.pack("de-at"));
        desk.request(0);
        desk.feed(Desk.LANGUAGES, Desk.pack("fr"));
        Desk.due("nothing of the former text", desk.score(0), 1000000);
    }

    private static void bytesOfALong() {
        for (int many = 0; many <= 8; many++) {
            OriginDesk desk = new OriginDesk(Desk.NOW);
            long kept = many == 8 ? -1L : (1L << 8 * many) - 1;
            Desk.due(many + " characters", desk.feed(Desk.MATCH, SPACES & kept), many);
            Desk.due("none behind a 0", desk.feed(Desk.MATCH, 0), many);
            if (many < 7) {
                OriginDesk holed = new OriginDesk(Desk.NOW);
                long hole = SPACES & ~(255L << 8 * many);
                Desk.due(many + " characters before a 0", holed.feed(Desk.MATCH, hole), many);
            }
        }
        OriginDesk lowest = Desk.withOne(20, false);
        lowest.feed(Desk.RANGE, 0x3D7365747962L);
        lowest.feed(Desk.RANGE, 0x0000362D35L);
        lowest.respond();
        Desk.due("the lowest first", lowest.first(0), 5);
        Desk.due("the higher behind", lowest.last(0), 6);
        OriginDesk highest = new OriginDesk(Desk.NOW);
        Desk.due("bytes from 128 on", highest.feed(Desk.MATCH, 0x22FF80FE81FDFC22L), 8);
        Desk.due("are characters of a tag", highest.formed(Desk.MATCH), true);
        Desk.due("bytes of 255 alone", highest.feed(Desk.NONE_MATCH, -1L), 8);
        Desk.due("only the highest byte", highest.feed(Desk.ACCEPT, 255L << 56), 0);
    }

    private static void otherFields() {
        OriginDesk desk = new OriginDesk(Desk.NOW);
        for (int field : new int[] {-1, 8, 9, 256, -8, Integer.MIN_VALUE, Integer.MAX_VALUE}) {
            Desk.due("feed(" + field + ")", desk.feed(field, '*'), BAD);
            Desk.due("feed(" + field + ") of nothing", desk.feed(field, 0), BAD);
        }
        for (int field = 0; field < 8; field++) {
            Desk.due("field " + field + " is empty still", desk.feed(field, 0), 0);
            Desk.due("field " + field + " takes one", desk.feed(field, '*'), 1);
        }
    }

    private static void fullTexts() {
        for (int room = 0; room <= 8; room++) {
            for (int more = 0; more <= 8; more++) {
                OriginDesk desk = new OriginDesk(Desk.NOW);
                Desk.feed(desk, Desk.MATCH, "*" + " ".repeat(95 - room));
                long characters = more == 8 ? SPACES : SPACES & (1L << 8 * more) - 1;
                Desk.due(more + " where " + room + " fit", desk.feed(Desk.MATCH, characters), more <= room ? 96 - room + more : BAD);
                Desk.due("text, " + more + " where " + room + " fit", desk.feed(Desk.MATCH, 0), more <= room ? 96 - room + more : 96 - room);
                Desk.due("formed, " + more + " where " + room + " fit", desk.formed(Desk.MATCH), true);
            }
        }
        OriginDesk desk = new OriginDesk(Desk.NOW);
        Desk.feed(desk, Desk.LANGUAGES, " ".repeat(93) + "en");
        Desk.due("two where one fits", desk.feed(Desk.LANGUAGES, Desk.pack("-u")), BAD);
        Desk.due("not even the first was taken", desk.formed(Desk.LANGUAGES), true);
        Desk.due("one fits still", desk.feed(Desk.LANGUAGES, '-'), 96);
        Desk.due("and was taken", desk.formed(Desk.LANGUAGES), false);
    }

    private static void respondAnswersTheStatus() {
        OriginDesk desk = new OriginDesk(Desk.NOW);
        answers(desk, 0, 404);
        answers(desk, 3, 501);
        desk.add(1, 4, 20, 42, false, Desk.CHANGE);
        answers(desk, 0, 200);
        answers(desk, 1, 200);
        answers(desk, 2, 204);
        answers(desk, 0, 206, Desk.RANGE, "bytes=0-0");
        answers(desk, 0, 304, Desk.NONE_MATCH, "*");
        answers(desk, 0, 406, Desk.ACCEPT, "a/b");
        answers(desk, 0, 412, Desk.MATCH, "x");
        answers(desk, 0, 416, Desk.RANGE, "bytes=20-");
    }

    private static void answers(OriginDesk desk, int method, int code, Object... fields) {
        Desk.ask(desk, method, fields);
        Desk.due("respond", desk.respond(), code);
        Desk.due("status", desk.status(), code);
        Desk.due("respond again", desk.respond(), code);
        Desk.due("status again", desk.status(), code);
    }

    private static void responseStays() {
        OriginDesk desk = new OriginDesk(Desk.NOW);
        desk.add(0, 5, 5, 1, false, 0);
        desk.add(1, 5, 20, 2, false, 0);
        Desk.get(desk, Desk.ACCEPT, "text/plain", Desk.RANGE, "bytes=2-4,6-7");
        String body = Desk.body(desk);
        staysPartial(desk, body);
        desk.clear();
        staysPartial(desk, body);
        desk.add(2, 5, 9, 9, true, 9);
        desk.add(2, 5, 9, 9, true, 9);
        staysPartial(desk, body);
        desk.request(1);
        staysPartial(desk, body);
        Desk.feed(desk, Desk.RANGE, "bytes=0-0");
        desk.formed(Desk.RANGE);
        desk.score(0);
        staysPartial(desk, body);
        Desk.due("the next one", desk.respond(), 200);
        Desk.due("status of the next one", desk.status(), 200);
        Desk.due("chosen of the next one", desk.chosen(), 0);
        Desk.due("length of the next one", desk.length(), 9);
        Desk.due("parts of the next one", desk.parts(), 0);
        OriginDesk whole = Desk.withOne(20, false);
        whole.respond();
        whole.clear();
        staysWhole(whole);
        whole.add(0, 0, 5, 1, false, 0);
        staysWhole(whole);
        whole.request(3);
        staysWhole(whole);
    }

    private static void staysWhole(OriginDesk desk) {
        Desk.due("status stays", desk.status(), 200);
        Desk.due("chosen stays", desk.chosen(), 0);
        Desk.due("length stays", desk.length(), 20);
        Desk.due("last byte stays", desk.body(19), 7 * 19 + 1);
        Desk.due("end stays", desk.body(20), BAD);
    }

    private static void staysPartial(OriginDesk desk, String body) {
        Desk.due("status stays", desk.status(), 206);
        Desk.due("chosen stays", desk.chosen(), 1);
        Desk.due("length stays", desk.length(), body.length());
        Desk.due("parts stay", desk.parts(), 2);
        Desk.due("first stays", desk.first(1), 6);
        Desk.due("last stays", desk.last(0), 4);
        for (int i : new int[] {0, 15, 25, 26, 27, body.length() - 1}) {
            Desk.due("body stays", desk.body(i), body.charAt(i));
        }
    }

    /** Whatever is called meanwhile, the answers of the response are those that they were right behind respond. */
    private static void everyStatusStays() {
        staysWhatever(0, 200);
        staysWhatever(1, 200);
        staysWhatever(2, 204);
        staysWhatever(3, 501);
        staysWhatever(0, 206, Desk.RANGE, "bytes=3-4");
        staysWhatever(0, 206, Desk.RANGE, "bytes=3-4,19-,0-0,6-7");
        staysWhatever(1, 200, Desk.RANGE, "bytes=3-4");
        staysWhatever(0, 304, Desk.NONE_MATCH, "*");
        staysWhatever(1, 304, Desk.NONE_MATCH, "*");
        staysWhatever(0, 406, Desk.ACCEPT, "a/b");
        staysWhatever(0, 412, Desk.MATCH, "x");
        staysWhatever(0, 416, Desk.RANGE, "bytes=20-");
        OriginDesk empty = new OriginDesk(Desk.NOW);
        Desk.due("nothing there", empty.respond(), 404);
        staysMeanwhile(empty, "404");
    }

    private static void staysWhatever(int method, int code, Object... fields) {
        OriginDesk desk = new OriginDesk(Desk.NOW);
        desk.add(0, 5, 9, 41, false, 1);
        desk.add(1, 5, 20, 42, false, Desk.CHANGE);
        Desk.ask(desk, method, fields);
        if (code != 406) {
            Desk.feed(desk, Desk.ACCEPT, "text/plain");
        }
        Desk.due("method " + method, desk.respond(), code);
        staysMeanwhile(desk, "method " + method + ", " + code);
    }

    private static void staysMeanwhile(OriginDesk desk, String what) {
        String told = told(desk);
        desk.add(6, 0, 0, 0, false, 0);
        desk.add(0, 5, 3, 4, true, 5);
        stays(desk, what + ", add", told);
        desk.clear();
        stays(desk, what + ", clear", told);
        desk.add(2, 5, 7, 4, true, 5);
        desk.add(3, 5, 8, 4, true, 5);
        stays(desk, what + ", clear and add", told);
        for (int method = 3; method >= 0; method--) {
            desk.request(method);
            stays(desk, what + ", request " + method, told);
        }
        Desk.feed(desk, Desk.RANGE, "bytes=0-0,2-2,4-4");
        desk.formed(Desk.RANGE);
        desk.score(0);
        stays(desk, what + ", feed", told);
        Desk.due(what + ", then respond", desk.respond(), 206);
        Desk.due(what + ", then parts", desk.parts(), 3);
    }

    private static void stays(OriginDesk desk, String what, String told) {
        Desk.same(what + ": the response", told(desk), told);
    }

    /** What the calls of the promises 7 to 13 answer, but the bytes only near the edges. */
    private static String told(OriginDesk desk) {
        StringBuilder text = new StringBuilder();
        text.append(desk.status()).append(' ').append(desk.chosen()).append(' ').append(desk.length()).append(' ').append(desk.parts());
        for (int k = 0; k < 4; k++) {
            text.append(' ').append(desk.first(k)).append('-').append(desk.last(k));
        }
        int end = (int) desk.length();
        for (int i : new int[] {0, 1, 7, 19, end - 1, end, end + 1}) {
            text.append(' ').append(desk.body(i));
        }
        return text.toString();
    }

    private static void status() {
        OriginDesk desk = new OriginDesk(Desk.NOW);
        Desk.due("no response", desk.status(), BAD);
        desk.request(3);
        Desk.due("no response to a request", desk.status(), BAD);
        desk.respond();
        Desk.due("a response", desk.status(), 501);
        desk.request(0);
        Desk.due("the former response", desk.status(), 501);
        desk.respond();
        Desk.due("the next response", desk.status(), 404);
    }

    private static void chosen() {
        OriginDesk desk = new OriginDesk(Desk.NOW);
        Desk.due("no response", desk.chosen(), BAD);
        chooses(desk, 0, 404, BAD);
        for (int n = 0; n < 4; n++) {
            desk.add(n, 5, 20, n, false, Desk.CHANGE);
        }
        Desk.due("of 404, though now there are some", desk.chosen(), BAD);
        chooses(desk, 0, 200, 3, Desk.ACCEPT, "image/png");
        chooses(desk, 0, 206, 3, Desk.ACCEPT, "image/png", Desk.RANGE, "bytes=0-0");
        chooses(desk, 0, 304, 3, Desk.ACCEPT, "image/png", Desk.NONE_MATCH, "*");
        chooses(desk, 0, 412, 3, Desk.ACCEPT, "image/png", Desk.MATCH, "\"v0\"");
        chooses(desk, 0, 416, 3, Desk.ACCEPT, "image/png", Desk.RANGE, "bytes=20-");
        chooses(desk, 0, 406, BAD, Desk.ACCEPT, "a/b");
        chooses(desk, 1, 200, 3, Desk.ACCEPT, "image/png");
        chooses(desk, 2, 204, BAD, Desk.ACCEPT, "image/png");
        chooses(desk, 0, 200, 0);
        chooses(desk, 3, 501, BAD, Desk.ACCEPT, "image/png");
    }

    private static void chooses(OriginDesk desk, int method, int code, int want, Object... fields) {
        Desk.ask(desk, method, fields);
        Desk.due("respond", desk.respond(), code);
        Desk.due("chosen of " + code, desk.chosen(), want);
    }

    private static void formed() {
        String date = "Sun, 06 Nov 1994 08:49:37 GMT";
        String[] texts = {"a/b", "en", "*", "*", date, date, date, "bytes=0-0"};
        for (int field = 0; field < 8; field++) {
            OriginDesk desk = new OriginDesk(Desk.NOW);
            Desk.due("nothing there", desk.formed(field), false);
            Desk.feed(desk, field, texts[field]);
            for (int other = -1; other <= 8; other++) {
                Desk.due("formed(" + other + "), fed " + field, desk.formed(other), other == field);
            }
            Desk.due("the greatest field", desk.formed(Integer.MAX_VALUE), false);
            Desk.due("the least field", desk.formed(Integer.MIN_VALUE), false);
            desk.feed(field, '(');
            Desk.due("no longer formed(" + field + ")", desk.formed(field), false);
            desk.request(0);
            Desk.due("no longer there", desk.formed(field), false);
        }
    }
}
