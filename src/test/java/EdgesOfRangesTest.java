/** The sentences on RANGE, on what becomes of its specs, and on the body, at their edges. */
public final class EdgesOfRangesTest {
    private static final int BAD = OriginDesk.BAD;
    private static final int LENGTH = 20;

    public static void main(String[] args) {
        Sentence.holds("7 RANGE: bytes, =, and a list of SPECS: digits, -, and perhaps digits, not less than those before; or - and digits.",
            EdgesOfRangesTest::specs);
        Sentence.holds("(A number of more than nine digits is 999999999, also when it is compared.)", EdgesOfRangesTest::longNumbers);
        Sentence.holds("Letters of bytes are alike.", EdgesOfRangesTest::lettersOfBytes);
        Sentence.holds("For GET with RANGE, when IF-RANGE isn't there, or it is a tag that is strongly the same, or the date that is the time of change"
            + " (not when it is there and not well formed): its specs are RESOLVED", EdgesOfRangesTest::ifRange);
        Sentence.holds("first - last becomes the bytes from first to last, at most to the end", EdgesOfRangesTest::firstToLast);
        Sentence.holds("first - those from first on", EdgesOfRangesTest::firstOn);
        Sentence.holds("- n the last n.", EdgesOfRangesTest::lastOnes);
        Sentence.holds("A spec that leaves no byte (first is not below the length, or n or the length is 0) is dropped.", EdgesOfRangesTest::dropped);
        Sentence.holds("If there are more than four specs in the list", EdgesOfRangesTest::moreThanFour);
        Sentence.holds("or two of those that are left have a byte in common, RANGE counts as if it weren't there", EdgesOfRangesTest::byteInCommon);
        Sentence.holds("else 416 when none is left", EdgesOfRangesTest::noneLeft);
        Sentence.holds("else 206 with those that are left as PARTS, in their order.", EdgesOfRangesTest::inTheirOrder);
        Sentence.holds("200 otherwise.", EdgesOfRangesTest::otherwise);
        Sentence.holds("Its byte i is (7 * i + 13 * n + 1) % 251, n being its number.", EdgesOfRangesTest::bytesOfRepresentations);
        Sentence.holds("THE BODY: of 200 all bytes of the chosen one", EdgesOfRangesTest::wholeBody);
        Sentence.holds("of 206 with one part its bytes", EdgesOfRangesTest::bodyOfOnePart);
        Sentence.holds("of 206 with several parts, for each part the text --PART, 13, 10, the text Range: first-last/length (three numbers in digits,"
            + " one space behind the colon), 13, 10, 13, 10, its bytes, 13, 10; and behind all parts the text --PART--, 13, 10",
            EdgesOfRangesTest::bodyOfSeveralParts);
        Sentence.holds("the text --PART--, 13, 10; of others nothing.", EdgesOfRangesTest::noBody);
        Sentence.holds("For HEAD there is no body, but the length told is that of a GET without RANGE.", EdgesOfRangesTest::head);
        Sentence.holds("How many bytes the body has (for HEAD: of a GET without RANGE); 0 when there is no response, or none of 200 and 206.",
            EdgesOfRangesTest::lengths);
        Sentence.holds("Byte i of the body; BAD when there is none.", EdgesOfRangesTest::besideTheBody);
        Sentence.holds("How many parts the response has; 0 when its status is not 206.", EdgesOfRangesTest::numbersOfParts);
        Sentence.holds("The first byte of part k; BAD when there is none.", EdgesOfRangesTest::firsts);
        Sentence.holds("The last byte of part k; BAD when there is none.", EdgesOfRangesTest::lasts);
        Desk.end();
    }

    private static void specs() {
        for (String list : new String[] {"0-", "0-0", "-0", "-1", "5-5", "5-6", "007-8", "8-0009", "9-10", "1-,2-,-3", " 1-2 ,\t3-4 ", "0-1" + ",0-1".repeat(21)}) {
            Desk.formed(Desk.RANGE, "bytes=" + list, true);
        }
        for (String list : new String[] {"", " ", ",", "-", "5", "5-4", "10-9", "1-0", "--1", "1--2", "1-2-3", "1-2-", "- 1", "1 -2", "1- 2", "a-b", "0x1-2", "+1-2", "1-+2", "1.0-2",
            "1-2 3-4", "1-2;3-4", "1-2,3", "1-2,4-3", "1-2,-", "*", "1-2/20", "=1-2"}) {
            Desk.formed(Desk.RANGE, "bytes=" + list, false);
            Desk.due("respond to <bytes=" + list + ">", Desk.get(Desk.withOne(LENGTH, false), Desk.RANGE, "bytes=" + list), 200);
        }
        for (String text : new String[] {"bytes", "bytes 1-2", "bytes =1-2", "byte=1-2", "bytess=1-2", "ytes=1-2", "items=1-2", "=1-2", "1-2", "bytes:1-2", "b ytes=1-2",
            ",bytes=1-2", "bytes=1-2,bytes=3-4"}) {
            Desk.formed(Desk.RANGE, text, false);
        }
        Desk.formed(Desk.RANGE, " \tbytes= \t1-2\t ", true);
    }

    private static void longNumbers() {
        String[] nine = {"999999999", "999999998", "000000000", "100000000"};
        String[] ten = {"1000000000", "9999999999", "2147483648", "4294967296", "4294967297", "0000000000", "0000000001", "1" + "0".repeat(30)};
        for (String number : ten) {
            for (String other : ten) {
                Desk.formed(Desk.RANGE, "bytes=" + number + "-" + other, true);
            }
            Desk.formed(Desk.RANGE, "bytes=" + number + "-999999999", true);
            Desk.formed(Desk.RANGE, "bytes=" + number + "-999999998", false);
            Desk.formed(Desk.RANGE, "bytes=999999999-" + number, true);
            Desk.formed(Desk.RANGE, "bytes=" + number + "-0", false);
            resolves("bytes=" + number + "-");
            resolves("bytes=3-" + number, 3, 19);
            resolves("bytes=-" + number, 0, 19);
        }
        for (String number : nine) {
            Desk.formed(Desk.RANGE, "bytes=" + number + "-" + number, true);
            Desk.formed(Desk.RANGE, "bytes=" + number + "-000000001", number.equals("000000000"));
        }
        resolves("bytes=000000003-000000004", 3, 4);
        resolves("bytes=-000000001", 19, 19);
        Desk.formed(Desk.RANGE, "bytes=" + "9".repeat(44) + "-" + "1".repeat(45), true);
    }

    private static void lettersOfBytes() {
        String name = "bytes";
        for (int place = 0; place < name.length(); place++) {
            for (int code = 1; code <= 255; code++) {
                boolean alike = code == name.charAt(place) || code == name.charAt(place) - 32;
                Desk.formed(Desk.RANGE, name.substring(0, place) + (char) code + name.substring(place + 1) + "=0-0", alike);
            }
        }
        Desk.formed(Desk.RANGE, "BYTES=0-0", true);
    }

    private static void ifRange() {
        String[] fits = {"", "\"v42\"", " \"v42\"\t", "Sun, 06 Nov 1994 08:49:37 GMT", "Sunday, 06-Nov-94 08:49:37 GMT", " Sun Nov  6 08:49:37 1994 "};
        for (String text : fits) {
            guarded(false, text, 206);
            guarded(true, text, text.contains("v42") ? 200 : 206);
        }
        String[] doesNot = {"W/\"v42\"", "\"v4\"", "\"\"", "Sun, 06 Nov 1994 08:49:36 GMT", "Sun, 06 Nov 1994 08:49:38 GMT", "Sun, 06 Nov 1994 08:49:60 GMT"};
        String[] notFormed = {" ", "*", "v42", "\"v42\",", "\"v42\"x", "\"v42", "\"v42\",\"v42\"", "Sun, 06 Nov 1994 08:49:37 GMT.", ",", "\u0001"};
        for (String text : doesNot) {
            guarded(false, text, 200);
            guarded(true, text, 200);
        }
        for (String text : notFormed) {
            guarded(false, text, 200);
            guarded(true, text, 200);
        }
        OriginDesk first = new OriginDesk(Desk.NOW);
        first.add(0, 5, LENGTH, 1, false, 0);
        Desk.due("the first second", Desk.get(first, Desk.IF_RANGE, "Thu, 01 Jan 1970 00:00:00 GMT", Desk.RANGE, "bytes=0-0"), 206);
        Desk.due("no date is no first second", Desk.get(first, Desk.IF_RANGE, "Thu", Desk.RANGE, "bytes=0-0"), 200);
    }

    private static void guarded(boolean weak, String text, int code) {
        OriginDesk desk = Desk.withOne(LENGTH, weak);
        Desk.due((weak ? "weak" : "strong") + ", IF-RANGE <" + text + ">", Desk.get(desk, Desk.IF_RANGE, text, Desk.RANGE, "bytes=1-2"), code);
        int beyond = Desk.get(desk, Desk.IF_RANGE, text, Desk.RANGE, "bytes=20-");
        Desk.due((weak ? "weak" : "strong") + ", beyond, IF-RANGE <" + text + ">", beyond, code == 206 ? 416 : 200);
    }

    private static void firstToLast() {
        resolves("bytes=0-0", 0, 0);
        resolves("bytes=0-18", 0, 18);
        resolves("bytes=0-19", 0, 19);
        resolves("bytes=0-20", 0, 19);
        resolves("bytes=0-999999999", 0, 19);
        resolves("bytes=19-19", 19, 19);
        resolves("bytes=19-20", 19, 19);
        resolves("bytes=5-6", 5, 6);
        OriginDesk longest = new OriginDesk(Desk.NOW);
        longest.add(0, 5, 100000, 1, false, 0);
        Desk.due("of the longest", Desk.get(longest, Desk.RANGE, "bytes=99998-100000"), 206);
        Desk.due("its first", longest.first(0), 99998);
        Desk.due("its last", longest.last(0), 99999);
    }

    private static void firstOn() {
        resolves("bytes=0-", 0, 19);
        resolves("bytes=1-", 1, 19);
        resolves("bytes=18-", 18, 19);
        resolves("bytes=19-", 19, 19);
    }

    private static void lastOnes() {
        resolves("bytes=-1", 19, 19);
        resolves("bytes=-2", 18, 19);
        resolves("bytes=-19", 1, 19);
        resolves("bytes=-20", 0, 19);
        resolves("bytes=-21", 0, 19);
        resolves("bytes=-999999999", 0, 19);
    }

    private static void dropped() {
        resolves("bytes=20-,3-4", 3, 4);
        resolves("bytes=20-20,3-4", 3, 4);
        resolves("bytes=3-4,-0", 3, 4);
        resolves("bytes=-0,20-,3-4,21-22", 3, 4);
        resolves("bytes=19-,20-", 19, 19);
        resolves("bytes=0-1,20-21,3-4,-0", 0, 1, 3, 4);
        OriginDesk empty = Desk.withOne(0, false);
        for (String range : new String[] {"bytes=0-", "bytes=0-0", "bytes=-1", "bytes=-0", "bytes=1-2", "bytes=0-,-1"}) {
            Desk.due("<" + range + "> of no bytes", Desk.get(empty, Desk.RANGE, range), 416);
        }
        OriginDesk one = Desk.withOne(1, false);
        Desk.due("0- of one byte", Desk.get(one, Desk.RANGE, "bytes=0-"), 206);
        Desk.due("-1 of one byte", Desk.get(one, Desk.RANGE, "bytes=-1"), 206);
        Desk.due("1- of one byte", Desk.get(one, Desk.RANGE, "bytes=1-"), 416);
    }

    private static void moreThanFour() {
        resolves("bytes=0-0,2-2,4-4,6-6", 0, 0, 2, 2, 4, 4, 6, 6);
        resolves("bytes=0-0,2-2,4-4,,6-6", 0, 0, 2, 2, 4, 4, 6, 6);
        whole("bytes=0-0,2-2,4-4,6-6,8-8");
        whole("bytes=0-0,20-,21-,22-,23-");
        whole("bytes=20-,21-,22-,23-,24-");
        whole("bytes=20-,21-,22-,23-,0-0");
        whole("bytes=-0,-0,-0,-0,-0");
        whole("bytes=0-1" + ",0-1".repeat(21));
        resolves("bytes=20-,21-,22-,23-");
    }

    private static void byteInCommon() {
        whole("bytes=0-4,4-8");
        whole("bytes=4-8,0-4");
        whole("bytes=0-8,3-4");
        whole("bytes=3-4,0-8");
        whole("bytes=3-3,3-3");
        whole("bytes=0-,-1");
        whole("bytes=0-1,18-,-2");
        whole("bytes=0-0,2-2,4-4,0-0");
        whole("bytes=0-0,2-2,4-4,4-5");
        whole("bytes=0-0,2-3,3-4,6-6");
        whole("bytes=18-25,19-30");
        whole("bytes=0-4,20-,4-4");
        resolves("bytes=0-4,5-8", 0, 4, 5, 8);
        resolves("bytes=5-8,0-4", 5, 8, 0, 4);
        resolves("bytes=0-18,-1", 0, 18, 19, 19);
        resolves("bytes=20-30,25-28,-0,7-8", 7, 8);
    }

    private static void noneLeft() {
        resolves("bytes=20-");
        resolves("bytes=20-20");
        resolves("bytes=-0");
        resolves("bytes=20-,20-,-0,999999999-");
        OriginDesk desk = Desk.withOne(LENGTH, false);
        Desk.due("416", Desk.get(desk, Desk.RANGE, "bytes=20-"), 416);
        Desk.due("chosen of 416", desk.chosen(), 0);
        Desk.due("19 is left", Desk.get(desk, Desk.RANGE, "bytes=19-"), 206);
    }

    private static void inTheirOrder() {
        resolves("bytes=18-,10-11,0-1", 18, 19, 10, 11, 0, 1);
        resolves("bytes=6-6,4-4,2-2,0-0", 6, 6, 4, 4, 2, 2, 0, 0);
        resolves("bytes=-1,20-,0-0", 19, 19, 0, 0);
    }

    private static void otherwise() {
        OriginDesk desk = Desk.withOne(LENGTH, false);
        Desk.due("no field", Desk.get(desk), 200);
        Desk.due("all fit", Desk.get(desk, Desk.ACCEPT, "text/plain", Desk.LANGUAGES, "fr", Desk.MATCH, "\"v42\"", Desk.NONE_MATCH, "\"a\"", Desk.IF_RANGE, "\"a\"",
            Desk.RANGE, "bytes=0-0"), 200);
        Desk.due("IF-RANGE alone", Desk.get(desk, Desk.IF_RANGE, "\"v42\""), 200);
        Desk.ask(desk, 1, Desk.RANGE, "bytes=0-0");
        Desk.due("HEAD with RANGE", desk.respond(), 200);
        Desk.ask(desk, 1, Desk.RANGE, "bytes=99-");
        Desk.due("HEAD with RANGE beyond", desk.respond(), 200);
    }

    private static void bytesOfRepresentations() {
        String[] accept = {"text/html", "text/plain", "application/json", "image/png"};
        for (int n = 0; n < 4; n++) {
            OriginDesk desk = new OriginDesk(Desk.NOW);
            for (int type = 0; type < 4; type++) {
                desk.add(type, 5, 100000, 1, false, 0);
            }
            Desk.get(desk, Desk.ACCEPT, accept[n]);
            for (int i : new int[] {0, 1, 34, 35, 36, 71, 143, 179, 250, 251, 252, 1000, 32767, 32768, 65535, 65536, 99998, 99999}) {
                Desk.due("byte " + i + " of " + n, desk.body(i), (7 * i + 13 * n + 1) % 251);
            }
        }
        OriginDesk desk = new OriginDesk(Desk.NOW);
        desk.add(0, 5, 300, 1, false, 0);
        desk.respond();
        Desk.due("the greatest byte", desk.body(179), 250);
        Desk.due("the least byte", desk.body(215), 0);
    }

    private static void wholeBody() {
        for (int length : new int[] {0, 1, 2, 250, 251, 252}) {
            OriginDesk desk = Desk.withOne(length, false);
            Desk.due("whole", Desk.get(desk), 200);
            Desk.due("length of the whole", desk.length(), length);
            Desk.same("body of the whole", Desk.body(desk), Desk.bytes(0, 0, length - 1));
        }
        OriginDesk longest = new OriginDesk(Desk.NOW);
        longest.add(0, 5, 1, 1, false, 0);
        longest.add(1, 5, 100000, 1, false, 0);
        Desk.get(longest, Desk.ACCEPT, "text/plain");
        Desk.due("the longest", longest.length(), 100000);
        Desk.due("its last byte", longest.body(99999), (7 * 99999 + 13 + 1) % 251);
        Desk.due("behind its last byte", longest.body(100000), BAD);
    }

    private static void bodyOfOnePart() {
        OriginDesk desk = Desk.withOne(LENGTH, false);
        for (int[] edges : new int[][] {{0, 0}, {0, 19}, {19, 19}, {3, 7}}) {
            Desk.get(desk, Desk.RANGE, "bytes=" + edges[0] + "-" + edges[1]);
            Desk.due("length of one part", desk.length(), edges[1] - edges[0] + 1);
            Desk.same("body of one part", Desk.body(desk), Desk.bytes(0, edges[0], edges[1]));
        }
        Desk.get(desk, Desk.RANGE, "bytes=20-,3-4,-0");
        Desk.same("body of the one part that is left", Desk.body(desk), Desk.bytes(0, 3, 4));
    }

    private static void bodyOfSeveralParts() {
        several(LENGTH, "bytes=0-0,19-19", 0, 0, 19, 19);
        several(LENGTH, "bytes=9-10,-1,0-0", 9, 10, 19, 19, 0, 0);
        several(LENGTH, "bytes=0-9,10-19", 0, 9, 10, 19);
        several(11, "bytes=10-,8-9,0-1,3-3", 10, 10, 8, 9, 0, 1, 3, 3);
        several(100000, "bytes=99999-,9999-10000,999-1000,99-100", 99999, 99999, 9999, 10000, 999, 1000, 99, 100);
        OriginDesk desk = new OriginDesk(Desk.NOW);
        desk.add(0, 5, 100000, 1, false, 0);
        Desk.get(desk, Desk.RANGE, "bytes=0-49999,50000-");
        Desk.due("length of all in two parts", desk.length(), 100000 + "--PART\r\nRange: 0-49999/100000\r\n\r\n\r\n".length()
            + "--PART\r\nRange: 50000-99999/100000\r\n\r\n\r\n".length() + "--PART--\r\n".length());
        Desk.due("the last character", desk.body((int) desk.length() - 1), 10);
        Desk.due("the last byte of the first part", desk.body(33 + 49999), (7 * 49999 + 1) % 251);
        Desk.due("behind the first part", desk.body(33 + 50000), 13);
    }

    private static void several(int length, String range, int... edges) {
        OriginDesk desk = new OriginDesk(Desk.NOW);
        desk.add(0, 5, 1, 1, false, 0);
        desk.add(1, 5, length, 1, false, 0);
        Desk.due("<" + range + ">", Desk.get(desk, Desk.ACCEPT, "text/plain", Desk.RANGE, range), 206);
        StringBuilder want = new StringBuilder();
        for (int k = 0; k < edges.length; k += 2) {
            want.append("--PART\r\nRange: ").append(edges[k]).append('-').append(edges[k + 1]).append('/').append(length).append("\r\n\r\n");
            want.append(Desk.bytes(1, edges[k], edges[k + 1])).append("\r\n");
        }
        want.append("--PART--\r\n");
        Desk.due("length of <" + range + ">", desk.length(), want.length());
        Desk.same("body of <" + range + ">", Desk.body(desk), want.toString());
    }

    /** One desk for each status, in the order of STATUSES. */
    private static OriginDesk[] answered() {
        OriginDesk[] desks = new OriginDesk[STATUSES.length];
        for (int i = 0; i < desks.length; i++) {
            desks[i] = Desk.withOne(LENGTH, false);
        }
        Desk.get(desks[0]);
        Desk.get(desks[1], Desk.RANGE, "bytes=1-2,4-5");
        Desk.ask(desks[2], 2, Desk.RANGE, "bytes=1-2");
        Desk.get(desks[3], Desk.NONE_MATCH, "*", Desk.RANGE, "bytes=1-2");
        desks[4].clear();
        Desk.get(desks[5], Desk.ACCEPT, "a/b", Desk.RANGE, "bytes=1-2");
        Desk.get(desks[6], Desk.MATCH, "x", Desk.RANGE, "bytes=1-2");
        Desk.get(desks[7], Desk.RANGE, "bytes=20-");
        Desk.ask(desks[8], 3, Desk.RANGE, "bytes=1-2");
        for (int i = 0; i < desks.length; i++) {
            Desk.due("respond for " + STATUSES[i], desks[i].respond(), STATUSES[i]);
        }
        return desks;
    }

    private static final int[] STATUSES = {200, 206, 204, 304, 404, 406, 412, 416, 501};

    private static void noBody() {
        OriginDesk[] desks = answered();
        for (int i = 2; i < desks.length; i++) {
            Desk.due("body(0) of " + STATUSES[i], desks[i].body(0), BAD);
            Desk.due("body(1) of " + STATUSES[i], desks[i].body(1), BAD);
            Desk.due("length of " + STATUSES[i], desks[i].length(), 0);
        }
        Desk.due("body(0) of 200", desks[0].body(0), 1);
        Desk.due("body(0) of 206", desks[1].body(0), '-');
    }

    private static void head() {
        OriginDesk desk = Desk.withOne(LENGTH, false);
        for (String range : new String[] {"", "bytes=1-2", "bytes=1-2,4-5", "bytes=20-", "bytes=0-0,0-0", "x"}) {
            Desk.ask(desk, 1, Desk.RANGE, range);
            Desk.due("HEAD with <" + range + ">", desk.respond(), 200);
            Desk.due("length for HEAD with <" + range + ">", desk.length(), LENGTH);
            Desk.due("body(0) for HEAD with <" + range + ">", desk.body(0), BAD);
            Desk.due("body(19) for HEAD with <" + range + ">", desk.body(LENGTH - 1), BAD);
            Desk.due("parts for HEAD with <" + range + ">", desk.parts(), 0);
        }
        Desk.due("GET has a body again", Desk.get(desk), 200);
        Desk.due("its first byte", desk.body(0), 1);
        Desk.ask(desk, 1, Desk.ACCEPT, "a/b");
        desk.respond();
        Desk.due("length for HEAD with 406", desk.length(), 0);
        Desk.ask(desk, 1, Desk.MATCH, "\"a\"");
        desk.respond();
        Desk.due("length for HEAD with 412", desk.length(), 0);
        Desk.ask(desk, 1, Desk.NONE_MATCH, "*");
        desk.respond();
        Desk.due("length for HEAD with 304", desk.length(), 0);
        OriginDesk empty = Desk.withOne(0, false);
        empty.request(1);
        empty.respond();
        Desk.due("length for HEAD of no bytes", empty.length(), 0);
    }

    private static void lengths() {
        OriginDesk[] desks = answered();
        Desk.due("length before a response", new OriginDesk(Desk.NOW).length(), 0);
        Desk.due("length of 200", desks[0].length(), LENGTH);
        Desk.due("length of 206", desks[1].length(), 2 * "--PART\r\nRange: 1-2/20\r\n\r\nxx\r\n".length() + "--PART--\r\n".length());
        for (int i = 2; i < desks.length; i++) {
            Desk.due("length of " + STATUSES[i], desks[i].length(), 0);
        }
        desks[0].request(1);
        Desk.due("length until respond", desks[0].length(), LENGTH);
        desks[0].respond();
        Desk.due("length for HEAD", desks[0].length(), LENGTH);
    }

    private static void besideTheBody() {
        Desk.due("body before a response", new OriginDesk(Desk.NOW).body(0), BAD);
        for (String range : new String[] {"", "bytes=1-2", "bytes=1-2,4-5"}) {
            OriginDesk desk = Desk.withOne(LENGTH, false);
            Desk.get(desk, Desk.RANGE, range);
            int length = (int) desk.length();
            Desk.due("the first of <" + range + ">", desk.body(0) != BAD, true);
            Desk.due("the last of <" + range + ">", desk.body(length - 1) != BAD, true);
            for (int i : new int[] {-1, -2, length, length + 1, Integer.MAX_VALUE, Integer.MIN_VALUE, 1 << 30}) {
                Desk.due("body(" + i + ") of <" + range + ">", desk.body(i), BAD);
            }
        }
    }

    private static void numbersOfParts() {
        Desk.due("parts before a response", new OriginDesk(Desk.NOW).parts(), 0);
        OriginDesk[] desks = answered();
        for (int i = 0; i < desks.length; i++) {
            Desk.due("parts of " + STATUSES[i], desks[i].parts(), STATUSES[i] == 206 ? 2 : 0);
        }
        resolves("bytes=0-0", 0, 0);
        resolves("bytes=0-0,2-2,4-4", 0, 0, 2, 2, 4, 4);
        Desk.get(desks[1]);
        Desk.due("parts of the next response", desks[1].parts(), 0);
    }

    private static void firsts() {
        Desk.due("first before a response", new OriginDesk(Desk.NOW).first(0), BAD);
        OriginDesk[] desks = answered();
        for (int i = 0; i < desks.length; i++) {
            Desk.due("first(0) of " + STATUSES[i], desks[i].first(0), STATUSES[i] == 206 ? 1 : BAD);
        }
        int[] want = {BAD, 1, 4, BAD, BAD};
        for (int k = -1; k <= 3; k++) {
            Desk.due("first(" + k + ")", desks[1].first(k), want[k + 1]);
        }
        Desk.due("first, far", desks[1].first(Integer.MAX_VALUE), BAD);
        Desk.due("first, far below", desks[1].first(Integer.MIN_VALUE), BAD);
        Desk.get(desks[1], Desk.RANGE, "bytes=7-8");
        Desk.due("first(0) of the next", desks[1].first(0), 7);
        Desk.due("first(1) of the next", desks[1].first(1), BAD);
    }

    private static void lasts() {
        Desk.due("last before a response", new OriginDesk(Desk.NOW).last(0), BAD);
        OriginDesk[] desks = answered();
        for (int i = 0; i < desks.length; i++) {
            Desk.due("last(0) of " + STATUSES[i], desks[i].last(0), STATUSES[i] == 206 ? 2 : BAD);
        }
        int[] want = {BAD, 2, 5, BAD, BAD};
        for (int k = -1; k <= 3; k++) {
            Desk.due("last(" + k + ")", desks[1].last(k), want[k + 1]);
        }
        Desk.due("last, far", desks[1].last(Integer.MAX_VALUE), BAD);
        Desk.due("last, far below", desks[1].last(Integer.MIN_VALUE), BAD);
        Desk.get(desks[1], Desk.RANGE, "bytes=7-8");
        Desk.due("last(0) of the next", desks[1].last(0), 8);
        Desk.due("last(1) of the next", desks[1].last(1), BAD);
    }

    /** Of a representation of 20 bytes: the firsts and lasts that are due, 416 when there are none. */
    private static void resolves(String range, int... edges) {
        OriginDesk desk = Desk.withOne(LENGTH, false);
        int parts = edges.length / 2;
        Desk.due("respond to <" + range + ">", Desk.get(desk, Desk.RANGE, range), parts == 0 ? 416 : 206);
        Desk.due("parts of <" + range + ">", desk.parts(), parts);
        for (int k = 0; k < parts; k++) {
            Desk.due("first(" + k + ") of <" + range + ">", desk.first(k), edges[2 * k]);
            Desk.due("last(" + k + ") of <" + range + ">", desk.last(k), edges[2 * k + 1]);
        }
    }

    /** The whole representation of 20 bytes, as without RANGE, which is well formed all the same. */
    private static void whole(String range) {
        OriginDesk desk = Desk.withOne(LENGTH, false);
        Desk.due("respond to <" + range + ">", Desk.get(desk, Desk.RANGE, range), 200);
        Desk.due("formed <" + range + ">", desk.formed(Desk.RANGE), true);
        Desk.due("parts of <" + range + ">", desk.parts(), 0);
        Desk.due("length of <" + range + ">", desk.length(), LENGTH);
        Desk.due("last byte of <" + range + ">", desk.body(LENGTH - 1), 7 * (LENGTH - 1) + 1);
    }
}
