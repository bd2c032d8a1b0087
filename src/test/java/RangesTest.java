/** Promises 6, 9 to 13 and 15: ranges, parts and bodies. */
public final class RangesTest {
    private static final int BAD = OriginDesk.BAD;

    public static void main(String[] args) {
        texts();
        onePart();
        droppedSpecs();
        emptyRepresentation();
        manySpecs();
        overlaps();
        longNumbers();
        ifRange();
        wholeBody();
        partBody();
        manyPartsBody();
        head();
        Desk.end();
    }

    private static void texts() {
        String[] formed = {
            "bytes=0-0", "bytes=0-", "bytes=-0", "bytes=-5", "BYTES=1-2", "bYtEs=1-2", " bytes=1-2\t", "bytes= 1-2", "bytes=,1-2",
            "bytes=1-2 ,\t, -3,", "bytes=007-8", "bytes=5-5", "bytes=9-,1-2,3-3,4-4,5-5"
        };
        String[] malformed = {
            "", " ", "bytes", "bytes=", "bytes= , ", "bytes=-", "bytes=1", "bytes=2-1", "bytes =1-2", "byte=1-2", "bits=1-2", "bytess=1-2",
            "bytes=1 -2", "bytes=1- 2", "bytes=- 2", "bytes=1-2;3-4", "bytes=1-2 3-4", "bytes=1-2-3", "bytes=--2", "bytes=a-b", "bytes=1-2,x",
            "bytes=1-2,2-1", "=1-2", "1-2", "bytes=+1-2", ",bytes=1-2", "bytes=1-2,bytes=3-4", "b ytes=1-2"
        };
        for (String text : formed) {
            Desk.formed(Desk.RANGE, text, true);
        }
        for (String text : malformed) {
            Desk.formed(Desk.RANGE, text, false);
            Desk.due("respond with <" + text + ">", Desk.get(Desk.withOne(20, false), Desk.RANGE, text), 200);
        }
    }

    private static void onePart() {
        resolves("bytes=0-4", 0, 4);
        resolves("bytes=0-0", 0, 0);
        resolves("bytes=19-19", 19, 19);
        resolves("bytes=5-19", 5, 19);
        resolves("bytes=5-20", 5, 19);
        resolves("bytes=5-", 5, 19);
        resolves("bytes=19-", 19, 19);
        resolves("bytes=-1", 19, 19);
        resolves("bytes=-19", 1, 19);
        resolves("bytes=-20", 0, 19);
        resolves("bytes=-21", 0, 19);
        resolves("bytes=0-", 0, 19);
        resolves("bytes=3-4,20-,-0", 3, 4);
    }

    private static void droppedSpecs() {
        resolves("bytes=20-");
        resolves("bytes=20-30");
        resolves("bytes=-0");
        resolves("bytes=-0,20-20,21-,99-100");
        resolves("bytes=-0,1-2,20-,4-5", 1, 2, 4, 5);
    }

    private static void emptyRepresentation() {
        OriginDesk desk = Desk.withOne(0, false);
        Desk.due("0- of nothing", Desk.get(desk, Desk.RANGE, "bytes=0-"), 416);
        Desk.due("-1 of nothing", Desk.get(desk, Desk.RANGE, "bytes=-1"), 416);
        Desk.due("0-0 of nothing", Desk.get(desk, Desk.RANGE, "bytes=0-0"), 416);
        Desk.due("chosen of 416", desk.chosen(), 0);
        Desk.due("length of 416", desk.length(), 0);
        Desk.due("nothing", Desk.get(desk), 200);
        Desk.due("length of nothing", desk.length(), 0);
        Desk.due("body of nothing", desk.body(0), BAD);
    }

    private static void manySpecs() {
        resolves("bytes=0-0,2-2,4-4,6-6", 0, 0, 2, 2, 4, 4, 6, 6);
        resolves("bytes=,0-0,,2-2, ,4-4,6-6,", 0, 0, 2, 2, 4, 4, 6, 6);
        whole("bytes=0-0,2-2,4-4,6-6,8-8");
        whole("bytes=20-,21-,22-,23-,24-");
        whole("bytes=0-0,20-,21-,22-,23-");
        resolves("bytes=15-,0-2", 15, 19, 0, 2);
    }

    private static void overlaps() {
        whole("bytes=0-4,4-5");
        whole("bytes=4-5,0-4");
        whole("bytes=0-9,3-4");
        whole("bytes=3-4,0-9");
        whole("bytes=1-1,1-1");
        whole("bytes=0-1,5-6,-20");
        whole("bytes=0-0,2-2,4-4,0-0");
        whole("bytes=15-,-1");
        resolves("bytes=0-4,5-5", 0, 4, 5, 5);
        resolves("bytes=5-5,0-4", 5, 5, 0, 4);
        resolves("bytes=0-4,20-25,20-25", 0, 4);
    }

    private static void longNumbers() {
        resolves("bytes=0-999999999", 0, 19);
        resolves("bytes=0-1000000000", 0, 19);
        resolves("bytes=0-99999999999999999999999", 0, 19);
        resolves("bytes=-4294967297", 0, 19);
        resolves("bytes=4294967297-");
        resolves("bytes=4294967297-4294967296");
        resolves("bytes=1000000000-999999999");
        resolves("bytes=000000005-6", 5, 6);
        Desk.formed(Desk.RANGE, "bytes=1000000000-999999998", false);
        Desk.formed(Desk.RANGE, "bytes=0000000005-6", false);
        resolves("bytes=5-0000000006", 5, 19);
        resolves("bytes=-0000000000", 0, 19);
        OriginDesk desk = new OriginDesk(Desk.NOW);
        desk.add(0, 0, 100000, 1, false, 0);
        Desk.due("the last of many", Desk.get(desk, Desk.RANGE, "bytes=99999-"), 206);
        Desk.due("body of the last", desk.body(0), (7 * 99999 + 1) % 251);
        Desk.due("beyond the last", Desk.get(desk, Desk.RANGE, "bytes=100000-"), 416);
    }

    private static void ifRange() {
        OriginDesk strong = Desk.withOne(20, false);
        OriginDesk weak = Desk.withOne(20, true);
        guarded(strong, "\"v42\"", 206);
        guarded(weak, "\"v42\"", 200);
        guarded(strong, "W/\"v42\"", 200);
        guarded(weak, "W/\"v42\"", 200);
        guarded(strong, "\"v43\"", 200);
        guarded(strong, " \"v42\" ", 206);
        guarded(weak, "Sun, 06 Nov 1994 08:49:37 GMT", 206);
        guarded(strong, "Sunday, 06-Nov-94 08:49:37 GMT", 206);
        guarded(strong, "Sun Nov  6 08:49:37 1994", 206);
        guarded(strong, "Sun, 06 Nov 1994 08:49:36 GMT", 200);
        guarded(strong, "Sun, 06 Nov 1994 08:49:38 GMT", 200);
        guarded(strong, "*", 200);
        guarded(strong, " ", 200);
        guarded(strong, "\"v42\",", 200);
        guarded(strong, "v42", 200);
        guarded(strong, "", 206);
        Desk.due("no 416 when it fails", Desk.get(strong, Desk.IF_RANGE, "\"a\"", Desk.RANGE, "bytes=99-"), 200);
        Desk.due("416 when it holds", Desk.get(strong, Desk.IF_RANGE, "\"v42\"", Desk.RANGE, "bytes=99-"), 416);
        Desk.due("without RANGE", Desk.get(strong, Desk.IF_RANGE, "\"v42\""), 200);
    }

    private static void guarded(OriginDesk desk, String guard, int code) {
        Desk.due("IF-RANGE <" + guard + ">", Desk.get(desk, Desk.IF_RANGE, guard, Desk.RANGE, "bytes=1-2"), code);
    }

    private static void wholeBody() {
        String[] accept = {"text/html", "text/plain", "application/json", "image/png"};
        for (int n = 0; n < 4; n++) {
            OriginDesk desk = new OriginDesk(Desk.NOW);
            for (int type = 0; type < 4; type++) {
                desk.add(type, type, 300 + type, type, false, 0);
            }
            Desk.get(desk, Desk.ACCEPT, accept[n]);
            Desk.due("whole length", desk.length(), 300 + n);
            Desk.same("whole body", Desk.body(desk), Desk.bytes(n, 0, 299 + n));
            Desk.due("far body", desk.body(Integer.MAX_VALUE), BAD);
            Desk.due("far body before", desk.body(Integer.MIN_VALUE), BAD);
        }
    }

    private static void partBody() {
        OriginDesk desk = new OriginDesk(Desk.NOW);
        desk.add(0, 0, 10, 1, false, 0);
        desk.add(1, 0, 1000, 1, false, 0);
        Desk.get(desk, Desk.ACCEPT, "text/plain", Desk.RANGE, "bytes=100-499");
        Desk.due("part length", desk.length(), 400);
        Desk.same("part body", Desk.body(desk), Desk.bytes(1, 100, 499));
    }

    private static void manyPartsBody() {
        OriginDesk desk = new OriginDesk(Desk.NOW);
        desk.add(0, 0, 10, 1, false, 0);
        desk.add(1, 0, 12345, 1, false, 0);
        Desk.get(desk, Desk.ACCEPT, "text/plain", Desk.RANGE, "bytes=9999-10000, 0-9,-1, 99-100");
        String want = "--PART\r\nRange: 9999-10000/12345\r\n\r\n" + Desk.bytes(1, 9999, 10000) + "\r\n"
            + "--PART\r\nRange: 0-9/12345\r\n\r\n" + Desk.bytes(1, 0, 9) + "\r\n"
            + "--PART\r\nRange: 12344-12344/12345\r\n\r\n" + Desk.bytes(1, 12344, 12344) + "\r\n"
            + "--PART\r\nRange: 99-100/12345\r\n\r\n" + Desk.bytes(1, 99, 100) + "\r\n--PART--\r\n";
        Desk.due("length of many", desk.length(), want.length());
        Desk.same("body of many", Desk.body(desk), want);
        Desk.due("parts of many", desk.parts(), 4);
        Desk.due("first of no part", desk.first(4), BAD);
        Desk.due("last of no part", desk.last(4), BAD);
        Desk.due("first of part -1", desk.first(-1), BAD);
        Desk.due("last of part -1", desk.last(-1), BAD);
        Desk.due("first of a far part", desk.first(Integer.MAX_VALUE), BAD);
        Desk.due("last of a far part", desk.last(Integer.MIN_VALUE), BAD);
    }

    private static void head() {
        OriginDesk desk = Desk.withOne(20, false);
        String[] ranges = {"bytes=1-2", "bytes=1-2,4-5", "bytes=99-", ""};
        for (String range : ranges) {
            Desk.ask(desk, 1, Desk.RANGE, range);
            Desk.due("HEAD with <" + range + ">", desk.respond(), 200);
            Desk.due("length for HEAD", desk.length(), 20);
            Desk.due("body for HEAD", desk.body(0), BAD);
            Desk.due("parts for HEAD", desk.parts(), 0);
            Desk.due("first for HEAD", desk.first(0), BAD);
        }
        Desk.ask(desk, 1, Desk.NONE_MATCH, "*");
        Desk.due("HEAD unchanged", desk.respond(), 304);
        Desk.due("its length", desk.length(), 0);
    }

    /** Of a representation of 20 bytes: the firsts and lasts that are due, 416 when there are none. */
    private static void resolves(String range, int... edges) {
        OriginDesk desk = Desk.withOne(20, false);
        int parts = edges.length / 2;
        Desk.due("respond to <" + range + ">", Desk.get(desk, Desk.RANGE, range), parts == 0 ? 416 : 206);
        Desk.due("parts of <" + range + ">", desk.parts(), parts);
        for (int k = 0; k < parts; k++) {
            Desk.due("first(" + k + ") of <" + range + ">", desk.first(k), edges[2 * k]);
            Desk.due("last(" + k + ") of <" + range + ">", desk.last(k), edges[2 * k + 1]);
        }
        Desk.due("first behind the parts of <" + range + ">", desk.first(parts), BAD);
        Desk.due("last behind the parts of <" + range + ">", desk.last(parts), BAD);
        if (parts == 1) {
            Desk.same("body of <" + range + ">", Desk.body(desk), Desk.bytes(0, edges[0], edges[1]));
        }
    }

    private static void whole(String range) {
        OriginDesk desk = Desk.withOne(20, false);
        Desk.due("formed <" + range + ">", Desk.get(desk, Desk.RANGE, range), 200);
        Desk.due("formed still <" + range + ">", desk.formed(Desk.RANGE), true);
        Desk.due("no parts of <" + range + ">", desk.parts(), 0);
        Desk.due("no first of <" + range + ">", desk.first(0), BAD);
        Desk.due("no last of <" + range + ">", desk.last(0), BAD);
        Desk.due("length of <" + range + ">", desk.length(), 20);
        Desk.same("body of <" + range + ">", Desk.body(desk), Desk.bytes(0, 0, 19));
    }
}
