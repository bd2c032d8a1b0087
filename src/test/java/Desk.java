import java.nio.charset.StandardCharsets;

/**
 * What the tests share: feeding whole texts, and counting answers that are not due.
 * No test makes more than 512 calls on one object: what later calls answer is free.
 */
final class Desk {
    static final int ACCEPT = 0;
    static final int LANGUAGES = 1;
    static final int MATCH = 2;
    static final int NONE_MATCH = 3;
    static final int MODIFIED = 4;
    static final int UNMODIFIED = 5;
    static final int IF_RANGE = 6;
    static final int RANGE = 7;

    /** In November 2023. */
    static final int NOW = 1700000000;
    /** Sun, 06 Nov 1994 08:49:37 GMT. */
    static final long CHANGE = 784111777L;

    private static int wrong = 0;
    private static int checked = 0;

    private Desk() {
    }

    static void due(String what, long got, long want) {
        checked++;
        if (got != want) {
            wrong++;
            System.out.println(what + " answered " + got + ", due is " + want);
        }
    }

    static void due(String what, boolean got, boolean want) {
        due(what, got ? 1 : 0, want ? 1 : 0);
    }

    /** How many answers were not due so far. */
    static int wrong() {
        return wrong;
    }

    /** How many answers were looked at so far. */
    static int checked() {
        return checked;
    }

    /** Ends the test, with exit code 1 if an answer was not due. */
    static void end() {
        System.out.println(wrong == 0 ? checked + " answers are as due" : wrong + " of " + checked + " answers are not as due");
        if (wrong != 0) {
            System.exit(1);
        }
    }

    /** A desk with one representation: text/plain, French, tag v42. */
    static OriginDesk withOne(int length, boolean weak) {
        OriginDesk desk = new OriginDesk(NOW);
        desk.add(1, 4, length, 42, weak, CHANGE);
        return desk;
    }

    /** Feeds a text eight characters at a time; answers what the last feed answered. */
    static int feed(OriginDesk desk, int field, String text) {
        byte[] bytes = text.getBytes(StandardCharsets.ISO_8859_1);
        int answer = 0;
        for (int from = 0; from < bytes.length; from += 8) {
            answer = desk.feed(field, pack(bytes, from));
        }
        return answer;
    }

    static long pack(String text) {
        return pack(text.getBytes(StandardCharsets.ISO_8859_1), 0);
    }

    private static long pack(byte[] bytes, int from) {
        long packed = 0;
        for (int i = from; i < bytes.length && i < from + 8; i++) {
            packed |= (bytes[i] & 255L) << (8 * (i - from));
        }
        return packed;
    }

    /** A new request with fields in pairs of number and text. */
    static void ask(OriginDesk desk, int method, Object... fields) {
        desk.request(method);
        for (int i = 0; i + 1 < fields.length; i += 2) {
            feed(desk, (Integer) fields[i], (String) fields[i + 1]);
        }
    }

    /** The status of a new GET with these fields. */
    static int get(OriginDesk desk, Object... fields) {
        ask(desk, 0, fields);
        return desk.respond();
    }

    /** The whole body, and a check that nothing stands before and behind it. */
    static String body(OriginDesk desk) {
        StringBuilder text = new StringBuilder();
        long length = desk.length();
        for (int i = 0; i < length; i++) {
            text.append((char) desk.body(i));
        }
        due("body before its beginning", desk.body(-1), OriginDesk.BAD);
        due("body at its end", desk.body(text.length()), OriginDesk.BAD);
        return text.toString();
    }

    static void formed(int field, String text, boolean want) {
        OriginDesk desk = new OriginDesk(NOW);
        feed(desk, field, text);
        due("formed(" + field + ") of <" + text + ">", desk.formed(field), want);
    }

    /** The quality, in thousandths, of a type for the text of ACCEPT: a score without a language. */
    static void typeQuality(int type, String text, int want) {
        OriginDesk desk = new OriginDesk(NOW);
        desk.add(type, 5, 1, 1, false, 0);
        feed(desk, ACCEPT, text);
        due("score of type " + type + " for <" + text + ">", desk.score(0), 1000 * want);
    }

    /** The quality, in thousandths, of a language for the text of LANGUAGES: a score without ACCEPT. */
    static void languageQuality(int language, String text, int want) {
        OriginDesk desk = new OriginDesk(NOW);
        desk.add(0, language, 1, 1, false, 0);
        feed(desk, LANGUAGES, text);
        due("score of language " + language + " for <" + text + ">", desk.score(0), 1000 * want);
    }

    /** The bytes that a representation has from one place to another. */
    static String bytes(int number, int first, int last) {
        StringBuilder text = new StringBuilder();
        for (int i = first; i <= last; i++) {
            text.append((char) ((7 * i + 13 * number + 1) % 251));
        }
        return text.toString();
    }

    static void same(String what, String got, String want) {
        due(what + " as a whole", got.equals(want), true);
    }
}
