import java.io.ByteArrayOutputStream;
import java.nio.charset.StandardCharsets;
import java.time.DateTimeException;
import java.time.Instant;
import java.time.LocalDate;
import java.time.ZoneOffset;
import java.util.ArrayList;
import java.util.Arrays;
import java.util.List;
import java.util.Random;
import java.util.function.LongSupplier;
import java.util.regex.Matcher;
import java.util.regex.Pattern;

/** All promises at once: random calls, answered also by a second reading of the document, with regular expressions. */
public final class SecondReadingTest {
    private static final int BAD = OriginDesk.BAD;
    private static final int OBJECTS = 4000;
    private static final int MOST_CALLS = 512;

    public static void main(String[] args) {
        Random random = new Random(20261115);
        for (int i = 0; i < OBJECTS; i++) {
            new Life(random).run();
        }
        Desk.end();
    }

    /** One object, for as many calls as it is promised for. */
    private static final class Life {
        private final Random random;
        private final OriginDesk desk;
        private final Reading reading;
        private final Texts texts;
        private int calls = 0;

        Life(Random random) {
            int[] nows = {Desk.NOW, 0, -192522497, -1, random.nextInt()};
            int now = nows[random.nextInt(nows.length)];
            this.random = random;
            desk = new OriginDesk(now);
            reading = new Reading(now);
            texts = new Texts(random);
        }

        void run() {
            boolean goesOn = true;
            while (goesOn) {
                goesOn = oneRequest();
            }
        }

        /** Whether there is one more call. */
        private boolean call() {
            calls++;
            return calls <= MOST_CALLS;
        }

        private void check(String what, LongSupplier got, LongSupplier want) {
            if (call()) {
                Desk.due(what + " of " + reading, got.getAsLong(), want.getAsLong());
            }
        }

        private boolean oneRequest() {
            changeShelf();
            int method = random.nextInt(12) == 0 ? random.nextInt(5) - 1 : random.nextInt(4) / 3;
            if (call()) {
                desk.request(method);
                reading.request(method);
            }
            for (int field = 0; field < 8; field++) {
                if (random.nextInt(field == 7 ? 2 : field < 2 ? 3 : 6) == 0) {
                    feed(field, texts.of(field));
                }
            }
            compareRequest();
            check("respond", desk::respond, reading::respond);
            if (random.nextInt(6) == 0) {
                changeShelf();
            }
            compareResponse();
            return calls <= MOST_CALLS;
        }

        private void changeShelf() {
            if (random.nextInt(8) == 0 && call()) {
                desk.clear();
                reading.shelf.clear();
            }
            for (int i = 1 + random.nextInt(3); i > 0; i--) {
                int[] lengths = {0, 1, 5, 12, 120, 1000, 100000, 100001, -1};
                long[] changes = {Desk.CHANGE, Desk.CHANGE, Desk.CHANGE, 0, 4102444799L, 4102444800L};
                int type = random.nextInt(20) == 0 ? 6 : random.nextInt(6);
                int language = random.nextInt(20) == 0 ? -1 : random.nextInt(6);
                int length = lengths[random.nextInt(lengths.length)];
                int tag = random.nextInt(20) == 0 ? 10000 : random.nextInt(3) * 10;
                boolean weak = random.nextInt(3) == 0;
                long change = changes[random.nextInt(changes.length)];
                check("add", () -> desk.add(type, language, length, tag, weak, change), () -> reading.add(type, language, length, tag, weak, change));
            }
        }

        private void feed(int field, String text) {
            for (int from = 0; from < text.length();) {
                int many = Math.min(1 + random.nextInt(8), text.length() - from);
                String piece = text.substring(from, from + many);
                check("feed <" + piece + ">", () -> desk.feed(field, Desk.pack(piece)), () -> reading.feed(field, piece));
                from += many;
            }
        }

        private void compareRequest() {
            for (int i = -1; i <= 8; i++) {
                int field = i;
                check("formed(" + field + ")", () -> desk.formed(field) ? 1 : 0, () -> reading.formed(field) ? 1 : 0);
            }
            for (int i = 3; i <= 7; i++) {
                int field = i;
                check("date(" + field + ")", () -> desk.date(field), () -> reading.date(field));
            }
            for (int i = -1; i <= 4; i++) {
                int n = i;
                check("score(" + n + ")", () -> desk.score(n), () -> reading.score(n));
            }
        }

        private void compareResponse() {
            check("status", desk::status, () -> reading.status);
            check("chosen", desk::chosen, () -> reading.chosen);
            check("length", desk::length, () -> reading.length);
            check("parts", desk::parts, () -> reading.parts.size());
            for (int i = -1; i <= reading.parts.size(); i++) {
                int k = i;
                check("first(" + k + ")", () -> desk.first(k), () -> reading.edge(k, 0));
                check("last(" + k + ")", () -> desk.last(k), () -> reading.edge(k, 1));
            }
            int all = reading.body.length;
            for (int i : new int[] {-1, 0, all - 11, all - 10, all - 1, all}) {
                compareByte(i);
            }
            for (int turn = 0; turn < 30 && all > 0; turn++) {
                compareByte(random.nextInt(all));
            }
        }

        private void compareByte(int i) {
            check("body(" + i + ")", () -> desk.body(i), () -> reading.byteAt(i));
        }
    }

    /** Texts that are mostly well formed, and often spoilt in one place. */
    private static final class Texts {
        private static final String SPOILERS = " \t,;=\"\\*/-q0W.\u007f\u00e4A";
        private final Random random;

        Texts(Random random) {
            this.random = random;
        }

        String of(int field) {
            String text = gap() + plain(field) + gap();
            if (random.nextInt(8) == 0 && !text.isEmpty()) {
                int at = random.nextInt(text.length());
                String spoiler = String.valueOf(SPOILERS.charAt(random.nextInt(SPOILERS.length())));
                int keep = random.nextInt(2);
                text = text.substring(0, at) + (random.nextInt(3) == 0 ? "" : spoiler) + text.substring(at + keep);
            }
            return text;
        }

        private String plain(int field) {
            switch (field) {
                case 0:
                    return list(1 + random.nextInt(4), 0);
                case 1:
                    return list(1 + random.nextInt(4), 1);
                case 2:
                case 3:
                    return random.nextInt(5) == 0 ? "*" : list(1 + random.nextInt(4), 2);
                case 6:
                    return random.nextInt(2) == 0 ? element(2) : date();
                case 7:
                    return pick("bytes=", "bytes=", "BYTES=", "bytes =") + list(1 + random.nextInt(5), 7);
                default:
                    return date();
            }
        }

        private String list(int many, int kind) {
            StringBuilder text = new StringBuilder();
            for (int i = 0; i < many; i++) {
                text.append(i == 0 ? "" : ",").append(random.nextInt(12) == 0 ? "," : "").append(gap()).append(element(kind)).append(gap());
            }
            return text.append(random.nextInt(12) == 0 ? "," : "").toString();
        }

        private String element(int kind) {
            switch (kind) {
                case 0:
                    return pick("text/html", "text/plain", "application/json", "image/png", "image/svg+xml", "text/*", "image/*", "*/*", "TEXT/Html", "*/html", "a/b")
                        + parameters() + weight();
                case 1:
                    return pick("en", "en-us", "de", "de-AT", "FR", "*", "en-us-x", "e", "abcdefghi", "a-12345678") + weight();
                case 2:
                    return pick("", "", "W/") + "\"" + pick("v0", "v10", "v20", "", "a,b", "v1", "v00", "v 0") + "\"";
                default:
                    return spec();
            }
        }

        private String parameters() {
            StringBuilder text = new StringBuilder();
            while (random.nextInt(3) == 0) {
                text.append(gap()).append(';').append(gap());
                text.append(pick("level", "level", "LEVEL", "charset", "qq")).append('=');
                text.append(pick("1", "1", "\"1\"", "\"\\1\"", "2", "\"a,\\\"b\"", "\"\""));
            }
            return text.toString();
        }

        private String weight() {
            if (random.nextInt(2) == 0) {
                return "";
            }
            String number = pick("0", "1", "0.", "1.", "0.5", "0.25", "0.125", "1.000", "0.9", "0.8", "1.1", "0.1234", "2");
            return gap() + ";" + gap() + pick("q=", "q=", "Q=") + number;
        }

        private String spec() {
            int first = random.nextInt(24);
            switch (random.nextInt(6)) {
                case 0:
                    return "-" + random.nextInt(8);
                case 1:
                    return first + "-";
                case 2:
                    return pick("1000000000", "999999999", "0000000004", "000000004", "99999") + "-" + pick("", "9999999999", "999999999", "99999");
                default:
                    return first + "-" + (first + random.nextInt(6) - (random.nextInt(15) == 0 ? 3 : 0));
            }
        }

        private String date() {
            String day = pick("Sunday", "Monday", "Tuesday", "Wednesday", "Thursday", "Friday", "Saturday");
            if (random.nextInt(2) == 0) {
                return pick("Sun, 06 Nov 1994 08:49:37 GMT", day + ", 06-Nov-94 08:49:37 GMT", "Sun Nov  6 08:49:37 1994",
                    "Sun, 06 Nov 1994 08:49:36 GMT", "Sun Nov  6 08:49:38 1994");
            }
            String month = pick("Jan", "Feb", "Mar", "Apr", "May", "Jun", "Jul", "Aug", "Sep", "Oct", "Nov", "Dec", "Feb");
            int number = random.nextInt(12) == 0 ? random.nextInt(33) : 1 + random.nextInt(30);
            String clock = String.format("%02d:%02d:%02d", random.nextInt(25), random.nextInt(61), random.nextInt(61));
            int year = 1968 + random.nextInt(134);
            switch (random.nextInt(3)) {
                case 0:
                    return String.format("%s, %02d %s %d %s GMT", day.substring(0, 3), number, month, year, clock);
                case 1:
                    return String.format("%s, %02d-%s-%02d %s GMT", day, number, month, year % 100, clock);
                default:
                    return String.format("%s %s %2d %s %d", day.substring(0, 3), month, number, clock, year);
            }
        }

        private String gap() {
            return pick("", "", "", "", " ", "\t", "  ");
        }

        private String pick(String... texts) {
            return texts[random.nextInt(texts.length)];
        }
    }

    /** The second reading: as near to the document's words as regular expressions and lists come. */
    private static final class Reading {
        private static final String GAP = "[ \\t]*+";
        private static final String TOKEN = "[A-Za-z0-9!#$%&'*+\\-.^_|~`]++";
        private static final String NAME = "[A-Za-z0-9!#$%&'+\\-.^_|~`]++";
        private static final String QUOTED = "\"(?:[\\t\\x20\\x21\\x23-\\x5B\\x5D-\\x7E\\x80-\\xFF]|\\\\[\\t\\x20-\\x7E\\x80-\\xFF])*+\"";
        private static final String WEIGHT = "(?:" + GAP + ";" + GAP + "[qQ]=(?<q>0(?:\\.[0-9]{0,3}+)?+|1(?:\\.0{0,3}+)?+))?";
        private static final String PARAMETER = GAP + ";" + GAP + "(?![qQ]=)(" + TOKEN + ")=(" + TOKEN + "|" + QUOTED + ")";
        private static final Pattern RANGE_OF_TYPES = Pattern.compile(
            "(?<main>\\*(?=/\\*)|" + NAME + ")/(?<sub>\\*|" + NAME + ")(?<parameters>(?:" + PARAMETER + ")*)" + WEIGHT);
        private static final Pattern EACH_PARAMETER = Pattern.compile(PARAMETER);
        private static final Pattern RANGE_OF_LANGUAGES = Pattern.compile(
            "(?<range>\\*|[A-Za-z]{1,8}+(?:-[A-Za-z0-9]{1,8}+)*+)" + WEIGHT);
        private static final Pattern TAG = Pattern.compile("(?<weak>W/)?\"(?<characters>[\\x21\\x23-\\x7E\\x80-\\xFF]*+)\"");
        private static final Pattern SPEC = Pattern.compile("(?<from>[0-9]*+)-(?<to>[0-9]*+)");
        private static final String DAY = "(?:Sun|Mon|Tue|Wed|Thu|Fri|Sat)";
        private static final String LONG_DAY = "(?:Sunday|Monday|Tuesday|Wednesday|Thursday|Friday|Saturday)";
        private static final String MONTH = "(?<month>Jan|Feb|Mar|Apr|May|Jun|Jul|Aug|Sep|Oct|Nov|Dec)";
        private static final String CLOCK = "(?<hour>[0-9]{2}):(?<minute>[0-9]{2}):(?<second>[0-9]{2})";
        private static final Pattern[] DATES = {
            Pattern.compile(DAY + ", (?<day>[0-9]{2}) " + MONTH + " (?<year>[0-9]{4}) " + CLOCK + " GMT"),
            Pattern.compile(LONG_DAY + ", (?<day>[0-9]{2})-" + MONTH + "-(?<year>[0-9]{2}) " + CLOCK + " GMT"),
            Pattern.compile(DAY + " " + MONTH + " (?<day> [1-9]|[1-9][0-9]) " + CLOCK + " (?<year>[0-9]{4})"),
        };
        private static final List<String> MONTHS =
            Arrays.asList("Jan", "Feb", "Mar", "Apr", "May", "Jun", "Jul", "Aug", "Sep", "Oct", "Nov", "Dec");
        private static final String[] TYPES =
            {"text/html", "text/plain", "application/json", "image/png", "text/html", "image/svg+xml"};
        private static final String[] LANGUAGES = {"en", "en-us", "de", "de-at", "fr"};

        final List<Object[]> shelf = new ArrayList<>();
        private final int nowYear;
        private int method = 0;
        private final String[] texts = new String[8];
        int status = BAD;
        int chosen = BAD;
        long length = 0;
        List<int[]> parts = new ArrayList<>();
        byte[] body = new byte[0];

        Reading(int now) {
            long seconds = Integer.toUnsignedLong(now);
            nowYear = Instant.ofEpochSecond(seconds > 4102444799L ? 0 : seconds).atZone(ZoneOffset.UTC).getYear();
            Arrays.fill(texts, "");
        }

        @Override
        public String toString() {
            return "method " + method + " " + Arrays.toString(texts);
        }

        int add(int type, int language, int size, int tag, boolean weak, long change) {
            boolean fits = type >= 0 && type <= 5 && language >= 0 && language <= 5 && size >= 0 && size <= 100000;
            if (!fits || tag < 0 || tag > 9999 || change < 0 || change > 4102444799L || shelf.size() == 4) {
                return BAD;
            }
            shelf.add(new Object[] {type, language, size, "v" + tag, weak, change});
            return shelf.size() - 1;
        }

        void request(int newMethod) {
            method = newMethod;
            Arrays.fill(texts, "");
        }

        int feed(int field, String piece) {
            if (texts[field].length() + piece.length() > 96) {
                return BAD;
            }
            texts[field] += piece;
            return texts[field].length();
        }

        boolean formed(int field) {
            switch (field) {
                case 0:
                    return elements(texts[0], RANGE_OF_TYPES) != null;
                case 1:
                    return elements(texts[1], RANGE_OF_LANGUAGES) != null;
                case 2:
                case 3:
                    return bare(field).equals("*") || elements(texts[field], TAG) != null;
                case 4:
                case 5:
                    return date(field) != BAD;
                case 6:
                    return TAG.matcher(bare(6)).matches() || date(6) != BAD;
                case 7:
                    return specs() != null;
                default:
                    return false;
            }
        }

        private String bare(int field) {
            return texts[field].replaceAll("^[ \\t]+", "").replaceAll("[ \\t]+$", "");
        }

        /** The elements of a list; null when it is not well formed. */
        private static List<Matcher> elements(String text, Pattern element) {
            List<Matcher> found = new ArrayList<>();
            Pattern gap = Pattern.compile(GAP);
            int at = 0;
            while (true) {
                Matcher before = gap.matcher(text).region(at, text.length());
                before.lookingAt();
                at = before.end();
                Matcher next = element.matcher(text).region(at, text.length());
                if (next.lookingAt()) {
                    found.add(next);
                    Matcher behind = gap.matcher(text).region(next.end(), text.length());
                    behind.lookingAt();
                    at = behind.end();
                }
                if (at == text.length()) {
                    return found.isEmpty() ? null : found;
                }
                if (text.charAt(at) != ',') {
                    return null;
                }
                at++;
            }
        }

        private static int weight(Matcher element) {
            String number = element.group("q");
            return number == null ? 1000 : (int) Math.round(1000 * Double.parseDouble(number));
        }

        private int typeQuality(int type) {
            List<Matcher> ranges = elements(texts[0], RANGE_OF_TYPES);
            if (ranges == null) {
                return 1000;
            }
            int most = -1;
            int quality = 0;
            for (Matcher range : ranges) {
                String[] names = TYPES[type].split("/");
                String main = range.group("main");
                String sub = range.group("sub");
                boolean fits = (main.equals("*") || main.equalsIgnoreCase(names[0])) && (sub.equals("*") || sub.equalsIgnoreCase(names[1]));
                int told = main.equals("*") ? 0 : sub.equals("*") ? 1 : 2;
                Matcher parameter = EACH_PARAMETER.matcher(range.group("parameters"));
                while (parameter.find()) {
                    String value = parameter.group(2);
                    if (value.startsWith("\"")) {
                        value = value.substring(1, value.length() - 1).replaceAll("\\\\(.)", "$1");
                    }
                    fits = fits && type == 4 && parameter.group(1).equalsIgnoreCase("level") && value.equals("1");
                    told++;
                }
                if (fits && told > most) {
                    most = told;
                    quality = weight(range);
                }
            }
            return quality;
        }

        private int languageQuality(int language) {
            List<Matcher> ranges = elements(texts[1], RANGE_OF_LANGUAGES);
            if (ranges == null || language == 5) {
                return 1000;
            }
            Matcher best = null;
            for (Matcher range : ranges) {
                String name = range.group("range").toLowerCase();
                boolean fits = LANGUAGES[language].equals(name) || LANGUAGES[language].startsWith(name + "-");
                if (fits && (best == null || name.length() > best.group("range").length())) {
                    best = range;
                }
            }
            for (Matcher range : ranges) {
                best = best == null && range.group("range").equals("*") ? range : best;
            }
            return best == null ? 0 : weight(best);
        }

        int score(int n) {
            if (n < 0 || n >= shelf.size()) {
                return BAD;
            }
            return typeQuality((Integer) shelf.get(n)[0]) * languageQuality((Integer) shelf.get(n)[1]);
        }

        long date(int field) {
            if (field < 4 || field > 6) {
                return BAD;
            }
            for (Pattern form : DATES) {
                Matcher date = form.matcher(bare(field));
                if (date.matches()) {
                    return time(date, year(date.group("year")));
                }
            }
            return BAD;
        }

        private int year(String digits) {
            int found = BAD;
            for (int year = 1970; year <= 2099; year++) {
                boolean fits = digits.length() == 4 ? year == Integer.parseInt(digits)
                    : year % 100 == Integer.parseInt(digits) && year <= nowYear + 50;
                found = fits ? year : found;
            }
            return found;
        }

        private static long time(Matcher date, int year) {
            if (year == BAD) {
                return BAD;
            }
            try {
                LocalDate day = LocalDate.of(year, MONTHS.indexOf(date.group("month")) + 1, Integer.parseInt(date.group("day").trim()));
                int hour = Integer.parseInt(date.group("hour"));
                return day.atTime(hour, Integer.parseInt(date.group("minute")), Integer.parseInt(date.group("second"))).toEpochSecond(ZoneOffset.UTC);
            } catch (DateTimeException notInCalendar) {
                return BAD;
            }
        }

        private static long number(String digits) {
            return digits.length() > 9 ? 999999999 : Long.parseLong(digits);
        }

        private List<Matcher> specs() {
            Matcher bytes = Pattern.compile(GAP + "(?i:bytes)=(?<list>.*)", Pattern.DOTALL).matcher(texts[7]);
            List<Matcher> specs = bytes.matches() ? elements(bytes.group("list"), SPEC) : null;
            if (specs != null) {
                for (Matcher spec : specs) {
                    String from = spec.group("from");
                    String to = spec.group("to");
                    boolean fits = from.isEmpty() ? !to.isEmpty() : to.isEmpty() || number(to) >= number(from);
                    if (!fits) {
                        return null;
                    }
                }
            }
            return specs;
        }

        int edge(int k, int side) {
            return k >= 0 && k < parts.size() ? parts.get(k)[side] : BAD;
        }

        int byteAt(int i) {
            return i >= 0 && i < body.length ? body[i] & 255 : BAD;
        }

        int respond() {
            chosen = BAD;
            parts = new ArrayList<>();
            status = decide();
            ByteArrayOutputStream bytes = new ByteArrayOutputStream();
            if (status == 200) {
                writeBytes(bytes, 0, (Integer) shelf.get(chosen)[2] - 1);
            } else if (status == 206 && parts.size() == 1) {
                writeBytes(bytes, parts.get(0)[0], parts.get(0)[1]);
            } else if (status == 206) {
                for (int[] part : parts) {
                    writeText(bytes, "--PART\r\nRange: " + part[0] + "-" + part[1] + "/" + shelf.get(chosen)[2] + "\r\n\r\n");
                    writeBytes(bytes, part[0], part[1]);
                    writeText(bytes, "\r\n");
                }
                writeText(bytes, "--PART--\r\n");
            }
            length = bytes.size();
            body = method == 1 ? new byte[0] : bytes.toByteArray();
            return status;
        }

        private void writeBytes(ByteArrayOutputStream bytes, int first, int last) {
            for (int i = first; i <= last; i++) {
                bytes.write((7 * i + 13 * chosen + 1) % 251);
            }
        }

        private static void writeText(ByteArrayOutputStream bytes, String text) {
            byte[] characters = text.getBytes(StandardCharsets.ISO_8859_1);
            bytes.write(characters, 0, characters.length);
        }

        private int decide() {
            if (method < 0 || method > 2) {
                return 501;
            }
            if (shelf.isEmpty()) {
                return 404;
            }
            if (method == 2) {
                return 204;
            }
            int best = 0;
            for (int n = 0; n < shelf.size(); n++) {
                if (score(n) > best) {
                    best = score(n);
                    chosen = n;
                }
            }
            if (chosen == BAD) {
                return 406;
            }
            long change = (Long) shelf.get(chosen)[5];
            boolean match = !texts[2].isEmpty();
            boolean noneMatch = !texts[3].isEmpty();
            if (match && !(bare(2).equals("*") || hasTag(2, true))) {
                return 412;
            }
            if (!match && date(5) != BAD && date(5) < change) {
                return 412;
            }
            if (noneMatch && (bare(3).equals("*") || hasTag(3, false))) {
                return 304;
            }
            if (!noneMatch && date(4) != BAD && date(4) >= change) {
                return 304;
            }
            boolean ifRange = texts[6].isEmpty() || date(6) == change
                || (TAG.matcher(bare(6)).matches() && hasTag(6, true));
            return method == 0 && ifRange && specs() != null ? decideRange() : 200;
        }

        private boolean hasTag(int field, boolean strongly) {
            List<Matcher> tags = elements(texts[field], TAG);
            boolean found = false;
            if (tags != null) {
                for (Matcher tag : tags) {
                    boolean weak = tag.group("weak") != null || (Boolean) shelf.get(chosen)[4];
                    found = found || (tag.group("characters").equals(shelf.get(chosen)[3]) && !(strongly && weak));
                }
            }
            return found;
        }

        private int decideRange() {
            int size = (Integer) shelf.get(chosen)[2];
            List<int[]> left = new ArrayList<>();
            int[] uses = new int[size];
            boolean common = false;
            List<Matcher> specs = specs();
            for (Matcher spec : specs) {
                String from = spec.group("from");
                String to = spec.group("to");
                long first = from.isEmpty() ? Math.max(0, size - number(to)) : number(from);
                long last = from.isEmpty() || to.isEmpty() ? size - 1 : Math.min(number(to), size - 1);
                if (first > last) {
                    continue;
                }
                left.add(new int[] {(int) first, (int) last});
                for (long i = first; i <= last; i++) {
                    uses[(int) i]++;
                    common = common || uses[(int) i] > 1;
                }
            }
            if (specs.size() > 4 || common) {
                return 200;
            }
            parts = left;
            return left.isEmpty() ? 416 : 206;
        }
    }
}
