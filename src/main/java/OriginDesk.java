/**
 * The deciding part of a server of one resource that has up to four representations.
 * The promises that the comments name by number are those of the project's document.
 */
public final class OriginDesk {
    public static final int BAD = -1;

    private static final int GET = 0;
    private static final int HEAD = 1;
    private static final int OPTIONS = 2;

    private static final int ACCEPT = 0;
    private static final int LANGUAGES = 1;
    private static final int MATCH = 2;
    private static final int NONE_MATCH = 3;
    private static final int MODIFIED = 4;
    private static final int UNMODIFIED = 5;
    private static final int IF_RANGE = 6;
    private static final int RANGE = 7;
    private static final int FIELDS = 8;

    private static final int OK = 200;
    private static final int NO_CONTENT = 204;
    private static final int PARTIAL = 206;
    private static final int UNCHANGED = 304;
    private static final int NOT_FOUND = 404;
    private static final int NOT_ACCEPTABLE = 406;
    private static final int CONDITION_FAILED = 412;
    private static final int NO_SUCH_RANGE = 416;
    private static final int UNKNOWN_METHOD = 501;

    private static final int MOST_CHARACTERS = 96;
    private static final int MOST_REPRESENTATIONS = 4;
    private static final int MOST_SPECS = 4;
    private static final int MOST_LENGTH = 100000;
    private static final int MOST_TAG = 9999;
    private static final long LAST_SECOND = 4102444799L;
    private static final int FULL_WEIGHT = 1000;

    private static final MediaType[] TYPES = MediaType.values();
    private static final Language[] TONGUES = Language.values();

    private final Representation[] shelf = new Representation[MOST_REPRESENTATIONS];
    private int count;
    private final Request asked = new Request();
    private final Accept accept = new Accept();
    private final Languages languages = new Languages();
    private final Tags tags = new Tags();
    private final Dates dates;
    private final Ranges ranges = new Ranges();
    private final Response response = new Response();

    /** Promise 1. */
    public OriginDesk(int now) {
        long seconds = now & 0xFFFFFFFFL;
        dates = new Dates(seconds > LAST_SECOND ? 0 : seconds);
    }

    /** Promise 2. */
    public int add(int type, int language, int length, int tag, boolean weak, long change) {
        boolean known = isWithin(type, TYPES.length - 1) && isWithin(language, TONGUES.length - 1);
        boolean bounded = isWithin(length, MOST_LENGTH) && isWithin(tag, MOST_TAG) && isWithin(change, LAST_SECOND);
        if (!known || !bounded || count >= MOST_REPRESENTATIONS) {
            return BAD;
        }
        int number = count;
        shelf[number] = new Representation(number, TYPES[type], TONGUES[language], length, tag, weak, change);
        count++;
        return number;
    }

    /** Promise 3. */
    public void clear() {
        count = 0;
    }

    /** Promise 4. */
    public void request(int method) {
        asked.restart(method);
    }

    /** Promise 5. */
    public int feed(int field, long characters) {
        return asked.append(field, characters);
    }

    /** Promise 6. */
    public int respond() {
        Representation best = null;
        int code = codeWithoutChoice();
        if (code == OK) {
            best = choose();
            code = best == null ? NOT_ACCEPTABLE : codeFor(best);
        }
        response.settle(code, best, asked.method == HEAD, ranges);
        return code;
    }

    /** Promise 7. */
    public int status() {
        return response.code;
    }

    /** Promise 8. */
    public int chosen() {
        return response.subject == null ? BAD : response.subject.number;
    }

    /** Promise 9. */
    public long length() {
        return response.bodySize;
    }

    /** Promise 10. */
    public int body(int i) {
        return response.byteAt(i);
    }

    /** Promise 11. */
    public int parts() {
        return response.partCount;
    }

    /** Promise 12. */
    public int first(int k) {
        return response.hasPart(k) ? response.firsts[k] : BAD;
    }

    /** Promise 13. */
    public int last(int k) {
        return response.hasPart(k) ? response.lasts[k] : BAD;
    }

    /** Promise 14. */
    public int score(int n) {
        if (n < 0 || n >= count || shelf[n] == null) {
            return BAD;
        }
        return scoreOf(shelf[n]);
    }

    /** Promise 15. */
    public boolean formed(int field) {
        switch (field) {
            case ACCEPT:
                return accept.read(asked, MediaType.HTML);
            case LANGUAGES:
                return languages.read(asked, Language.EN);
            case MATCH:
            case NONE_MATCH:
                return tags.readList(asked, field, "");
            case MODIFIED:
            case UNMODIFIED:
                return dates.timeOf(asked, field) != BAD;
            case IF_RANGE:
                return tags.readOne(asked, field, "") || dates.timeOf(asked, field) != BAD;
            case RANGE:
                return ranges.read(asked, 0);
            default:
                return false;
        }
    }

    /** Promise 16. */
    public long date(int field) {
        return field >= MODIFIED && field <= IF_RANGE ? dates.timeOf(asked, field) : BAD;
    }

    private static boolean isWithin(long number, long most) {
        return number >= 0 && number <= most;
    }

    /** OK stands for "a representation has to be chosen first". */
    private int codeWithoutChoice() {
        if (asked.method != GET && asked.method != HEAD && asked.method != OPTIONS) {
            return UNKNOWN_METHOD;
        }
        if (count == 0) {
            return NOT_FOUND;
        }
        return asked.method == OPTIONS ? NO_CONTENT : OK;
    }

    private Representation choose() {
        Representation best = null;
        int bestScore = 0;
        for (int n = 0; n < count; n++) {
            Representation candidate = shelf[n];
            int points = candidate == null ? 0 : scoreOf(candidate);
            if (points > bestScore) {
                best = candidate;
                bestScore = points;
            }
        }
        return best;
    }

    private int scoreOf(Representation candidate) {
        int typeQuality = accept.read(asked, candidate.type) ? accept.quality : FULL_WEIGHT;
        boolean choosy = candidate.language != Language.NONE && languages.read(asked, candidate.language);
        return typeQuality * (choosy ? languages.quality : FULL_WEIGHT);
    }

    private int codeFor(Representation best) {
        if (isRefused(best)) {
            return CONDITION_FAILED;
        }
        if (isUnchanged(best)) {
            return UNCHANGED;
        }
        if (asked.method != GET || !ranges.read(asked, best.size) || !isRangeWanted(best)) {
            return OK;
        }
        if (ranges.specs > MOST_SPECS || ranges.overlap()) {
            return OK;
        }
        return ranges.kept == 0 ? NO_SUCH_RANGE : PARTIAL;
    }

    private boolean isRefused(Representation best) {
        if (asked.has(MATCH)) {
            boolean read = tags.readList(asked, MATCH, best.tagText);
            return !read || !(tags.star || (tags.strong && !best.weak));
        }
        long time = dates.timeOf(asked, UNMODIFIED);
        return time != BAD && time < best.change;
    }

    private boolean isUnchanged(Representation best) {
        if (asked.has(NONE_MATCH)) {
            return tags.readList(asked, NONE_MATCH, best.tagText) && (tags.star || tags.same);
        }
        long time = dates.timeOf(asked, MODIFIED);
        return time != BAD && time >= best.change;
    }

    private boolean isRangeWanted(Representation best) {
        if (!asked.has(IF_RANGE)) {
            return true;
        }
        if (tags.readOne(asked, IF_RANGE, best.tagText)) {
            return tags.strong && !best.weak;
        }
        // No time of change is BAD, so a text that is no date never fits.
        return dates.timeOf(asked, IF_RANGE) == best.change;
    }

    /** The media types, in the order of their numbers; at most one parameter each. */
    private enum MediaType {
        HTML("text", "html", "", ""),
        PLAIN("text", "plain", "", ""),
        JSON("application", "json", "", ""),
        PNG("image", "png", "", ""),
        HTML_LEVEL("text", "html", "level", "1"),
        SVG("image", "svg+xml", "", "");

        final String main;
        final String sub;
        final String parameter;
        final String value;

        MediaType(String main, String sub, String parameter, String value) {
            this.main = main;
            this.sub = sub;
            this.parameter = parameter;
            this.value = value;
        }
    }

    /** The languages, in the order of their numbers, each with what stands before its -, if it has one. */
    private enum Language {
        EN("en", ""),
        EN_US("en-us", "en"),
        DE("de", ""),
        DE_AT("de-at", "de"),
        FR("fr", ""),
        NONE("", "");

        final String code;
        final String beginning;

        Language(String code, String beginning) {
            this.code = code;
            this.beginning = beginning;
        }
    }

    /** Never changed once made, so a response may go on using one that clear() took away. */
    private static final class Representation {
        final int number;
        final MediaType type;
        final Language language;
        final int size;
        final String tagText;
        final boolean weak;
        final long change;

        Representation(int number, MediaType type, Language language, int size, int tag, boolean weak, long change) {
            this.number = number;
            this.type = type;
            this.language = language;
            this.size = size;
            this.tagText = new StringBuilder().append('v').append(tag).toString();
            this.weak = weak;
            this.change = change;
        }

        int byteAt(int i) {
            return (7 * i + 13 * number + 1) % 251;
        }
    }

    /** The request as it was fed so far. */
    private static final class Request {
        int method = GET;
        private final int[][] texts = new int[FIELDS][MOST_CHARACTERS];
        private final int[] sizes = new int[FIELDS];

        void restart(int newMethod) {
            method = newMethod;
            for (int field = 0; field < FIELDS; field++) {
                sizes[field] = 0;
            }
        }

        boolean has(int field) {
            return field >= 0 && field < FIELDS && sizes[field] > 0;
        }

        int append(int field, long characters) {
            if (field < 0 || field >= FIELDS) {
                return BAD;
            }
            int more = countOf(characters);
            int size = sizes[field];
            if (size + more > MOST_CHARACTERS) {
                return BAD;
            }
            for (int i = 0; i < more; i++) {
                texts[field][size + i] = characterOf(characters, i);
            }
            sizes[field] = size + more;
            return size + more;
        }

        private static int countOf(long characters) {
            int many = 0;
            while (many < 8 && characterOf(characters, many) != 0) {
                many++;
            }
            return many;
        }

        private static int characterOf(long characters, int place) {
            return (int) (characters >>> (8 * place)) & 255;
        }
    }

    /** Goes through a field's text; what a token, quoted text, tag or language says is kept in a row of its own. */
    private abstract static class Reader {
        private static final String TOKEN_CHARACTERS =
            "abcdefghijklmnopqrstuvwxyzABCDEFGHIJKLMNOPQRSTUVWXYZ0123456789!#$%&'*+-.^_|~`";
        private static final int GREATEST_NUMBER = 999999999;
        private static final int MOST_DIGITS = 9;
        private static final int MOST_SUBTAG = 8;

        private int[] row = new int[0];
        private int size;
        private int at;
        private final int[] said = new int[MOST_CHARACTERS];
        private int saidSize;

        final void open(Request request, int field) {
            at = 0;
            size = 0;
            if (request.has(field)) {
                row = request.texts[field];
                size = request.sizes[field];
            }
        }

        final boolean isEnded() {
            return at >= size;
        }

        final boolean isNext(char wanted) {
            return at < size && row[at] == wanted;
        }

        final boolean take(char wanted) {
            if (at >= size || row[at] != wanted) {
                return false;
            }
            at++;
            return true;
        }

        final void skipGap() {
            while (at < size && (row[at] == ' ' || row[at] == '\t')) {
                at++;
            }
        }

        /** Passes the empty elements of a list; answers whether another one begins. */
        final boolean findElement() {
            while (at < size && (row[at] == ' ' || row[at] == '\t' || row[at] == ',')) {
                at++;
            }
            return at < size;
        }

        final boolean endsElement() {
            skipGap();
            return at >= size || row[at] == ',';
        }

        final boolean takeSemicolon() {
            skipGap();
            if (!take(';')) {
                return false;
            }
            skipGap();
            return true;
        }

        final boolean takeText(String wanted) {
            for (int i = 0; i < wanted.length(); i++) {
                if (!take(wanted.charAt(i))) {
                    return false;
                }
            }
            return true;
        }

        final boolean takeAlike(String wanted) {
            for (int i = 0; i < wanted.length(); i++) {
                if (at >= size || lower(row[at]) != lower(wanted.charAt(i))) {
                    return false;
                }
                at++;
            }
            return true;
        }

        final boolean takeToken() {
            saidSize = 0;
            while (at < size && TOKEN_CHARACTERS.indexOf((char) row[at]) >= 0) {
                say(row[at]);
                at++;
            }
            return saidSize > 0;
        }

        final boolean takeQuotedText() {
            saidSize = 0;
            if (!take('"')) {
                return false;
            }
            while (at < size && row[at] != '"') {
                // A backslash is left out, and what stands behind it is taken as it is, be it a mark.
                if (row[at] == '\\') {
                    at++;
                }
                if (at >= size || !isQuotable(row[at])) {
                    return false;
                }
                say(row[at]);
                at++;
            }
            return take('"');
        }

        /** What stands between a tag's marks, with the marks. */
        final boolean takeOpaque() {
            saidSize = 0;
            if (!take('"')) {
                return false;
            }
            while (at < size && row[at] > ' ' && row[at] != '"' && row[at] != 127) {
                say(row[at]);
                at++;
            }
            return take('"');
        }

        final boolean takeLanguage() {
            saidSize = 0;
            if (take('*')) {
                say('*');
                return true;
            }
            int subtag = 0;
            boolean digitsToo = false;
            while (at < size && (row[at] == '-' || isLetter(row[at]) || (digitsToo && isDigit(row[at])))) {
                boolean border = row[at] == '-';
                if (border ? subtag == 0 : subtag == MOST_SUBTAG) {
                    return false;
                }
                subtag = border ? 0 : subtag + 1;
                digitsToo = digitsToo || border;
                say(row[at]);
                at++;
            }
            return subtag > 0;
        }

        /** The thousandths that are told from the = on; BAD when it is no weight. */
        final int takeWeight() {
            if (!take('=')) {
                return BAD;
            }
            boolean one = take('1');
            if (!one && !take('0')) {
                return BAD;
            }
            int thousandths = one ? FULL_WEIGHT : 0;
            if (!take('.')) {
                return thousandths;
            }
            for (int scale = 100; scale > 0 && at < size && isDigit(row[at]); scale /= 10) {
                thousandths += scale * (row[at] - '0');
                at++;
            }
            return thousandths > FULL_WEIGHT ? BAD : thousandths;
        }

        /** BAD when there is no digit. */
        final int takeNumber() {
            int digits = 0;
            int number = 0;
            while (at < size && isDigit(row[at])) {
                // Beyond nine digits the number is not used, and may not grow out of an int.
                number = digits < MOST_DIGITS ? 10 * number + row[at] - '0' : number;
                digits++;
                at++;
            }
            if (digits == 0) {
                return BAD;
            }
            return digits > MOST_DIGITS ? GREATEST_NUMBER : number;
        }

        /** A number of just so many digits; BAD when there are fewer. */
        final int takeDigits(int many) {
            int number = 0;
            for (int i = 0; i < many; i++) {
                if (at >= size || row[at] < '0' || row[at] > '9') {
                    return BAD;
                }
                number = 10 * number + row[at] - '0';
                at++;
            }
            return number;
        }

        /** Which of the names, of three letters each, comes next; BAD when none does. */
        final int takeName(String names) {
            if (size - at < 3) {
                return BAD;
            }
            for (int i = 0; i + 2 < names.length(); i += 3) {
                boolean begins = row[at] == names.charAt(i) && row[at + 1] == names.charAt(i + 1);
                if (begins && row[at + 2] == names.charAt(i + 2)) {
                    at += 3;
                    return i / 3;
                }
            }
            return BAD;
        }

        final int saidSize() {
            return saidSize;
        }

        final boolean isSaid(String text) {
            if (saidSize != text.length()) {
                return false;
            }
            for (int i = 0; i < saidSize; i++) {
                if (said[i] != text.charAt(i)) {
                    return false;
                }
            }
            return true;
        }

        final boolean isSaidAlike(String text) {
            if (saidSize != text.length()) {
                return false;
            }
            for (int i = 0; i < saidSize; i++) {
                if (lower(said[i]) != lower(text.charAt(i))) {
                    return false;
                }
            }
            return true;
        }

        final boolean saysStar() {
            for (int i = 0; i < saidSize; i++) {
                if (said[i] == '*') {
                    return true;
                }
            }
            return false;
        }

        private void say(int character) {
            if (saidSize < MOST_CHARACTERS) {
                said[saidSize] = character;
                saidSize++;
            }
        }

        private static boolean isDigit(int character) {
            return character >= '0' && character <= '9';
        }

        private static boolean isLetter(int character) {
            int small = character | 32;
            return small >= 'a' && small <= 'z';
        }

        private static int lower(int character) {
            return character >= 'A' && character <= 'Z' ? character + 32 : character;
        }

        private static boolean isQuotable(int character) {
            return character == '\t' || (character >= ' ' && character != 127);
        }
    }

    /** Field 0, read with an eye on one type. */
    private static final class Accept extends Reader {
        int quality;
        private int mostTold;
        private boolean fits;
        private int told;
        private int weight;

        /** Whether the field is well formed; only then the quality of the type is known. */
        boolean read(Request request, MediaType type) {
            open(request, ACCEPT);
            quality = 0;
            mostTold = -1;
            int elements = 0;
            while (elements < MOST_CHARACTERS && findElement()) {
                if (!readTokens(type) || !readParameters(type) || !endsElement()) {
                    return false;
                }
                weigh();
                elements++;
            }
            return elements > 0;
        }

        private boolean readTokens(MediaType type) {
            if (!takeToken()) {
                return false;
            }
            boolean anyMain = isSaid("*");
            boolean mainFits = anyMain || isSaidAlike(type.main);
            if ((saysStar() && !anyMain) || !take('/') || !takeToken()) {
                return false;
            }
            boolean anySub = isSaid("*");
            if (!anySub && (anyMain || saysStar())) {
                return false;
            }
            fits = mainFits && (anySub || isSaidAlike(type.sub));
            told = (anyMain ? 0 : 1) + (anySub ? 0 : 1);
            return true;
        }

        /** The parameters, and the weight, which ends them. */
        private boolean readParameters(MediaType type) {
            weight = FULL_WEIGHT;
            for (int turn = 0; turn < MOST_CHARACTERS && takeSemicolon(); turn++) {
                if (!takeToken()) {
                    return false;
                }
                if (isSaidAlike("q")) {
                    weight = takeWeight();
                    return weight != BAD;
                }
                boolean known = isSaidAlike(type.parameter);
                if (!take('=') || !(isNext('"') ? takeQuotedText() : takeToken())) {
                    return false;
                }
                fits = fits && known && isSaid(type.value);
                told++;
            }
            return true;
        }

        private void weigh() {
            if (fits && told > mostTold) {
                mostTold = told;
                quality = weight;
            }
        }
    }

    /** Field 1, read with an eye on one language. */
    private static final class Languages extends Reader {
        int quality;
        private int longest;

        /** Whether the field is well formed; only then the quality of the language is known. */
        boolean read(Request request, Language language) {
            open(request, LANGUAGES);
            quality = 0;
            longest = -1;
            int elements = 0;
            while (elements < MOST_CHARACTERS && findElement()) {
                if (!readRange(language) || !endsElement()) {
                    return false;
                }
                elements++;
            }
            return elements > 0;
        }

        private boolean readRange(Language language) {
            if (!takeLanguage()) {
                return false;
            }
            int weight = FULL_WEIGHT;
            if (takeSemicolon()) {
                weight = take('q') || take('Q') ? takeWeight() : BAD;
            }
            int fit = fitOf(language);
            if (fit > longest) {
                longest = fit;
                quality = weight;
            }
            return weight != BAD;
        }

        /** The star fits with 0, so that any other range that fits goes before it. */
        private int fitOf(Language language) {
            if (isSaid("*")) {
                return 0;
            }
            return isSaidAlike(language.code) || isSaidAlike(language.beginning) ? saidSize() : -1;
        }
    }

    /** Fields 2, 3 and 6, read with an eye on one tag. */
    private static final class Tags extends Reader {
        boolean star;
        /** One of the tags has the wanted characters. */
        boolean same;
        /** One of these is not weak. */
        boolean strong;

        /** Whether the field is * or a list of tags. */
        boolean readList(Request request, int field, String wanted) {
            begin(request, field);
            if (take('*')) {
                star = true;
                skipGap();
                return isEnded();
            }
            int elements = 0;
            while (elements < MOST_CHARACTERS && findElement()) {
                if (!readTag(wanted) || !endsElement()) {
                    return false;
                }
                elements++;
            }
            return elements > 0;
        }

        /** Whether the field is one tag. */
        boolean readOne(Request request, int field, String wanted) {
            begin(request, field);
            if (!readTag(wanted)) {
                return false;
            }
            skipGap();
            return isEnded();
        }

        private void begin(Request request, int field) {
            open(request, field);
            star = false;
            same = false;
            strong = false;
            skipGap();
        }

        private boolean readTag(String wanted) {
            boolean weak = isNext('W');
            if ((weak && !takeText("W/")) || !takeOpaque()) {
                return false;
            }
            boolean fits = isSaid(wanted);
            same = same || fits;
            strong = strong || (fits && !weak);
            return true;
        }
    }

    /** Dates in their three forms, in fields 4, 5 and 6. */
    private static final class Dates extends Reader {
        private static final int FIRST_YEAR = 1970;
        private static final int LAST_YEAR = 2099;
        private static final int YEARS_AHEAD = 50;
        private static final long DAY_SECONDS = 86400;
        private static final String DAYS = "SunMonTueWedThuFriSat";
        private static final String MONTHS = "JanFebMarAprMayJunJulAugSepOctNovDec";
        private static final int[] MONTH_DAYS = {31, 28, 31, 30, 31, 30, 31, 31, 30, 31, 30, 31};

        private final int latestYear;
        private int year;
        private int month;
        private int day;
        private int second;

        Dates(long now) {
            latestYear = yearOf(now) + YEARS_AHEAD;
        }

        /** BAD when the field is no date. */
        long timeOf(Request request, int field) {
            open(request, field);
            skipGap();
            int weekday = takeName(DAYS);
            if (weekday == BAD) {
                return BAD;
            }
            boolean taken;
            if (take(',')) {
                taken = takeCommaForm();
            } else if (take(' ')) {
                taken = takeSpaceForm();
            } else {
                taken = takeText(restOfName(weekday)) && takeDashForm();
            }
            skipGap();
            return taken && isEnded() && isInCalendar() ? time() : BAD;
        }

        private boolean takeCommaForm() {
            boolean begun = take(' ') && takeDay() && take(' ') && takeMonth() && take(' ') && takeYear();
            return begun && take(' ') && takeClock() && takeText(" GMT");
        }

        private boolean takeDashForm() {
            boolean begun = takeText(", ") && takeDay() && take('-') && takeMonth() && take('-') && takeShortYear();
            return begun && take(' ') && takeClock() && takeText(" GMT");
        }

        private boolean takeSpaceForm() {
            boolean begun = takeMonth() && take(' ') && takeSpacedDay() && take(' ');
            return begun && takeClock() && take(' ') && takeYear();
        }

        private static String restOfName(int weekday) {
            switch (weekday) {
                case 2:
                    return "sday";
                case 3:
                    return "nesday";
                case 4:
                    return "rsday";
                case 6:
                    return "urday";
                default:
                    return "day";
            }
        }

        private boolean takeDay() {
            day = takeDigits(2);
            return day != BAD;
        }

        private boolean takeSpacedDay() {
            boolean small = take(' ');
            day = takeDigits(small ? 1 : 2);
            return small ? day != BAD : day >= 10;
        }

        private boolean takeMonth() {
            month = takeName(MONTHS);
            return month != BAD;
        }

        private boolean takeYear() {
            year = takeDigits(4);
            return year != BAD;
        }

        private boolean takeShortYear() {
            int digits = takeDigits(2);
            year = 2000 + digits > latestYear ? 1900 + digits : 2000 + digits;
            return digits != BAD;
        }

        private boolean takeClock() {
            int hours = takeDigits(2);
            if (hours == BAD || hours > 23 || !take(':')) {
                return false;
            }
            int minutes = takeDigits(2);
            if (minutes == BAD || minutes > 59 || !take(':')) {
                return false;
            }
            int seconds = takeDigits(2);
            second = 3600 * hours + 60 * minutes + seconds;
            return seconds != BAD && seconds <= 59;
        }

        private boolean isInCalendar() {
            return year >= FIRST_YEAR && year <= LAST_YEAR && day >= 1 && day <= daysOf(month, year);
        }

        private long time() {
            long days = daysBefore(year) + day - 1;
            for (int before = 0; before < month; before++) {
                days += daysOf(before, year);
            }
            return DAY_SECONDS * days + second;
        }

        private static int daysOf(int month, int year) {
            if (month < 0 || month >= MONTH_DAYS.length) {
                return 0;
            }
            // From 1970 to 2099 every fourth year is a leap year, 2000 too.
            return month == 1 && year % 4 == 0 ? 29 : MONTH_DAYS[month];
        }

        /** The days from the beginning of 1970 to that of a year. */
        private static int daysBefore(int year) {
            return 365 * (year - FIRST_YEAR) + (year - FIRST_YEAR + 1) / 4;
        }

        private static int yearOf(long time) {
            long days = time / DAY_SECONDS;
            int found = FIRST_YEAR;
            while (found < LAST_YEAR && daysBefore(found + 1) <= days) {
                found++;
            }
            return found;
        }
    }

    /** Field 7, resolved for a representation's size. */
    private static final class Ranges extends Reader {
        final int[] firsts = new int[MOST_SPECS];
        final int[] lasts = new int[MOST_SPECS];
        int specs;
        int kept;

        /** Whether the field is well formed; only then what is kept is meant. */
        boolean read(Request request, int size) {
            open(request, RANGE);
            specs = 0;
            kept = 0;
            skipGap();
            if (!takeAlike("bytes") || !take('=')) {
                return false;
            }
            while (specs < MOST_CHARACTERS && findElement()) {
                if (!readSpec(size) || !endsElement()) {
                    return false;
                }
                specs++;
            }
            return specs > 0;
        }

        boolean overlap() {
            for (int k = 1; k < kept; k++) {
                for (int j = 0; j < k; j++) {
                    if (firsts[k] <= lasts[j] && firsts[j] <= lasts[k]) {
                        return true;
                    }
                }
            }
            return false;
        }

        private boolean readSpec(int size) {
            int from = takeNumber();
            if (!take('-')) {
                return false;
            }
            int to = takeNumber();
            if (from == BAD) {
                keep(Math.max(0, size - to), size - 1);
                return to != BAD;
            }
            keep(from, to == BAD ? size - 1 : Math.min(to, size - 1));
            return to == BAD || to >= from;
        }

        /** A fifth one isn't needed: with more than four specs none of them counts. */
        private void keep(int from, int to) {
            if (from <= to && kept < MOST_SPECS) {
                firsts[kept] = from;
                lasts[kept] = to;
                kept++;
            }
        }
    }

    /** The answer of the last respond(). */
    private static final class Response {
        private static final String BEFORE_RANGE = "--PART\r\nRange: ";
        private static final String BEFORE_BYTES = "\r\n\r\n";
        private static final String BEHIND_BYTES = "\r\n";
        private static final String BEHIND_PARTS = "--PART--\r\n";

        int code = BAD;
        Representation subject;
        int bodySize;
        int partCount;
        final int[] firsts = new int[MOST_SPECS];
        final int[] lasts = new int[MOST_SPECS];
        private boolean bodyless;
        private final StringBuilder heading = new StringBuilder();

        void settle(int newCode, Representation chosenOne, boolean forHead, Ranges ranges) {
            code = newCode;
            subject = chosenOne;
            bodyless = forHead;
            partCount = code == PARTIAL ? ranges.kept : 0;
            for (int k = 0; k < partCount && k < MOST_SPECS; k++) {
                firsts[k] = ranges.firsts[k];
                lasts[k] = ranges.lasts[k];
            }
            bodySize = measure();
        }

        boolean hasPart(int k) {
            return k >= 0 && k < partCount && k < MOST_SPECS;
        }

        int byteAt(int i) {
            if (subject == null || bodyless || i < 0 || i >= bodySize) {
                return BAD;
            }
            if (partCount == 0) {
                return subject.byteAt(i);
            }
            return partCount == 1 ? subject.byteAt(firsts[0] + i) : byteAmongParts(subject, i);
        }

        private int measure() {
            if (code == OK && subject != null) {
                return subject.size;
            }
            if (partCount < 2 || subject == null) {
                return partCount == 0 ? 0 : partSize(0);
            }
            int total = BEHIND_PARTS.length();
            for (int k = 0; k < partCount; k++) {
                writeHeading(k, subject.size);
                total += heading.length() + partSize(k) + BEHIND_BYTES.length();
            }
            return total;
        }

        private int byteAmongParts(Representation whole, int i) {
            int rest = i;
            for (int k = 0; k < partCount; k++) {
                writeHeading(k, whole.size);
                if (rest < heading.length()) {
                    return heading.charAt(rest);
                }
                rest -= heading.length();
                if (rest < partSize(k)) {
                    return whole.byteAt(firsts[k] + rest);
                }
                rest -= partSize(k);
                if (rest < BEHIND_BYTES.length()) {
                    return BEHIND_BYTES.charAt(rest);
                }
                rest -= BEHIND_BYTES.length();
            }
            return rest < BEHIND_PARTS.length() ? BEHIND_PARTS.charAt(rest) : BAD;
        }

        /** Written anew into the same builder each time, so that no call makes texts. */
        private void writeHeading(int k, int size) {
            heading.setLength(0);
            heading.append(BEFORE_RANGE).append(firsts[k]).append('-').append(lasts[k]);
            heading.append('/').append(size).append(BEFORE_BYTES);
        }

        private int partSize(int k) {
            return lasts[k] - firsts[k] + 1;
        }
    }
}
