import java.time.LocalDate;
import java.time.YearMonth;
import java.time.ZoneOffset;

/** The sentences on dates, at their edges. */
public final class EdgesOfDatesTest {
    private static final int BAD = OriginDesk.BAD;
    private static final long TIME = 784111777L;
    private static final String[] DAYS = {"Sunday", "Monday", "Tuesday", "Wednesday", "Thursday", "Friday", "Saturday"};
    private static final String[] MONTHS = {"Jan", "Feb", "Mar", "Apr", "May", "Jun", "Jul", "Aug", "Sep", "Oct", "Nov", "Dec"};

    public static void main(String[] args) {
        Sentence.holds("DATE: Sun, 06 Nov 1994 08:49:37 GMT (day of the week, two digits, month, year of four digits, time)", EdgesOfDatesTest::commaForm);
        Sentence.holds("or Sunday, 06-Nov-94 08:49:37 GMT (year of two digits)", EdgesOfDatesTest::dashForm);
        Sentence.holds("or Sun Nov  6 08:49:37 1994 (the day of the month has two characters, the first a space when it is below 10)",
            EdgesOfDatesTest::spaceForm);
        Sentence.holds("names of days (Sun Mon Tue Wed Thu Fri Sat, and Sunday .. Saturday) and of months (Jan .. Dec) just so", EdgesOfDatesTest::names);
        Sentence.holds("the day from 1 to as many as the month has that year", EdgesOfDatesTest::daysOfTheMonth);
        Sentence.holds("hours to 23", EdgesOfDatesTest::hours);
        Sentence.holds("minutes to 59", EdgesOfDatesTest::minutes);
        Sentence.holds("seconds to 59", EdgesOfDatesTest::seconds);
        Sentence.holds("years of four digits from 1970 to 2099.", EdgesOfDatesTest::years);
        Sentence.holds("A year of two digits is the latest of 1970 .. 2099 with these last digits that is not later than 50 years after the year of NOW",
            EdgesOfDatesTest::shortYears);
        Sentence.holds("where there is none, it is no date.", EdgesOfDatesTest::shortYearsWithoutYear);
        Sentence.holds("The name of the day need not fit.", EdgesOfDatesTest::anyDayOfTheWeek);
        Sentence.holds("4 and 5 MODIFIED and UNMODIFIED: a DATE.", EdgesOfDatesTest::oneDate);
        Sentence.holds("NOW is the time that now tells as a number without a sign (4294967296 more when it is below 0)", EdgesOfDatesTest::nowWithoutSign);
        Sentence.holds("but 0 if that is above 4102444799.", EdgesOfDatesTest::nowTooLarge);
        Sentence.holds("The time that a field's text means now, for 4 to 6; BAD when it isn't a date (a tag of 6 is none), or for another field.",
            EdgesOfDatesTest::dateOfFields);
        Desk.end();
    }

    private static void commaForm() {
        date("Sun, 06 Nov 1994 08:49:37 GMT", TIME);
        noDates("Sun, 6 Nov 1994 08:49:37 GMT", "Sun,  6 Nov 1994 08:49:37 GMT", "Sun, 006 Nov 1994 08:49:37 GMT", "Sun, 06 Nov 94 08:49:37 GMT",
            "Sun, 06 Nov 01994 08:49:37 GMT", "Sun, 06 Nov 1994 8:49:37 GMT", "Sun, 06 Nov 1994 08:49 GMT", "Sun, 06 Nov 1994 08:49:37", "Sun, 06 Nov 1994 08:49:37 UTC",
            "Sun, 06 Nov 1994 08:49:37 gmt", "Sun,06 Nov 1994 08:49:37 GMT", "Sun 06 Nov 1994 08:49:37 GMT", "Sun, 06-Nov-1994 08:49:37 GMT", "06 Nov 1994 08:49:37 GMT",
            "Sun, 06 Nov 1994 08.49.37 GMT", "Sunday, 06 Nov 1994 08:49:37 GMT");
        broken("Sun, 06 Nov 1994 08:49:37 GMT");
    }

    private static void dashForm() {
        date("Sunday, 06-Nov-94 08:49:37 GMT", TIME);
        noDates("Sunday, 6-Nov-94 08:49:37 GMT", "Sunday,  6-Nov-94 08:49:37 GMT", "Sunday, 06-Nov-1994 08:49:37 GMT", "Sunday, 06-Nov-4 08:49:37 GMT",
            "Sunday, 06-Nov-094 08:49:37 GMT", "Sunday, 06 Nov 94 08:49:37 GMT", "Sun, 06-Nov-94 08:49:37 GMT", "Sunday 06-Nov-94 08:49:37 GMT", "Sunday, 06-Nov-94 08:49:37",
            "Sunday,06-Nov-94 08:49:37 GMT", "Sunday, 06-Nov-94 08:49:37 UTC");
        broken("Sunday, 06-Nov-94 08:49:37 GMT");
    }

    private static void spaceForm() {
        date("Sun Nov  6 08:49:37 1994", TIME);
        date("Sun Nov  9 08:49:37 1994", TIME + 3 * 86400);
        date("Sun Nov 10 08:49:37 1994", TIME + 4 * 86400);
        date("Sun Nov  1 08:49:37 1994", TIME - 5 * 86400);
        noDates("Sun Nov 6 08:49:37 1994", "Sun Nov 06 08:49:37 1994", "Sun Nov 09 08:49:37 1994", "Sun Nov 01 08:49:37 1994", "Sun Nov  10 08:49:37 1994",
            "Sun Nov 1  08:49:37 1994", "Sun Nov   6 08:49:37 1994", "Sun Nov \t6 08:49:37 1994", "Sun Nov    08:49:37 1994", "Sun Nov  6 08:49:37 94",
            "Sun Nov  6 08:49:37 1994 GMT", "Sun, Nov  6 08:49:37 1994", "Sunday Nov  6 08:49:37 1994");
        broken("Sun Nov  6 08:49:37 1994");
        broken("Sun Nov 16 08:49:37 1994");
    }

    /** Each row of characters taken away, each character doubled, and each but a digit changed. */
    private static void broken(String text) {
        for (int i = 0; i < text.length(); i++) {
            for (int end = i + 1; end <= text.length(); end++) {
                date(text.substring(0, i) + text.substring(end), BAD);
            }
            date(text.substring(0, i) + text.charAt(i) + text.substring(i), BAD);
            if (!Character.isDigit(text.charAt(i))) {
                date(text.substring(0, i) + "x" + text.substring(i + 1), BAD);
                date(text.substring(0, i) + "\t" + text.substring(i + 1), BAD);
                date(text.substring(0, i) + (char) (text.charAt(i) ^ 32) + text.substring(i + 1), BAD);
            }
        }
    }

    private static void names() {
        for (String day : DAYS) {
            String brief = day.substring(0, 3);
            date(brief + ", 06 Nov 1994 08:49:37 GMT", TIME);
            date(day + ", 06-Nov-94 08:49:37 GMT", TIME);
            date(brief + " Nov  6 08:49:37 1994", TIME);
            noDates(brief.toLowerCase() + ", 06 Nov 1994 08:49:37 GMT", brief.toUpperCase() + ", 06 Nov 1994 08:49:37 GMT", day + ", 06 Nov 1994 08:49:37 GMT",
                day.toLowerCase() + ", 06-Nov-94 08:49:37 GMT", day.toUpperCase() + ", 06-Nov-94 08:49:37 GMT", brief + ", 06-Nov-94 08:49:37 GMT",
                brief.toLowerCase() + " Nov  6 08:49:37 1994", brief.toUpperCase() + " Nov  6 08:49:37 1994", day + " Nov  6 08:49:37 1994");
            for (String other : DAYS) {
                String mixed = brief + other.substring(3);
                date(mixed + ", 06-Nov-94 08:49:37 GMT", mixed.equals(day) ? TIME : BAD);
            }
        }
        for (int month = 0; month < 12; month++) {
            String name = MONTHS[month];
            long time = LocalDate.of(1994, month + 1, 6).toEpochDay() * 86400;
            date("Sun, 06 " + name + " 1994 00:00:00 GMT", time);
            date("Sunday, 06-" + name + "-94 00:00:00 GMT", time);
            date("Sun " + name + "  6 00:00:00 1994", time);
            noDates("Sun, 06 " + name.toLowerCase() + " 1994 00:00:00 GMT", "Sun, 06 " + name.toUpperCase() + " 1994 00:00:00 GMT",
                "Sunday, 06-" + name.toLowerCase() + "-94 00:00:00 GMT", "Sun " + name.toUpperCase() + "  6 00:00:00 1994");
        }
        noDates("Sab, 06 Nov 1994 08:49:37 GMT", "Sun, 06 Okt 1994 08:49:37 GMT", "Sun, 06 11 1994 08:49:37 GMT", "Sun, 06 November 1994 08:49:37 GMT");
    }

    private static void daysOfTheMonth() {
        for (int year = 1970; year <= 2099; year++) {
            for (int month = 1; month <= 12; month++) {
                int days = YearMonth.of(year, month).lengthOfMonth();
                for (int day : new int[] {0, 1, 9, 10, 28, 29, 30, 31, 32, 99}) {
                    boolean there = day >= 1 && day <= days;
                    dayOf(year, month, day, there ? LocalDate.of(year, month, day).toEpochDay() * 86400 : BAD);
                }
            }
        }
    }

    private static void dayOf(int year, int month, int day, long want) {
        String name = MONTHS[month - 1];
        dateAt(Desk.NOW, String.format("Sun, %02d %s %d 00:00:00 GMT", day, name, year), want);
        dateAt(Desk.NOW, String.format("Sun %s %2d 00:00:00 %d", name, day, year), want);
        // In 2023 the years of two digits are those from 1974 to 2073.
        if (year >= 1974 && year <= 2073) {
            dateAt(Desk.NOW, String.format("Sunday, %02d-%s-%02d 00:00:00 GMT", day, name, year % 100), want);
        }
    }

    private static void hours() {
        for (int hour = 0; hour <= 99; hour++) {
            clock(String.format("%02d:00:00", hour), hour <= 23 ? 3600L * hour : BAD);
        }
    }

    private static void minutes() {
        for (int minute = 0; minute <= 99; minute++) {
            clock(String.format("00:%02d:00", minute), minute <= 59 ? 60L * minute : BAD);
        }
    }

    private static void seconds() {
        for (int second = 0; second <= 99; second++) {
            clock(String.format("00:00:%02d", second), second <= 59 ? second : BAD);
        }
        clock("23:59:59", 86399);
        clock("23:59:60", BAD);
    }

    /** A time on the first day of all. */
    private static void clock(String time, long want) {
        date("Thu, 01 Jan 1970 " + time + " GMT", want);
        date("Thursday, 01-Jan-74 " + time + " GMT", want == BAD ? BAD : want + 1461L * 86400);
        date("Thu Jan  1 " + time + " 1970", want);
    }

    private static void years() {
        for (int year : new int[] {0, 1, 70, 99, 999, 1900, 1969, 1970, 1971, 1999, 2000, 2038, 2039, 2098, 2099, 2100, 2101, 2970, 9999}) {
            boolean there = year >= 1970 && year <= 2099;
            long first = there ? LocalDate.of(year, 1, 1).toEpochDay() * 86400 : BAD;
            long last = there ? LocalDate.of(year, 12, 31).toEpochDay() * 86400 + 86399 : BAD;
            date(String.format("Sun, 01 Jan %04d 00:00:00 GMT", year), first);
            date(String.format("Sun Jan  1 00:00:00 %04d", year), first);
            date(String.format("Sun, 31 Dec %04d 23:59:59 GMT", year), last);
            date(String.format("Sun Dec 31 23:59:59 %04d", year), last);
        }
        date("Thu, 31 Dec 2099 23:59:59 GMT", 4102444799L);
    }

    private static void shortYears() {
        for (int nowYear = 1970; nowYear <= 2099; nowYear++) {
            int first = (int) secondsBefore(nowYear);
            int last = (int) (secondsBefore(nowYear + 1) - 1);
            for (int digits = 0; digits <= 99; digits++) {
                int year = latest(digits, nowYear + 50);
                if (year != BAD) {
                    shortYear(first, digits, year);
                    shortYear(last, digits, year);
                }
            }
        }
    }

    private static void shortYearsWithoutYear() {
        for (int nowYear = 1970; nowYear <= 2019; nowYear++) {
            for (int digits = 0; digits <= 99; digits++) {
                if (latest(digits, nowYear + 50) == BAD) {
                    shortYear((int) secondsBefore(nowYear), digits, BAD);
                    shortYear((int) (secondsBefore(nowYear + 1) - 1), digits, BAD);
                }
            }
        }
        shortYear(0, 20, 2020);
        shortYear(0, 21, BAD);
        shortYear(0, 69, BAD);
        shortYear(0, 70, 1970);
        OriginDesk desk = new OriginDesk(0);
        desk.add(0, 0, 1, 1, false, 1);
        Desk.due("no date isn't before", Desk.get(desk, Desk.UNMODIFIED, "Sunday, 01-Jan-21 00:00:00 GMT"), 200);
        Desk.due("it isn't well formed", desk.formed(Desk.UNMODIFIED), false);
    }

    private static int latest(int digits, int limit) {
        int found = BAD;
        for (int year = 1970; year <= 2099 && year <= limit; year++) {
            found = year % 100 == digits ? year : found;
        }
        return found;
    }

    private static long secondsBefore(int year) {
        return LocalDate.of(year, 1, 1).atStartOfDay().toEpochSecond(ZoneOffset.UTC);
    }

    private static void shortYear(int now, int digits, int year) {
        long want = year == BAD ? BAD : LocalDate.of(year, 3, 1).toEpochDay() * 86400;
        dateAt(now, String.format("Sunday, 01-Mar-%02d 00:00:00 GMT", digits), want);
    }

    private static void anyDayOfTheWeek() {
        for (String day : DAYS) {
            for (int number = 1; number <= 9; number++) {
                long time = TIME + (number - 6) * 86400L;
                date(day.substring(0, 3) + ", 0" + number + " Nov 1994 08:49:37 GMT", time);
                date(day + ", 0" + number + "-Nov-94 08:49:37 GMT", time);
                date(day.substring(0, 3) + " Nov  " + number + " 08:49:37 1994", time);
            }
        }
    }

    private static void oneDate() {
        for (int field = Desk.MODIFIED; field <= Desk.UNMODIFIED; field++) {
            Desk.formed(field, "Sun, 06 Nov 1994 08:49:37 GMT", true);
            Desk.formed(field, " \tSun Nov  6 08:49:37 1994\t ", true);
            Desk.formed(field, "", false);
            Desk.formed(field, " ", false);
            Desk.formed(field, "*", false);
            Desk.formed(field, "\"a\"", false);
            Desk.formed(field, "Sun, 06 Nov 1994 08:49:37 GMT,", false);
            Desk.formed(field, ",Sun, 06 Nov 1994 08:49:37 GMT", false);
            Desk.formed(field, "Sun Nov  6 08:49:37 1994 Sun Nov  6 08:49:37 1994", false);
            Desk.formed(field, "784111777", false);
        }
    }

    /** Of NOW only its year is seen, where a year of two digits is read. */
    private static void nowWithoutSign() {
        shortYear(0, 20, 2020);
        shortYear(0, 21, BAD);
        shortYear(Integer.MAX_VALUE, 88, 2088);
        shortYear(Integer.MAX_VALUE, 89, 1989);
        shortYear(Integer.MIN_VALUE, 88, 2088);
        shortYear(Integer.MIN_VALUE, 89, 1989);
        shortYear((int) (secondsBefore(2039) - 1), 89, 1989);
        shortYear((int) secondsBefore(2039), 89, 2089);
        shortYear((int) (secondsBefore(2049) - 1), 99, 1999);
        shortYear((int) secondsBefore(2049), 99, 2099);
    }

    private static void nowTooLarge() {
        shortYear((int) 4102444799L, 99, 2099);
        shortYear((int) 4102444799L, 21, 2021);
        for (int now : new int[] {(int) 4102444800L, (int) 4102444801L, -2, -1}) {
            shortYear(now, 20, 2020);
            shortYear(now, 21, BAD);
            shortYear(now, 99, 1999);
        }
    }

    private static void dateOfFields() {
        String text = "Sun, 06 Nov 1994 08:49:37 GMT";
        for (int field = 0; field < 8; field++) {
            OriginDesk desk = new OriginDesk(Desk.NOW);
            Desk.feed(desk, field, text);
            for (int other = -1; other <= 8; other++) {
                Desk.due("date(" + other + "), fed " + field, desk.date(other), other == field && field >= 4 && field <= 6 ? TIME : BAD);
            }
            Desk.due("date of the greatest field", desk.date(Integer.MAX_VALUE), BAD);
            Desk.due("date of the least field", desk.date(Integer.MIN_VALUE), BAD);
        }
        OriginDesk desk = new OriginDesk(Desk.NOW);
        Desk.due("nothing fed", desk.date(Desk.IF_RANGE), BAD);
        Desk.feed(desk, Desk.IF_RANGE, "\"v42\"");
        Desk.due("a tag", desk.date(Desk.IF_RANGE), BAD);
        Desk.ask(desk, 0, Desk.MODIFIED, "Sun Nov  6 08:49:37 199");
        Desk.due("not yet a date", desk.date(Desk.MODIFIED), BAD);
        Desk.feed(desk, Desk.MODIFIED, "4");
        Desk.due("now a date", desk.date(Desk.MODIFIED), TIME);
        Desk.feed(desk, Desk.MODIFIED, "4");
        Desk.due("no longer a date", desk.date(Desk.MODIFIED), BAD);
        Desk.ask(desk, 0, Desk.MODIFIED, "Thu, 01 Jan 1970 00:00:00 GMT");
        Desk.due("the first of all", desk.date(Desk.MODIFIED), 0);
        desk.request(0);
        Desk.due("a new request", desk.date(Desk.MODIFIED), BAD);
    }

    private static void noDates(String... texts) {
        for (String text : texts) {
            date(text, BAD);
        }
    }

    private static void date(String text, long want) {
        OriginDesk desk = new OriginDesk(Desk.NOW);
        for (int field = Desk.MODIFIED; field <= Desk.IF_RANGE; field++) {
            Desk.feed(desk, field, text);
            Desk.due("date(" + field + ") of <" + text + ">", desk.date(field), want);
            Desk.due("formed(" + field + ") of <" + text + ">", desk.formed(field), want != BAD);
        }
    }

    private static void dateAt(int now, String text, long want) {
        OriginDesk desk = new OriginDesk(now);
        Desk.feed(desk, Desk.UNMODIFIED, text);
        Desk.due("date of <" + text + "> at " + now, desk.date(Desk.UNMODIFIED), want);
    }
}
