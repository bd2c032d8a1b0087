import java.time.LocalDate;
import java.time.ZoneOffset;

/** Promise 16, and 15 for fields 4 and 5. */
public final class DatesTest {
    private static final int BAD = OriginDesk.BAD;
    private static final String[] DAYS = {"Sunday", "Monday", "Tuesday", "Wednesday", "Thursday", "Friday", "Saturday"};
    private static final String[] MONTHS = {"Jan", "Feb", "Mar", "Apr", "May", "Jun", "Jul", "Aug", "Sep", "Oct", "Nov", "Dec"};

    public static void main(String[] args) {
        threeForms();
        everyDay();
        dayNames();
        edges();
        malformed();
        digitsOnly();
        fields();
        Desk.end();
    }

    private static void threeForms() {
        date("Sun, 06 Nov 1994 08:49:37 GMT", 784111777L);
        date("Sunday, 06-Nov-94 08:49:37 GMT", 784111777L);
        date("Sun Nov  6 08:49:37 1994", 784111777L);
        date("Wed Nov 16 08:49:37 1994", 784975777L);
        date(" \tSun, 06 Nov 1994 08:49:37 GMT\t ", 784111777L);
        date("\tSunday, 06-Nov-94 08:49:37 GMT ", 784111777L);
        date(" Sun Nov  6 08:49:37 1994\t", 784111777L);
    }

    private static void everyDay() {
        LocalDate day = LocalDate.of(1970, 1, 1);
        while (day.getYear() <= 2099) {
            OriginDesk desk = new OriginDesk(Desk.NOW);
            String month = MONTHS[day.getMonthValue() - 1];
            String text = String.format("Mon, %02d %s %d 00:00:01 GMT", day.getDayOfMonth(), month, day.getYear());
            Desk.ask(desk, 0, Desk.MODIFIED, text);
            long want = day.atStartOfDay().toEpochSecond(ZoneOffset.UTC) + 1;
            Desk.due(text, desk.date(Desk.MODIFIED), want);
            String spaced = String.format("Mon %s %2d 00:00:01 %d", month, day.getDayOfMonth(), day.getYear());
            Desk.ask(desk, 0, Desk.MODIFIED, spaced);
            Desk.due(spaced, desk.date(Desk.MODIFIED), want);
            if (day.getYear() >= 1974 && day.getYear() <= 2073) {
                String dashed = String.format("Monday, %02d-%s-%02d 00:00:01 GMT", day.getDayOfMonth(), month, day.getYear() % 100);
                Desk.ask(desk, 0, Desk.MODIFIED, dashed);
                Desk.due(dashed, desk.date(Desk.MODIFIED), want);
            }
            if (day.plusDays(1).getDayOfMonth() == 1) {
                String beyond = String.format("Mon %s %d 00:00:01 %d", month, day.getDayOfMonth() + 1, day.getYear());
                Desk.ask(desk, 0, Desk.MODIFIED, beyond);
                Desk.due(beyond, desk.date(Desk.MODIFIED), BAD);
            }
            day = day.plusDays(1);
        }
    }

    private static void dayNames() {
        for (String name : DAYS) {
            date(name.substring(0, 3) + ", 06 Nov 1994 08:49:37 GMT", 784111777L);
            date(name + ", 06-Nov-94 08:49:37 GMT", 784111777L);
            date(name.substring(0, 3) + " Nov  6 08:49:37 1994", 784111777L);
            date(name + ", 06 Nov 1994 08:49:37 GMT", BAD);
            date(name.substring(0, 3) + ", 06-Nov-94 08:49:37 GMT", BAD);
            date(name + " Nov  6 08:49:37 1994", BAD);
            date(name.toLowerCase() + ", 06-Nov-94 08:49:37 GMT", BAD);
            date(name.toUpperCase() + ", 06-Nov-94 08:49:37 GMT", BAD);
            date(name.substring(0, 3).toUpperCase() + ", 06 Nov 1994 08:49:37 GMT", BAD);
        }
        date("Sunsday, 06-Nov-94 08:49:37 GMT", BAD);
        date("Tueday, 06-Nov-94 08:49:37 GMT", BAD);
        date("day, 06-Nov-94 08:49:37 GMT", BAD);
    }

    private static void edges() {
        date("Thu, 01 Jan 1970 00:00:00 GMT", 0);
        date("Thu, 31 Dec 2099 23:59:59 GMT", 4102444799L);
        date("Thu Jan  1 00:00:00 1970", 0);
        date("Thu Dec 31 23:59:59 2099", 4102444799L);
        date("Wed, 31 Dec 1969 23:59:59 GMT", BAD);
        date("Fri, 01 Jan 2100 00:00:00 GMT", BAD);
        date("Fri Jan  1 00:00:00 2100", BAD);
        date("Tue, 29 Feb 2000 00:00:00 GMT", 951782400L);
        date("Tue, 29 Feb 1999 00:00:00 GMT", BAD);
        date("Tuesday, 29-Feb-00 00:00:00 GMT", 951782400L);
        date("Tuesday, 29-Feb-99 00:00:00 GMT", BAD);
        date("Sun, 00 Nov 1994 08:49:37 GMT", BAD);
        date("Sun Nov  0 08:49:37 1994", BAD);
        date("Sun, 06 Nov 1994 24:00:00 GMT", BAD);
        date("Sun, 06 Nov 1994 23:60:00 GMT", BAD);
        date("Sun, 06 Nov 1994 23:59:60 GMT", BAD);
        date("Sun, 31 Nov 1994 08:49:37 GMT", BAD);
    }

    private static void malformed() {
        String[] texts = {
            "", " ", "Sun", "Sun,", "Su", "Sun, 6 Nov 1994 08:49:37 GMT", "Sun,  6 Nov 1994 08:49:37 GMT", "Sun,06 Nov 1994 08:49:37 GMT",
            "Sun,\t06 Nov 1994 08:49:37 GMT", "Sun, 06 nov 1994 08:49:37 GMT", "Sun, 06 NOV 1994 08:49:37 GMT",
            "Sun, 06  Nov 1994 08:49:37 GMT", "Sun, 06 Nov 94 08:49:37 GMT", "Sun, 06 Nov 19940 08:49:37 GMT",
            "Sun, 06 Nov 1994 8:49:37 GMT", "Sun, 06 Nov 1994 08:49 GMT", "Sun, 06 Nov 1994 08:49:37", "Sun, 06 Nov 1994 08:49:37 gmt",
            "Sun, 06 Nov 1994 08:49:37 UTC", "Sun, 06 Nov 1994 08:49:37 GMT x", "Sun, 06 Nov 1994 08:49:37GMT",
            "Sun, 06 Nov 1994 08-49-37 GMT", "Sun, 06-Nov-1994 08:49:37 GMT", "Sunday, 06-Nov-1994 08:49:37 GMT",
            "Sunday, 6-Nov-94 08:49:37 GMT", "Sunday, 06 Nov 94 08:49:37 GMT", "Sunday 06-Nov-94 08:49:37 GMT",
            "Sunday, 06-Nov-94 08:49:37", "Sun Nov 06 08:49:37 1994", "Sun Nov 09 08:49:37 1994", "Sun Nov 6 08:49:37 1994", "Sun Nov  16 08:49:37 1994",
            "Sun Nov  6 08:49:37 94", "Sun Nov  6 08:49:37 1994 GMT", "Sun Nov\t 6 08:49:37 1994", "Sun  Nov  6 08:49:37 1994",
            "784111777", "\"v42\"", "Xyz, 06 Nov 1994 08:49:37 GMT", "Sun, 06 Xyz 1994 08:49:37 GMT", "unM, 06 Nov 1994 08:49:37 GMT",
            "Sun, 06 anF 1994 08:49:37 GMT", "Sun, 0a Nov 1994 08:49:37 GMT", "Sun, 06 Nov 1994 08:49:3 GMT", "Sun Nov   08:49:37 1994",
            ",Sun, 06 Nov 1994 08:49:37 GMT", "Sun, 06 Nov 1994 08:49:37 GMT,"
        };
        for (String text : texts) {
            date(text, BAD);
        }
    }

    /** The characters beside the digits, in every place of one. */
    private static void digitsOnly() {
        String[] texts = {"Sun, 11 Nov 1991 11:11:11 GMT", "Sunday, 11-Nov-91 11:11:11 GMT", "Sun Nov 11 11:11:11 1991", "Sun Nov  1 11:11:11 1991"};
        for (String text : texts) {
            for (int i = 0; i < text.length(); i++) {
                if (text.charAt(i) >= '0' && text.charAt(i) <= '9') {
                    date(text.substring(0, i) + "/" + text.substring(i + 1), BAD);
                    date(text.substring(0, i) + ":" + text.substring(i + 1), BAD);
                }
            }
        }
    }

    private static void fields() {
        OriginDesk desk = new OriginDesk(Desk.NOW);
        for (int field = 0; field < 8; field++) {
            Desk.feed(desk, field, "Sun Nov  6 08:49:37 1994");
        }
        for (int field = -1; field <= 8; field++) {
            Desk.due("date(" + field + ")", desk.date(field), field >= 4 && field <= 6 ? 784111777L : BAD);
        }
        Desk.ask(desk, 0, Desk.IF_RANGE, "\"a\"");
        Desk.due("a tag is no date", desk.date(Desk.IF_RANGE), BAD);
        Desk.ask(desk, 0, Desk.MODIFIED, "Sun Nov  6 08:49:37 199");
        Desk.due("not yet", desk.date(Desk.MODIFIED), BAD);
        Desk.feed(desk, Desk.MODIFIED, "4");
        Desk.due("now", desk.date(Desk.MODIFIED), 784111777L);
    }

    private static void date(String text, long want) {
        OriginDesk desk = new OriginDesk(Desk.NOW);
        for (int field = Desk.MODIFIED; field <= Desk.IF_RANGE; field++) {
            Desk.feed(desk, field, text);
            Desk.due("date(" + field + ") of <" + text + ">", desk.date(field), want);
        }
        Desk.due("formed(4) of <" + text + ">", desk.formed(Desk.MODIFIED), want != BAD);
        Desk.due("formed(5) of <" + text + ">", desk.formed(Desk.UNMODIFIED), want != BAD);
    }
}
