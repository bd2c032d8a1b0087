/** Promises 1 to 3: a new object, add and clear. */
public final class RepresentationsTest {
    private static final int BAD = OriginDesk.BAD;

    public static void main(String[] args) {
        newObjectHasNothing();
        nowIsReadWithoutSign();
        addCountsUpToFour();
        addLooksAtBounds();
        addKeepsWhatItIsTold();
        clearTakesAllAway();
        objectsAreApart();
        Desk.end();
    }

    private static void newObjectHasNothing() {
        OriginDesk desk = new OriginDesk(Desk.NOW);
        Desk.due("new status", desk.status(), BAD);
        Desk.due("new chosen", desk.chosen(), BAD);
        Desk.due("new length", desk.length(), 0);
        Desk.due("new body(0)", desk.body(0), BAD);
        Desk.due("new parts", desk.parts(), 0);
        Desk.due("new first(0)", desk.first(0), BAD);
        Desk.due("new last(0)", desk.last(0), BAD);
        Desk.due("new score(0)", desk.score(0), BAD);
        for (int field = -1; field <= 8; field++) {
            Desk.due("new formed(" + field + ")", desk.formed(field), false);
            Desk.due("new date(" + field + ")", desk.date(field), BAD);
        }
        for (int field = 0; field < 8; field++) {
            Desk.due("new text of " + field, desk.feed(field, 0), 0);
        }
        Desk.due("new, no representations", desk.respond(), 404);
        desk.add(0, 0, 5, 0, false, 0);
        Desk.due("new method is GET", desk.respond(), 200);
        Desk.due("new method is GET, body", desk.body(0), 1);
    }

    /** Of NOW only the year is seen, where a year of two digits is read. */
    private static void nowIsReadWithoutSign() {
        shortYear(0, "20", 1577836800L);
        shortYear(0, "21", BAD);
        shortYear(31535999, "21", BAD);
        shortYear(31536000, "21", 1609459200L);
        shortYear(2147483647, "88", 3723753600L);
        shortYear(2147483647, "89", 599616000L);
        shortYear(-2147483648, "88", 3723753600L);
        shortYear((int) 4070908799L, "99", 4070908800L);
        shortYear((int) 4102444799L, "99", 4070908800L);
        shortYear((int) 4102444800L, "99", 915148800L);
        shortYear((int) 4102444800L, "21", BAD);
        shortYear(-1, "20", 1577836800L);
        shortYear(-1, "21", BAD);
    }

    private static void shortYear(int now, String year, long want) {
        OriginDesk desk = new OriginDesk(now);
        Desk.feed(desk, Desk.MODIFIED, "Monday, 01-Jan-" + year + " 00:00:00 GMT");
        Desk.due("year " + year + " at " + now, desk.date(Desk.MODIFIED), want);
    }

    private static void addCountsUpToFour() {
        OriginDesk desk = new OriginDesk(Desk.NOW);
        for (int n = 0; n < 4; n++) {
            Desk.due("add number " + n, desk.add(n, n, n, n, false, n), n);
        }
        Desk.due("add a fifth", desk.add(0, 0, 0, 0, false, 0), BAD);
        Desk.due("score of the fourth", desk.score(3), 1000000);
        Desk.due("score of a fifth", desk.score(4), BAD);
    }

    private static void addLooksAtBounds() {
        OriginDesk desk = new OriginDesk(Desk.NOW);
        Desk.due("type -1", desk.add(-1, 0, 0, 0, false, 0), BAD);
        Desk.due("type 6", desk.add(6, 0, 0, 0, false, 0), BAD);
        Desk.due("language -1", desk.add(0, -1, 0, 0, false, 0), BAD);
        Desk.due("language 6", desk.add(0, 6, 0, 0, false, 0), BAD);
        Desk.due("length -1", desk.add(0, 0, -1, 0, false, 0), BAD);
        Desk.due("length 100001", desk.add(0, 0, 100001, 0, false, 0), BAD);
        Desk.due("tag -1", desk.add(0, 0, 0, -1, false, 0), BAD);
        Desk.due("tag 10000", desk.add(0, 0, 0, 10000, false, 0), BAD);
        Desk.due("change -1", desk.add(0, 0, 0, 0, false, -1), BAD);
        Desk.due("change 4102444800", desk.add(0, 0, 0, 0, false, 4102444800L), BAD);
        Desk.due("change, far", desk.add(0, 0, 0, 0, false, Long.MAX_VALUE), BAD);
        Desk.due("change, whose int is 0", desk.add(0, 0, 0, 0, false, 1L << 32), BAD);
        Desk.due("type, far", desk.add(Integer.MIN_VALUE, 0, 0, 0, false, 0), BAD);
        Desk.due("nothing was added", desk.respond(), 404);
        Desk.due("greatest", desk.add(5, 5, 100000, 9999, true, 4102444799L), 0);
        Desk.due("least", desk.add(0, 0, 0, 0, false, 0), 1);
    }

    private static void addKeepsWhatItIsTold() {
        OriginDesk desk = new OriginDesk(Desk.NOW);
        desk.add(5, 5, 100000, 9999, false, 4102444799L);
        Desk.due("its type", Desk.get(desk, Desk.ACCEPT, "image/svg+xml"), 200);
        Desk.due("its length", desk.length(), 100000);
        Desk.due("its last byte", desk.body(99999), (7 * 99999 + 1) % 251);
        Desk.due("its tag", Desk.get(desk, Desk.MATCH, "\"v9999\""), 200);
        Desk.due("its change", Desk.get(desk, Desk.MODIFIED, "Thu, 31 Dec 2099 23:59:59 GMT"), 304);
        Desk.due("before its change", Desk.get(desk, Desk.UNMODIFIED, "Thu, 31 Dec 2099 23:59:58 GMT"), 412);
        desk.clear();
        desk.add(5, 5, 7, 0, true, 0);
        Desk.due("weak", Desk.get(desk, Desk.MATCH, "\"v0\""), 412);
    }

    private static void clearTakesAllAway() {
        OriginDesk desk = new OriginDesk(Desk.NOW);
        desk.add(0, 0, 10, 1, false, 0);
        desk.add(1, 0, 20, 2, false, 0);
        Desk.feed(desk, Desk.ACCEPT, "text/plain");
        desk.clear();
        Desk.due("cleared score", desk.score(0), BAD);
        Desk.due("cleared respond", desk.respond(), 404);
        Desk.due("first number again", desk.add(1, 0, 30, 3, false, 0), 0);
        Desk.due("the request stays", desk.formed(Desk.ACCEPT), true);
        Desk.due("respond again", desk.respond(), 200);
        Desk.due("length again", desk.length(), 30);
        Desk.due("no second one", desk.score(1), BAD);
        for (int n = 1; n < 4; n++) {
            Desk.due("room again", desk.add(0, 0, 0, 0, false, 0), n);
        }
        Desk.due("full again", desk.add(0, 0, 0, 0, false, 0), BAD);
    }

    private static void objectsAreApart() {
        OriginDesk one = new OriginDesk(Desk.NOW);
        OriginDesk other = new OriginDesk(0);
        one.add(0, 0, 10, 1, false, 0);
        Desk.feed(one, Desk.ACCEPT, "text/html");
        one.respond();
        Desk.due("the other's representations", other.score(0), BAD);
        Desk.due("the other's text", other.feed(Desk.ACCEPT, 0), 0);
        Desk.due("the other's response", other.status(), BAD);
    }
}
