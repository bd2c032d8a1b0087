/** Promises 14 and 15 for field 0, and the weight. */
public final class AcceptTest {
    private static final int[] TYPES = {0, 1, 2, 3, 4, 5};

    public static void main(String[] args) {
        formedTexts();
        malformedTexts();
        weights();
        typesMatch();
        parametersMatch();
        mostSpecificCounts();
        absentOrMalformedIsFull();
        Desk.end();
    }

    private static void formedTexts() {
        String[] texts = {
            "text/html", " \ttext/html\t ", "*/*", "text/*", ",text/html", "text/html,", ", ,\t,a/b, ,c/d,,",
            "a/b;c=d", "a/b ;\tc=d", "a/b\t; c=d;e=f ; q=1", "a/b;c=\"\"", "a/b;c=\"x,y;z\"", "a/b;c=\"\\\"\\\\\"",
            "a/b;c=\"\t \u0080\u00ff\"", "a/b;*=*", "a/b;qq=1", "a/b;c=q", "!#$%&'+-.^_|~`/09azAZ", "*/*;a=b;q=0",
            "a/b;c=d;q=0.5 , */*", "a/b;q=1", "a/b;c=\"\\\t\"", "a/b;c=\"\\a\""
        };
        for (String text : texts) {
            Desk.formed(Desk.ACCEPT, text, true);
        }
    }

    private static void malformedTexts() {
        String[] texts = {
            "", " ", ",", " , ,", "text", "text/", "/html", "text /html", "text/ html", "*", "*/html", "**/*", "*/**",
            "te*t/html", "text/h*", "text/**", "text/*l", "text/html text/plain", "text/html;", "text/html;;a=b",
            "text/html;level", "text/html;level=", "text/html;=1", "text/html;level =1", "text/html;level= 1",
            "text/html;q=0.5;level=1", "text/html;q=1;q=1", "text/html;q=\"1\"", "text/html;q=a", "text/html/xml",
            "a/b;c=\"", "a/b;c=\"x", "a/b;c=\"\\\"", "a/b;c=\"\\", "a/b;c=\"\u007f\"", "a/b;c=\"\u001f\"", "a/b;c=\"\\\u007f\"",
            "a/b;c=\"\n\"", "a/b;c=\"x\"y", "a/b;c=\"x\" \"y\"", "a/b;c=x\"y\"", "a/b\u00e4", "a@/b", "a/b:c", "a/b,c",
            "a/b\n", "\u0001a/b", "a/b;c=d e", "a(/b", "a/[b", "a/{b}", "a/b;c\\=d"
        };
        for (String text : texts) {
            Desk.formed(Desk.ACCEPT, text, false);
        }
    }

    private static void weights() {
        String[] texts = {
            "q=0", "q=1", "Q=0", "q=0.", "q=1.", "q=0.5", "q=0.25", "q=0.125", "q=0.001", "q=1.0", "q=1.00", "q=1.000", "Q=0.999",
            "q=0.010"
        };
        int[] thousandths = {0, 1000, 0, 0, 1000, 500, 250, 125, 1, 1000, 1000, 1000, 999, 10};
        for (int i = 0; i < texts.length; i++) {
            Desk.typeQuality(0, "text/html;" + texts[i], thousandths[i]);
            Desk.typeQuality(0, "text/html \t; \t" + texts[i] + " ,a/b", thousandths[i]);
            Desk.formed(Desk.ACCEPT, "text/html;" + texts[i], true);
            Desk.formed(Desk.LANGUAGES, "en;" + texts[i], true);
        }
        String[] wrong = {
            "q", "q=", "q=2", "q=00", "q=01", "q=10", "q=.5", "q=0.1234", "q=1.001", "q=1.1", "q=1.0000", "q=0,5", "q =1", "q= 1",
            "q=-0", "q=0.5.", "q=0.a", "q=1a", "q=0 .5", "qq"
        };
        for (String text : wrong) {
            Desk.formed(Desk.ACCEPT, "text/html;" + text, false);
            Desk.formed(Desk.LANGUAGES, "en;" + text, false);
        }
    }

    private static void typesMatch() {
        String[] ranges = {"text/html", "text/plain", "application/json", "image/png", "text/html;level=1", "image/svg+xml"};
        for (int type : TYPES) {
            for (int range = 0; range < ranges.length; range++) {
                boolean fits = type == range || (type == 4 && range == 0);
                Desk.typeQuality(type, ranges[range], fits ? 1000 : 0);
                Desk.typeQuality(type, ranges[range].toUpperCase(), fits ? 1000 : 0);
            }
            Desk.typeQuality(type, "*/*;q=0.3", 300);
            Desk.typeQuality(type, "text/*", type == 0 || type == 1 || type == 4 ? 1000 : 0);
            Desk.typeQuality(type, "IMAGE/*", type == 3 || type == 5 ? 1000 : 0);
            Desk.typeQuality(type, "application/*", type == 2 ? 1000 : 0);
            Desk.typeQuality(type, "htm/html, text/htm, text/htmll, image/svg", 0);
        }
    }

    private static void parametersMatch() {
        Desk.typeQuality(4, "text/html;LEVEL=1", 1000);
        Desk.typeQuality(4, "text/html;level=\"1\"", 1000);
        Desk.typeQuality(4, "text/html;level=\"\\1\"", 1000);
        Desk.typeQuality(4, "text/html;level=2", 0);
        Desk.typeQuality(4, "text/html;level=11", 0);
        Desk.typeQuality(4, "text/html;level=\"\"", 0);
        Desk.typeQuality(4, "text/html;level=\"1 \"", 0);
        Desk.typeQuality(4, "text/html;level=\"\\\\1\"", 0);
        Desk.typeQuality(4, "text/html;levels=1", 0);
        Desk.typeQuality(4, "text/html;level=1;charset=x", 0);
        Desk.typeQuality(4, "text/html;charset=x;level=1", 0);
        Desk.typeQuality(4, "text/html;level=1;level=1", 1000);
        Desk.typeQuality(4, "text/*;level=1", 1000);
        Desk.typeQuality(4, "*/*;level=1", 1000);
        Desk.typeQuality(0, "*/*;level=1", 0);
        Desk.typeQuality(0, "text/html;level=1", 0);
        Desk.typeQuality(1, "text/plain;level=1", 0);
    }

    private static void mostSpecificCounts() {
        Desk.typeQuality(0, "*/*;q=0.1, text/*;q=0.2, text/html;q=0.3, text/html;level=1;q=0.4", 300);
        Desk.typeQuality(4, "*/*;q=0.1, text/*;q=0.2, text/html;q=0.3, text/html;level=1;q=0.4", 400);
        Desk.typeQuality(1, "text/html;q=0.3, text/*;q=0.2, */*;q=0.1", 200);
        Desk.typeQuality(2, "text/html;q=0.3, text/*;q=0.2, */*;q=0.1", 100);
        Desk.typeQuality(0, "text/html;q=0.3, TEXT/HTML;q=0.9", 300);
        Desk.typeQuality(0, "text/html;q=0, */*", 0);
        Desk.typeQuality(4, "text/*;q=0.6, */*;level=1;q=0.7", 600);
        Desk.typeQuality(4, "*/*;level=1;q=0.7, text/*;q=0.6", 700);
        Desk.typeQuality(4, "text/html;q=0.6, text/*;level=1;q=0.7", 600);
        Desk.typeQuality(4, "text/*;level=1;level=1;q=0.7, text/html;q=0.6, text/html;level=1;q=0.5", 700);
        Desk.typeQuality(4, "text/html;level=1;q=0.5, */*;level=1;level=1;level=1;level=1;q=0.8", 800);
    }

    private static void absentOrMalformedIsFull() {
        Desk.typeQuality(0, "", 1000);
        Desk.typeQuality(0, "text/plain, text", 1000);
        Desk.typeQuality(0, "text/html;q=0.5;a=b", 1000);
        Desk.typeQuality(0, "image/png, a/b", 0);
    }
}
