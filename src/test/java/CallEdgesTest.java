/** The edges that the document's promises name, sentence by sentence: wrong arguments, refused calls, empty and full. */
public final class CallEdgesTest {
    private static final int[] FAR = {Integer.MIN_VALUE, Integer.MIN_VALUE + 1, -65536, -1001, -1000, -2, 65536, 1 << 30,
        Integer.MAX_VALUE - 1, Integer.MAX_VALUE};
    private static final String REPORT = "METAR EDDM 021320Z 24015KT 3000 RA SN BKN012 M02/M05 Q0998";
    private static final String FORECAST = "TAF LFPG 150500Z 1506/1518 VRB03G04KT 5000 RA BKN020 TEMPO 1508/1510 0100 VV001";
    private static final int DAY = 14 * 1440;
    private static final int BEGIN = DAY + 360;
    private static final int END = DAY + 1080;
    private static final String HEAD = "TAF LFPG 150500Z 1506/1518 24010KT 5000 RA BKN020 ";
    /** 700 characters that stand, no blank too many. */
    private static final String FULL = full();
    private static final Due due = new Due();

    public static void main(String[] args) {
        calls();
        newObject();
        typing();
        typingOrder();
        typingWrongCounts();
        typingWrongCharacters();
        typingTooMuch();
        readingTakesThePlace();
        readingEmpties();
        readingPlaces();
        readingTooEarly();
        readingRefused();
        readingWrongDays();
        told();
        toldNone();
        groupKinds();
        groupParts();
        groupNone();
        weather();
        cloud();
        from();
        active();
        activeOne();
        least();
        ceiling();
        ceilingNone();
        next();
        nextNone();
        print();
        printFull();
        character();
        check();
        askingChangesNothing();
        due.end("CallEdgesTest");
    }

    private static String full() {
        String most = "VRB10G20KT 9999 VCTSRASNGR VCTSRASNGR VCTSRASNGR FEW001TCU FEW001TCU FEW001TCU FEW001TCU";
        StringBuilder text = new StringBuilder("TAF LFPG 301100Z 3012/3118 ").append(most);
        for (int i = 0; i < 5; i++) {
            text.append(" PROB30 TEMPO 3015/3016 ").append(most);
        }
        return text.append(" BECMG 3015/3016 9999 NSC").toString();
    }

    private static String blanks(int count) {
        return " ".repeat(count);
    }

    private static void calls() {
        due.sentence("An object is used for at most 512 calls after it has been made");
        Sky x = new Sky();
        due.is("a refused text", x.readText("TAF", 31), 4);
        while (x.left() > 60) {
            due.is("read() of a report", x.readText(REPORT, 31), 0);
            due.is("check() with " + x.left() + " calls left", x.check(), 1);
            due.is("read() of a forecast", x.readText(FORECAST, 31), 0);
            due.is("print() with " + x.left() + " calls left", x.print(), FORECAST.length());
        }
        while (x.left() > 3) {
            due.is("least(DAY + 480)", x.least(DAY + 480), 100);
        }
        due.is("the 510th call: check()", x.check(), 1);
        due.is("the 511th call: print()", x.print(), FORECAST.length());
        due.is("the 512th call: character(0)", x.character(0), 'T');
        due.is("calls left", x.left(), 0);
    }

    private static void newObject() {
        due.sentence("`SkyBulletin()`: No text read.");
        Sky x = new Sky();
        due.is("told(0)", x.told(0), 0);
        due.is("told(1)", x.told(1), 0);
        for (int what = 2; what < 10; what++) {
            due.is("told(" + what + ")", x.told(what), -1001);
        }
        for (int what = 0; what < 10; what++) {
            due.is("group(0, " + what + ")", x.group(0, what), -1);
        }
        due.is("weather(0, 0)", x.weather(0, 0), -1);
        due.is("cloud(0, 0)", x.cloud(0, 0), -1);
        noneAt(x, -1);
        noneAt(x, 0);
        noneAt(x, 1);
        due.is("character(0)", x.character(0), -1);
        due.is("check()", x.check(), 1);
        due.is("print()", x.print(), 0);
        due.is("character(0) of an empty print", x.character(0), -1);
        due.is("an empty text is typed", x.type('M', 1), 1);
        due.is("check() changes nothing of it", x.check(), 1);
        due.is("read(31)", x.read(31), 1);
    }

    private static void noneAt(Sky x, int minute) {
        for (int what = 0; what < 4; what++) {
            due.is("from(" + minute + ", " + what + ")", x.from(minute, what), -1);
        }
        due.is("active(" + minute + ")", x.active(minute), -1);
        due.is("activeOne(" + minute + ", 0)", x.activeOne(minute, 0), -1);
        due.is("least(" + minute + ")", x.least(minute), -1);
        due.is("ceiling(" + minute + ", 0)", x.ceiling(minute, 0), -1);
        due.is("ceiling(" + minute + ", 1)", x.ceiling(minute, 1), -1);
        due.is("next(" + minute + ")", x.next(minute), -1);
    }

    private static void typing() {
        due.sentence("Puts n characters behind the text that is typed: how long it is.");
        Sky x = new Sky();
        int length = 0;
        for (int n = 1; n <= 8; n++) {
            length += n;
            due.is("type(.., " + n + ")", x.type(Sky.packed("ABCDEFGH".substring(0, n)), n), length);
        }
        due.is("read(31)", x.read(31), 1);
        due.is("type() into an empty text", x.type('A', 1), 1);
    }

    private static void typingOrder() {
        due.sentence("the lowest n bytes of a number, the highest of them first");
        for (int size = 1; size <= 8; size++) {
            Sky x = new Sky();
            due.is("put() in pieces of " + size, x.put(REPORT, size), REPORT.length());
            due.is("read(31)", x.read(31), 0);
            due.is("printed", x.printed(), REPORT);
        }
        for (int n = 1; n < 8; n++) {
            long low = (1L << (8 * n)) - 1;
            for (long bytes : new long[] {-1L, 0x0101010101010101L, 0x7f00000000000000L, Long.MIN_VALUE}) {
                higherBytes(n, bytes & ~low);
            }
        }
    }

    private static void higherBytes(int n, long higher) {
        Sky x = new Sky();
        String piece = "METAR  ".substring(0, n);
        due.is("type() with higher bytes", x.type(higher | Sky.packed(piece), n), n);
        due.is("read(31)", x.read(31), n < 5 ? 1 : n + 1);
    }

    private static void typingWrongCounts() {
        due.sentence("NONE, and nothing is put, when n is not 1 .. 8");
        Sky x = new Sky();
        due.is("type(.., 8)", x.type(Sky.packed("METAR ED"), 8), 8);
        for (int n : new int[] {-1, 0, 9, 10, 16, -8, 8 - 64, 8 + 256}) {
            due.is("type(.., " + n + ")", x.type(Sky.packed("AAAAAAAA"), n), -1);
        }
        for (int n : FAR) {
            due.is("type(.., " + n + ")", x.type(Sky.packed("AAAAAAAA"), n), -1);
        }
        due.is("type(.., 1)", x.type('D', 1), 9);
        due.is("the rest", x.readText("M 021320Z 24015KT CAVOK M02/M05 Q0998", 31), 0);
        due.is("printed", x.printed(), "METAR EDDM 021320Z 24015KT CAVOK M02/M05 Q0998");
    }

    private static void typingWrongCharacters() {
        due.sentence("NONE, and nothing is put, when one is not 32 .. 126");
        Sky x = new Sky();
        int length = 0;
        for (int n = 1; n <= 8; n++) {
            for (int i = 0; i < n; i++) {
                for (int wrong : new int[] {0, 31, 127, 128, 255}) {
                    due.is("type() of " + wrong, x.type(withByte(i, wrong), n), -1);
                }
                for (int right : new int[] {32, 126}) {
                    length += n;
                    due.is("type() of " + right, x.type(withByte(i, right), n), length);
                }
            }
        }
        Sky y = new Sky();
        int count = 0;
        for (int one = 0; one < 256; one++) {
            boolean right = one >= 32 && one <= 126;
            count += right ? 1 : 0;
            due.is("type(" + one + ", 1)", y.type(one, 1), right ? count : -1);
        }
        due.is("95 characters were put, a blank first", y.read(31), 2);
        Sky z = new Sky();
        due.is("type()", z.put("TAF LFPG"), 8);
        due.is("type() of a wrong one", z.type(Sky.packed("XXXX\u007f"), 5), -1);
        due.is("type() of a wrong one", z.type(Sky.packed("\u001fXXXX"), 5), -1);
        due.is("type()", z.put(" 301100Z 3012/3118 24010KT CAVOK"), 40);
        due.is("read(31)", z.read(31), 0);
    }

    private static long withByte(int index, int one) {
        long letters = Sky.packed("AAAAAAAA") & ~(255L << (8 * index));
        return letters | (long) one << (8 * index);
    }

    private static void typingTooMuch() {
        due.sentence("NONE, and nothing is put, when there would be more than 700.");
        Sky x = new Sky();
        due.is("692", x.put(blanks(692)), 692);
        due.is("693", x.type(32, 1), 693);
        due.is("693 and 8", x.type(Sky.packed("AAAAAAAA"), 8), -1);
        due.is("700", x.type(Sky.packed("AAAAAAA"), 7), 700);
        for (int n = 1; n <= 8; n++) {
            due.is("type(.., " + n + ") of 700", x.type(Sky.packed("AAAAAAAA"), n), -1);
        }
        due.is("nothing was put", x.read(31), 694);
        due.is("empty then", x.type(32, 1), 1);
        for (int n = 2; n <= 8; n++) {
            Sky y = new Sky();
            due.is("how many", y.put(FULL.substring(0, 701 - n)), 701 - n);
            due.is("one too many", y.type(Sky.packed(FULL.substring(700 - n)), n), -1);
            due.is("as many as can be", y.put(FULL.substring(701 - n)), 700);
            due.is("read(31)", y.read(31), 0);
        }
    }

    private static void readingTakesThePlace() {
        due.sentence("Reads the typed text for a month of so many days: 0, and it takes the place of the one read before;");
        String[] texts = {REPORT, FORECAST, "METAR AAAA 010000Z VRB00KT CAVOK 00/00 Q0000", HEAD + "BECMG 1508/1510 NSW",
            HEAD + "BECMG 1506/1507 NSW TEMPO 1508/1509 NSW", "TAF ZZZZ 010000Z 0100/0101 00000KT 0000 VV000",
            "TAF LFPG 150500Z 1506/1518 24010KT 5000 FEW001",
            "TAF LFPG 150500Z 1506/1518 24010KT 5000 BKN001 BKN002 BKN003 BKN004 PROB30 1506/1510 1000 VV000 "
                + "FM150700 VRB01KT 2000 OVC000 BECMG 1506/1507 3000 DZ RA SN TEMPO 1507/1509 0001"};
        int[] minutes = {0, 59, BEGIN, DAY + 480};
        for (String before : texts) {
            for (String text : texts) {
                Sky x = due.having(before, 31);
                due.is("read(31) of '" + text + "'", x.readText(text, 31), 0);
                due.is("all of '" + text + "'", x.sight(minutes), due.having(text, 31).sight(minutes));
                due.is("print()", x.print(), text.length());
                usedAgain(before, text, minutes);
            }
        }
        for (int days = 28; days <= 31; days++) {
            due.stands("METAR AAAA " + days + "0000Z VRB00KT CAVOK 00/00 Q0000", days);
        }
    }

    /** An object may use the rows of a text that is not kept any more for the next but one. */
    private static void usedAgain(String before, String text, int[] minutes) {
        Sky x = due.having(before, 31);
        due.is("read(31) of '" + before + "' again", x.readText(before, 31), 0);
        due.is("read(31) of '" + before + "' again", x.readText(before, 31), 0);
        due.is("read(31) of '" + text + "'", x.readText(text, 31), 0);
        due.is("all of '" + text + "' behind three", x.sight(minutes), due.having(text, 31).sight(minutes));
    }

    private static void readingEmpties() {
        due.sentence("Reads the typed text, which is empty then");
        for (String text : new String[] {REPORT, FORECAST, "TAF", "XX", FORECAST + " XX", "", " "}) {
            Sky x = new Sky();
            x.readText(text, 31);
            due.is("read(31) again after '" + text + "'", x.read(31), 1);
            due.is("type() after it", x.type('A', 1), 1);
        }
        Sky x = new Sky();
        due.is("700 characters", x.put(FULL), 700);
        due.is("read(31)", x.read(31), 0);
        due.is("700 characters", x.put(FULL), 700);
        due.is("read(31)", x.read(31), 0);
    }

    private static void readingPlaces() {
        due.sentence("otherwise the place, counted from 1 on, of the first token that can't stand");
        due.refuses("^X", 31);
        due.refuses(" ^X", 31);
        due.refuses("METAR ^X Y Z", 31);
        due.refuses("METAR   ^X", 31);
        due.refuses("  METAR  EDDM   021320Z ^X", 31);
        due.refuses(REPORT + " ^X Y", 31);
        due.refuses(FORECAST + "    ^X", 31);
        due.refuses(blanks(699) + "^X", 31);
        due.refuses("^" + "X".repeat(700), 31);
        due.refuses("METAR" + blanks(694) + "^X", 31);
        due.refuses(REPORT + blanks(699 - REPORT.length()) + "^X", 31);
        due.refuses(REPORT + " ^" + "X".repeat(699 - REPORT.length()), 31);
        due.refuses(FULL.substring(0, 697) + "^NSX", 31);
    }

    private static void readingTooEarly() {
        due.sentence("(one more than how many characters were typed, if it ends too early)");
        due.endsTooEarly("", 31);
        for (String text : new String[] {REPORT, FORECAST}) {
            for (int i = text.indexOf(' '); i > 0; i = text.indexOf(' ', i + 1)) {
                String cut = text.substring(0, i);
                if (!cut.equals(HEAD.trim()) && !cut.endsWith("BKN020") && !cut.endsWith("0100")) {
                    due.endsTooEarly(cut, 31);
                    due.endsTooEarly(cut + " ", 31);
                    due.endsTooEarly(cut + "      ", 31);
                    due.endsTooEarly("  " + cut + "  ", 31);
                }
            }
        }
        due.endsTooEarly(blanks(700), 31);
        due.endsTooEarly("METAR" + blanks(695), 31);
        due.endsTooEarly(blanks(697) + "TAF", 31);
    }

    private static void readingRefused() {
        due.sentence("and all stays.");
        String[] wrong = {"", "X", "TAF", "METAR AAAA 010000Z 00000KT 0000 VV000", FORECAST + " X", REPORT + " X",
            HEAD + "FM151000 00000KT CAVOK FM151000 00000KT CAVOK",
            "TAF ZZZZ 010000Z 0100/0101 00000KT 0000 DZ VV000 TEMPO 0100/0102 NSW"};
        int[] minutes = {0, DAY + 480, DAY + 600};
        for (String text : wrong) {
            Sky nothing = new Sky();
            String before = nothing.sight(minutes);
            due.is("refused", nothing.readText(text, 31) > 0 ? 1 : 0, 1);
            due.is("all of nothing after '" + text + "'", nothing.sight(minutes), before);
            for (String kept : new String[] {REPORT, FORECAST}) {
                Sky x = due.having(kept, 31);
                due.is("print()", x.print(), kept.length());
                String whole = x.sight(minutes);
                due.is("refused", x.readText(text, 31) > 0 ? 1 : 0, 1);
                due.is("all of '" + kept + "' after '" + text + "'", x.sight(minutes), whole);
                due.is("check()", x.check(), 1);
                due.is("print()", x.print(), kept.length());
            }
        }
    }

    private static void readingWrongDays() {
        due.sentence("NONE, and all stays, the typed text too, when days is not 28 .. 31.");
        for (String kept : new String[] {"", REPORT, FORECAST}) {
            Sky x = kept.isEmpty() ? new Sky() : due.having(kept, 31);
            x.print();
            String before = x.sight(DAY + 480);
            due.is("type()", x.put("METAR AAAA 010000Z 00000KT CAVOK 00/00 Q000"), 43);
            for (int days : new int[] {27, 32, 0, 1, -1, 26, 33, 28 + 256, -28}) {
                due.is("read(" + days + ")", x.read(days), -1);
            }
            for (int days : FAR) {
                due.is("read(" + days + ")", x.read(days), -1);
            }
            due.is("all of '" + kept + "'", x.sight(DAY + 480), before);
            due.is("type() behind it", x.type('1', 1), 44);
            due.is("read(28)", x.read(28), 0);
            due.is("told(5)", x.told(5), 1);
        }
        Sky empty = new Sky();
        due.is("read(27) of an empty text", empty.read(27), -1);
        Sky full = new Sky();
        full.put(FULL);
        due.is("read(32) of a full text", full.read(32), -1);
        due.is("type() of a full text", full.type('A', 1), -1);
        due.is("read(31)", full.read(31), 0);
    }

    private static void told() {
        due.sentence("What was read: 0 nothing, 1 a report, 2 a forecast (what 0); how many groups (1); the issue's minute (2); "
                + "temperature (3), dew point (4), pressure (5) of a report; a letter of the station (6 to 9), "
                + "its character's number.");
        toldAll(new Sky(), 0, 0, -1001, -1001, -1001, -1001, -1001, -1001, -1001, -1001);
        toldAll(due.having(REPORT, 31), 1, 1, 1440 + 800, -2, -5, 998, 'E', 'D', 'D', 'M');
        toldAll(due.having("METAR ABYZ 010000Z VRB00KT CAVOK M01/M99 Q0000", 31), 1, 1, 0, -1, -99, 0, 'A', 'B', 'Y', 'Z');
        toldAll(due.having("METAR ZYBA 312359Z VRB00KT CAVOK 99/M00 Q9999", 31), 1, 1, 44639, 99, 0, 9999, 'Z', 'Y', 'B', 'A');
        toldAll(due.having(HEAD, 31), 2, 1, DAY + 300, -1001, -1001, -1001, 'L', 'F', 'P', 'G');
        toldAll(due.having(FORECAST, 31), 2, 2, DAY + 300, -1001, -1001, -1001, 'L', 'F', 'P', 'G');
        due.is("told(1) of the most", due.having(HEAD + "TEMPO 1508/1510 NSW ".repeat(8), 31).told(1), 9);
    }

    private static void toldAll(Sky x, int... wants) {
        for (int what = 0; what < 10; what++) {
            due.is("told(" + what + ")", x.told(what), wants[what]);
        }
    }

    private static void toldNone() {
        due.sentence("NONE - 1000, that is -1001, where there is none such.");
        for (Sky x : new Sky[] {new Sky(), due.having(REPORT, 31), due.having(FORECAST, 31)}) {
            for (int what : new int[] {-1, 10, 11, 12, 16, 256, 262}) {
                due.is("told(" + what + ")", x.told(what), -1001);
            }
            for (int what : FAR) {
                due.is("told(" + what + ")", x.told(what), -1001);
            }
        }
        Sky x = due.having(REPORT, 31);
        due.is("a forecast behind a report", x.readText(FORECAST, 31), 0);
        for (int what = 3; what <= 5; what++) {
            due.is("told(" + what + ") of a forecast", x.told(what), -1001);
        }
    }

    private static void groupAll(Sky x, int g, int... wants) {
        for (int what = 0; what < wants.length; what++) {
            due.is("group(" + g + ", " + what + ")", x.group(g, what), wants[what]);
        }
    }

    private static void groupKinds() {
        due.sentence("Of a group: 0 the first one, 1 FM, 2 BECMG, 3 TEMPO, 4 PROB, 5 PROB TEMPO (what 0); 30, 40, or 0 (1); "
                + "the minute from which (2) and to which (3; of FM the forecast's end);");
        Sky x = due.having(HEAD + "FM150601 24010KT CAVOK BECMG 1507/1509 NSW TEMPO 1508/1510 NSW PROB30 1509/1511 NSW "
                + "PROB40 1510/1512 NSW PROB30 TEMPO 1511/1513 NSW PROB40 TEMPO 1512/1514 NSW FM151759 24010KT CAVOK", 31);
        groupAll(x, 0, 0, 0, BEGIN, END);
        groupAll(x, 1, 1, 0, BEGIN + 1, END);
        groupAll(x, 2, 2, 0, DAY + 420, DAY + 540);
        groupAll(x, 3, 3, 0, DAY + 480, DAY + 600);
        groupAll(x, 4, 4, 30, DAY + 540, DAY + 660);
        groupAll(x, 5, 4, 40, DAY + 600, DAY + 720);
        groupAll(x, 6, 5, 30, DAY + 660, DAY + 780);
        groupAll(x, 7, 5, 40, DAY + 720, DAY + 840);
        groupAll(x, 8, 1, 0, END - 1, END);
    }

    private static void groupParts() {
        due.sentence("direction (4), speed (5), gusts (6; 0 for none), visibility (7), how many weather tokens (8) "
                + "and clouds (9) it tells.");
        Sky x = due.having("TAF LFPG 150500Z 1506/1518 36000KT 0000 VV000 FM150700 00098G99KT 9999 RA SN GR FEW001 FEW001 FEW001 "
                + "FEW001 TEMPO 1508/1510 VRB99KT TEMPO 1508/1510 VRB00G01KT 0001 TEMPO 1508/1510 DZ TEMPO 1508/1510 OVC999 OVC999 "
                + "TEMPO 1508/1510 9999 DZ RA BECMG 1508/1510 CAVOK", 31);
        groupAll(x, 0, 0, 0, BEGIN, END, 360, 0, 0, 0, 0, 1);
        groupAll(x, 1, 1, 0, DAY + 420, END, 0, 98, 99, 9999, 3, 4);
        int from = DAY + 480;
        int to = DAY + 600;
        groupAll(x, 2, 3, 0, from, to, -2, 99, 0, -1, -1, -1);
        groupAll(x, 3, 3, 0, from, to, -2, 0, 1, 1, -1, -1);
        groupAll(x, 4, 3, 0, from, to, -1, -1, -1, -1, 1, -1);
        groupAll(x, 5, 3, 0, from, to, -1, -1, -1, -1, -1, 2);
        groupAll(x, 6, 3, 0, from, to, -1, -1, -1, 9999, 2, -1);
        groupAll(x, 7, 2, 0, from, to, -1, -1, -1, 10000, 0, 0);
    }

    private static void groupNone() {
        due.sentence("NONE where it tells none; and for 2 and 3 of a report.");
        groupAll(due.having(REPORT, 31), 0, 0, 0, -1, -1, 240, 15, 0, 3000, 2, 1);
        Sky report = due.having(FORECAST, 31);
        due.is("a report behind a forecast", report.readText(REPORT, 31), 0);
        groupAll(report, 0, 0, 0, -1, -1, 240, 15, 0, 3000, 2, 1);
        groupAll(report, 1, -1, -1, -1, -1, -1, -1, -1, -1, -1, -1);
        for (Sky x : new Sky[] {new Sky(), report, due.having(FORECAST, 31), due.having(FULL, 31)}) {
            int count = x.told(1);
            groupAll(x, -1, -1, -1, -1, -1, -1, -1, -1, -1, -1, -1);
            for (int g = count; g < 12; g++) {
                groupAll(x, g, -1, -1, -1, -1, -1, -1, -1, -1, -1, -1);
                due.is("weather(" + g + ", 0)", x.weather(g, 0), -1);
                due.is("cloud(" + g + ", 0)", x.cloud(g, 0), -1);
            }
            for (int g : FAR) {
                due.is("group(" + g + ", 0)", x.group(g, 0), -1);
                due.is("group(" + g + ", 7)", x.group(g, 7), -1);
                due.is("group(0, " + g + ")", x.group(0, g), -1);
            }
            for (int what : new int[] {-1, 10, 11, 256}) {
                for (int g = 0; g <= count; g++) {
                    due.is("group(" + g + ", " + what + ")", x.group(g, what), -1);
                }
            }
        }
        Sky most = due.having(HEAD + "TEMPO 1508/1510 NSW ".repeat(8), 31);
        due.is("group(8, 0)", most.group(8, 0), 3);
        due.is("group(9, 0)", most.group(9, 0), -1);
        due.is("group(10, 0)", most.group(10, 0), -1);
    }

    private static void weather() {
        due.sentence("The number of weather k of a group; NONE when there is none such.");
        String[] tokens = {"NSW", "DZ", "DZ RA", "DZ RA SN"};
        for (int count = 0; count <= 3; count++) {
            Sky x = due.having(HEAD + "TEMPO 1508/1510 " + tokens[count], 31);
            for (int k = -1; k <= 4; k++) {
                due.is("weather(1, " + k + ") of " + tokens[count], x.weather(1, k), k >= 0 && k < count ? 64 * (k + 1) : -1);
                due.is("weather(2, " + k + ")", x.weather(2, k), -1);
                due.is("weather(-1, " + k + ")", x.weather(-1, k), -1);
            }
            for (int far : FAR) {
                due.is("weather(1, " + far + ")", x.weather(1, far), -1);
                due.is("weather(" + far + ", 0)", x.weather(far, 0), -1);
            }
        }
        Sky x = due.having(HEAD + "TEMPO 1508/1510 9999 NSC", 31);
        due.is("weather(0, 0)", x.weather(0, 0), 128);
        due.is("weather(0, 1)", x.weather(0, 1), -1);
        due.is("weather(1, 0), which is not told", x.weather(1, 0), -1);
        Sky again = due.having("METAR EDDM 021320Z 24015KT 3000 DZ RA SN NSC M02/M05 Q0998", 31);
        for (int i = 0; i < 2; i++) {
            due.is("a report with less weather", again.readText(REPORT, 31), 0);
            due.is("weather(0, 1)", again.weather(0, 1), 192);
            due.is("weather(0, 2), told before", again.weather(0, 2), -1);
        }
    }

    private static void cloud() {
        due.sentence("The number of cloud k of a group; NONE when there is none such.");
        String[] tokens = {"NSC", "FEW001", "FEW001 FEW002", "FEW001 FEW002 FEW003", "FEW001 FEW002 FEW003 FEW004"};
        for (int count = 0; count <= 4; count++) {
            Sky x = due.having(HEAD + "TEMPO 1508/1510 " + tokens[count], 31);
            for (int k = -1; k <= 5; k++) {
                due.is("cloud(1, " + k + ") of " + tokens[count], x.cloud(1, k), k >= 0 && k < count ? 1 + 8 * (k + 1) : -1);
                due.is("cloud(2, " + k + ")", x.cloud(2, k), -1);
                due.is("cloud(-1, " + k + ")", x.cloud(-1, k), -1);
            }
            for (int far : FAR) {
                due.is("cloud(1, " + far + ")", x.cloud(1, far), -1);
                due.is("cloud(" + far + ", 0)", x.cloud(far, 0), -1);
            }
        }
        Sky x = due.having(HEAD + "TEMPO 1508/1510 9999 NSW TEMPO 1508/1510 VV000", 31);
        due.is("cloud(0, 0)", x.cloud(0, 0), 163);
        due.is("cloud(0, 1)", x.cloud(0, 1), -1);
        due.is("cloud(1, 0), which is not told", x.cloud(1, 0), -1);
        due.is("cloud(2, 0)", x.cloud(2, 0), 5);
        due.is("cloud(2, 1)", x.cloud(2, 1), -1);
    }

    /** A forecast that has something to tell at its first and last minutes. */
    private static Sky wide() {
        return due.having(HEAD + "FM150601 VRB01KT 4000 OVC010 TEMPO 1506/1518 0100 VV001 FM151759 VRB01KT CAVOK", 31);
    }

    private static void noneOutside() {
        Sky x = wide();
        for (int minute : new int[] {BEGIN - 1, BEGIN - 60, END, END + 1, END + 31 * 1440, 0, -1, BEGIN - 65536}) {
            noneAt(x, minute);
        }
        Sky y = wide();
        for (int minute : FAR) {
            noneAt(y, minute);
        }
        for (int minute : new int[] {0, 2240, BEGIN, END - 1}) {
            noneAt(new Sky(), minute);
            noneAt(due.having(REPORT, 31), minute);
        }
        Sky report = wide();
        due.is("a report behind a forecast", report.readText(REPORT, 31), 0);
        noneAt(report, BEGIN);
    }

    private static void from() {
        due.sentence("Of wind and sky at a minute the group that tells wind (what 0), visibility (1), weather (2), clouds (3). "
                + "NONE when there is no forecast, the minute is not in its period (its end is not), or no such what.");
        noneOutside();
        Sky x = wide();
        for (int what = 0; what < 4; what++) {
            due.is("from(BEGIN, " + what + ")", x.from(BEGIN, what), 0);
            due.is("from(BEGIN + 1, " + what + ")", x.from(BEGIN + 1, what), 1);
            due.is("from(END - 2, " + what + ")", x.from(END - 2, what), 1);
            due.is("from(END - 1, " + what + ")", x.from(END - 1, what), 3);
        }
        for (int minute : new int[] {BEGIN, END - 1}) {
            for (int what : new int[] {-1, 4, 5}) {
                due.is("from(" + minute + ", " + what + ")", x.from(minute, what), -1);
            }
            for (int what : FAR) {
                due.is("from(" + minute + ", " + what + ")", x.from(minute, what), -1);
            }
        }
        Sky parts = due.having(HEAD + "BECMG 1506/1507 VRB01KT BECMG 1506/1507 9999 BECMG 1506/1507 NSW BECMG 1506/1507 NSC", 31);
        for (int what = 0; what < 4; what++) {
            due.is("from(.., " + what + ")", parts.from(DAY + 420, what), what + 1);
        }
    }

    private static void active() {
        due.sentence("How many groups are active at a minute; NONE likewise.");
        noneOutside();
        Sky x = due.having(HEAD + "TEMPO 1506/1507 NSW PROB30 1506/1507 NSW ".repeat(4), 31);
        due.is("active(BEGIN)", x.active(BEGIN), 8);
        due.is("active(BEGIN + 59)", x.active(BEGIN + 59), 8);
        due.is("active(BEGIN + 60)", x.active(BEGIN + 60), 0);
        due.is("active(END - 1)", x.active(END - 1), 0);
        due.is("active(BEGIN) without changes", due.having(HEAD, 31).active(BEGIN), 0);
        Sky y = due.having(HEAD + "PROB40 TEMPO 1517/1518 NSW FM151759 24010KT CAVOK BECMG 1517/1518 NSW", 31);
        due.is("active(END - 61)", y.active(END - 61), 0);
        due.is("active(END - 60)", y.active(END - 60), 1);
        due.is("active(END - 1)", y.active(END - 1), 1);
        due.is("active(END)", y.active(END), -1);
    }

    private static void activeOne() {
        due.sentence("The i-th group that is active at a minute, counted from 0; NONE when there is none such.");
        noneOutside();
        Sky x = due.having(HEAD + "TEMPO 1506/1507 NSW PROB30 1506/1507 NSW ".repeat(4), 31);
        for (int i = -2; i < 11; i++) {
            due.is("activeOne(BEGIN, " + i + ")", x.activeOne(BEGIN, i), i >= 0 && i < 8 ? i + 1 : -1);
            due.is("activeOne(BEGIN + 60, " + i + ")", x.activeOne(BEGIN + 60, i), -1);
            due.is("activeOne(BEGIN - 1, " + i + ")", x.activeOne(BEGIN - 1, i), -1);
            due.is("activeOne(END, " + i + ")", x.activeOne(END, i), -1);
        }
        for (int far : FAR) {
            due.is("activeOne(BEGIN, " + far + ")", x.activeOne(BEGIN, far), -1);
        }
        Sky y = due.having(HEAD + "BECMG 1506/1507 NSW TEMPO 1507/1508 NSW FM150600 24010KT CAVOK PROB30 1506/1507 NSW "
                + "PROB40 TEMPO 1506/1508 NSW", 31);
        int[][] wants = {{4, 5, -1}, {2, 5, -1}};
        for (int i = 0; i < 3; i++) {
            due.is("activeOne(BEGIN, " + i + ")", y.activeOne(BEGIN, i), wants[0][i]);
            due.is("activeOne(BEGIN + 60, " + i + ")", y.activeOne(BEGIN + 60, i), wants[1][i]);
        }
    }

    private static void least() {
        due.sentence("The least visibility at a minute: that of the sky then, or of an active group; NONE likewise.");
        noneOutside();
        String[] actives = {"0000", "4999", "5000", "5001", "9999", "CAVOK", "NSW", "24010KT", "NSC"};
        int[] wants = {0, 4999, 5000, 5000, 5000, 5000, 5000, 5000, 5000};
        for (int i = 0; i < actives.length; i++) {
            Sky x = due.having(HEAD + "TEMPO 1507/1508 " + actives[i], 31);
            due.is("least() before " + actives[i], x.least(DAY + 419), 5000);
            due.is("least() at first with " + actives[i], x.least(DAY + 420), wants[i]);
            due.is("least() at last with " + actives[i], x.least(DAY + 479), wants[i]);
            due.is("least() behind " + actives[i], x.least(DAY + 480), 5000);
        }
        Sky x = due.having(HEAD + "TEMPO 1506/1518 9999 PROB30 1506/1518 3000 PROB40 TEMPO 1506/1518 4000 BECMG 1506/1507 0001 "
                + "FM150800 24010KT 2000 NSC BECMG 1508/1509 CAVOK", 31);
        due.is("least(BEGIN)", x.least(BEGIN), 3000);
        due.is("least() from BECMG's end on", x.least(DAY + 420), 1);
        due.is("least() from FM on", x.least(DAY + 480), 2000);
        due.is("least() of the active ones", x.least(DAY + 540), 3000);
        due.is("least(END - 1)", x.least(END - 1), 3000);
        due.is("least() of CAVOK", due.having("TAF LFPG 150500Z 1506/1518 24010KT CAVOK", 31).least(BEGIN), 10000);
        due.is("least() of 0000", due.having("TAF LFPG 150500Z 1506/1518 24010KT 0000 NSC", 31).least(BEGIN), 0);
    }

    private static void ceiling() {
        due.sentence("The least digits of BKN, OVC or VV at a minute, in the sky then, or, with way 1, also in active groups; "
                + "-2 for none;");
        String[] skies = {"NSC", "FEW000", "SCT000CB", "BKN000", "OVC000", "VV000", "BKN999", "OVC999TCU", "VV999",
            "FEW001 SCT002 BKN003 OVC004", "FEW001 SCT002 OVC003 BKN004", "FEW001 SCT001 FEW001 BKN001"};
        int[] wants = {-2, -2, -2, 0, 0, 0, 999, 999, 999, 3, 3, 1};
        for (int i = 0; i < skies.length; i++) {
            Sky x = due.having("TAF LFPG 150500Z 1506/1518 24010KT 5000 " + skies[i] + " TEMPO 1507/1508 BKN500 "
                    + "TEMPO 1508/1509 NSC TEMPO 1509/1510 CAVOK TEMPO 1510/1511 NSW TEMPO 1511/1512 SCT000", 31);
            for (int hour = 6; hour < 13; hour++) {
                int active = wants[i] == -2 || wants[i] > 500 ? 500 : wants[i];
                due.is("ceiling(.., 0) of " + skies[i], x.ceiling(DAY + 60 * hour, 0), wants[i]);
                due.is("ceiling(.., 1) of " + skies[i], x.ceiling(DAY + 60 * hour, 1), hour == 7 ? active : wants[i]);
            }
            Sky y = due.having("TAF LFPG 150500Z 1506/1518 24010KT CAVOK TEMPO 1507/1508 " + skies[i], 31);
            due.is("ceiling(.., 1) before", y.ceiling(DAY + 419, 1), -2);
            due.is("ceiling(.., 0) of CAVOK", y.ceiling(DAY + 420, 0), -2);
            due.is("ceiling(.., 1) of an active " + skies[i], y.ceiling(DAY + 420, 1), wants[i]);
            due.is("ceiling(.., 1) at last", y.ceiling(DAY + 479, 1), wants[i]);
            due.is("ceiling(.., 1) behind", y.ceiling(DAY + 480, 1), -2);
        }
        Sky x = due.having(HEAD + "BECMG 1506/1507 OVC005 PROB30 1506/1518 VV010 PROB40 TEMPO 1506/1518 BKN007 BECMG 1507/1508 NSC", 31);
        int[][] ceilings = {{20, 7}, {5, 5}, {-2, 7}};
        for (int i = 0; i < 3; i++) {
            due.is("ceiling(.., 0)", x.ceiling(BEGIN + 60 * i, 0), ceilings[i][0]);
            due.is("ceiling(.., 1)", x.ceiling(BEGIN + 60 * i, 1), ceilings[i][1]);
        }
    }

    private static void ceilingNone() {
        due.sentence("NONE likewise, or when way is not 0 or 1.");
        noneOutside();
        Sky x = wide();
        for (int minute : new int[] {BEGIN, END - 1}) {
            for (int way : new int[] {-1, 2, 3}) {
                due.is("ceiling(" + minute + ", " + way + ")", x.ceiling(minute, way), -1);
            }
            for (int way : FAR) {
                due.is("ceiling(" + minute + ", " + way + ")", x.ceiling(minute, way), -1);
            }
            due.is("ceiling(" + minute + ", 1)", x.ceiling(minute, 1), 1);
        }
    }

    private static void turns(String changes, int... wants) {
        Sky x = due.having(HEAD + changes, 31);
        int minute = BEGIN;
        for (int want : wants) {
            due.is("next(" + minute + ") with " + changes, x.next(minute), want);
            due.is("next(" + (want - 1) + ") with " + changes, x.next(want - 1), want);
            minute = want;
        }
        due.is("next(" + minute + ") with " + changes, x.next(minute), -1);
        due.is("next(END - 1) with " + changes, x.next(END - 1), -1);
    }

    private static void next() {
        due.sentence("The next minute behind one, within the forecast's period, at which another group tells something, "
                + "or a group becomes active or not active any more;");
        turns("FM150601 24010KT 5000 RA BKN020", BEGIN + 1);
        turns("FM151759 24010KT CAVOK", END - 1);
        turns("FM150830 24010KT CAVOK FM150831 24010KT CAVOK", DAY + 510, DAY + 511);
        turns("BECMG 1508/1510 NSW", DAY + 600);
        turns("BECMG 1506/1507 24010KT BECMG 1506/1517 NSC", DAY + 420, DAY + 1020);
        turns("TEMPO 1508/1510 NSW", DAY + 480, DAY + 600);
        turns("PROB30 1506/1507 NSW", DAY + 420);
        turns("PROB40 TEMPO 1517/1518 NSW", DAY + 1020);
        turns("TEMPO 1507/1508 NSW TEMPO 1508/1509 NSW", DAY + 420, DAY + 480, DAY + 540);
        turns("TEMPO 1507/1509 NSW PROB30 1508/1510 NSW", DAY + 420, DAY + 480, DAY + 540, DAY + 600);
        turns("TEMPO 1510/1511 NSW TEMPO 1507/1508 NSW", DAY + 420, DAY + 480, DAY + 600, DAY + 660);
        turns("FM151200 24010KT CAVOK BECMG 1507/1508 9999 TEMPO 1509/1512 NSW", DAY + 480, DAY + 540, DAY + 720);
    }

    private static void nextNone() {
        due.sentence("NONE when there is none, or likewise.");
        noneOutside();
        turns("");
        turns("FM150600 24010KT CAVOK");
        turns("TEMPO 1506/1518 NSW");
        turns("BECMG 1506/1518 CAVOK");
        turns("BECMG 1517/1518 CAVOK");
        turns("BECMG 1506/1509 CAVOK FM150800 24010KT CAVOK", DAY + 480);
        turns("BECMG 1507/1509 NSW FM150859 24010KT CAVOK", DAY + 539);
        turns("FM150859 24010KT CAVOK BECMG 1509/1512 NSW", DAY + 539, DAY + 720);
        turns("FM150901 24010KT CAVOK BECMG 1506/1507 24010KT CAVOK", DAY + 420);
        turns("FM150901 24010KT CAVOK BECMG 1506/1507 24010KT CAVOK TEMPO 1509/1510 NSW", DAY + 420, DAY + 540, DAY + 600);
        turns("BECMG 1506/1508 NSW BECMG 1506/1507 NSW", DAY + 420);
        turns("BECMG 1506/1508 NSW NSC BECMG 1506/1507 NSW", DAY + 420, DAY + 480);
    }

    private static void print() {
        due.sentence("Prints what was read, one blank between tokens: how many characters; 0 when nothing was read.");
        Sky nothing = new Sky();
        due.is("print() of nothing", nothing.print(), 0);
        due.is("a refused text", nothing.readText("TAF", 31), 4);
        due.is("print() of nothing", nothing.print(), 0);
        nothing.put(REPORT);
        due.is("print() of what is typed alone", nothing.print(), 0);
        for (String text : new String[] {REPORT, FORECAST, "METAR AAAA 010000Z VRB00KT CAVOK M00/00 Q0000",
            "TAF KSFO 272300Z 2823/2824 00000KT CAVOK TEMPO 2823/0100 NSW TEMPO 2823/2824 NSW",
            "TAF KSFO 272300Z 2823/0100 00000KT CAVOK BECMG 2823/2824 9999 NSW NSC"}) {
            for (String blanks : new String[] {" ", "  ", "    "}) {
                Sky x = due.having(blanks.substring(1) + text.replace(" ", blanks) + blanks.substring(1), 28);
                due.is("print()", x.print(), text.length());
                due.is("printed", x.printed(), text);
                due.is("print() again", x.print(), text.length());
                due.is("character behind it", x.character(text.length()), -1);
            }
        }
    }

    private static void printFull() {
        due.sentence("Prints what was read: how many characters (of a full text)");
        due.is("how long the full text is", FULL.length(), 700);
        for (int half = 0; half < 2; half++) {
            Sky x = due.having(FULL, 31);
            due.is("print()", x.print(), 700);
            for (int i = 350 * half; i < 350 * half + 350; i++) {
                due.is("character(" + i + ")", x.character(i), FULL.charAt(i));
            }
            due.is("character(700)", x.character(700), -1);
            due.is("check()", x.check(), 1);
        }
    }

    private static void character() {
        due.sentence("Character i of what was printed latest; NONE when there is none.");
        Sky x = due.having(REPORT, 31);
        due.is("character(0), nothing printed", x.character(0), -1);
        int length = x.print();
        due.is("character(0)", x.character(0), 'M');
        due.is("character(1)", x.character(1), 'E');
        due.is("character(length - 1)", x.character(length - 1), '8');
        for (int i : new int[] {-1, length, length + 1, 699, 700, 701}) {
            due.is("character(" + i + ")", x.character(i), -1);
        }
        for (int i : FAR) {
            due.is("character(" + i + ")", x.character(i), -1);
        }
        due.is("a longer text", x.readText(FORECAST, 31), 0);
        due.is("character(0) of the latest print", x.character(0), 'M');
        due.is("character(length) of the latest print", x.character(length), -1);
        due.is("print()", x.print(), FORECAST.length());
        due.is("character(0)", x.character(0), 'T');
        due.is("the last character", x.character(FORECAST.length() - 1), '1');
        due.is("a shorter text", x.readText("METAR AAAA 010000Z VRB00KT CAVOK 00/00 Q0000", 31), 0);
        due.is("the last character of the latest print", x.character(FORECAST.length() - 1), '1');
        due.is("print()", x.print(), 44);
        due.is("character(43)", x.character(43), '0');
        due.is("character(44)", x.character(44), -1);
        due.is("characters", x.characters(44), "METAR AAAA 010000Z VRB00KT CAVOK 00/00 Q0000");
    }

    private static void check() {
        due.sentence("Whether what is kept, printed and read again, would be the same, and each minute's groups tell something: 1");
        due.is("check() of nothing", new Sky().check(), 1);
        for (String text : new String[] {REPORT, FORECAST, FULL, HEAD, "METAR AAAA 010000Z VRB00KT CAVOK M00/M00 Q0000",
            "TAF KSFO 282300Z 2700/2806 00000KT CAVOK FM270000 00000KT CAVOK BECMG 2700/2806 NSC",
            "TAF KSFO 272300Z 2823/2824 00000KT CAVOK TEMPO 2823/0100 NSW"}) {
            for (int days = 28; days <= 31; days++) {
                Sky x = new Sky();
                int place = x.readText(text, days);
                due.is("check() of '" + text + "', which read(" + days + ") answered " + place, x.check(), 1);
                due.is("check() again", x.check(), 1);
                due.is("a refused text", x.readText(HEAD + "X", days), HEAD.length() + 1);
                due.is("check() after it", x.check(), 1);
                due.is("told(0)", x.told(0), place > 0 ? 0 : text.startsWith("METAR") ? 1 : 2);
            }
        }
    }

    private static void askingChangesNothing() {
        due.sentence("Nothing is promised beyond the answers and state changes described above");
        for (String kept : new String[] {"", REPORT, FORECAST}) {
            Sky x = kept.isEmpty() ? new Sky() : due.having(kept, 31);
            due.is("print()", x.print(), kept.length());
            due.is("type()", x.type(Sky.packed("TA"), 2), 2);
            String before = x.sight(BEGIN);
            due.is("check()", x.check(), 1);
            due.is("print()", x.print(), kept.length());
            for (int far : new int[] {Integer.MIN_VALUE, -1, Integer.MAX_VALUE}) {
                x.told(far);
                x.group(far, far);
                x.weather(far, far);
                x.cloud(far, far);
                noneAt(x, far);
                x.from(far, far);
                x.activeOne(far, far);
                x.ceiling(far, far);
                x.character(far);
                x.read(far);
                x.type(far, far);
            }
            due.is("all of '" + kept + "'", x.sight(BEGIN), before);
            due.is("type()", x.type('F', 1), 3);
            due.is("read(31)", x.read(31), 4);
        }
    }
}
