/** Promises 4 to 7: told, group, weather and cloud. */
public final class ToldGroupTest {
    private static final String REPORT =
            "METAR EDDM 021320Z 24015G27KT 3000 -SHRA +TSRASNGR VCFG SCT012 BKN025CB OVC100TCU OVC999 M02/05 Q0998";
    private static final String FORECAST = "TAF LFPG 301100Z 3012/3118 24010KT 9999 FEW030 FM301530 VRB03G04KT 4000 BR BKN008 "
            + "BECMG 3018/3020 0800 NSW VV002 TEMPO 3012/3015 27020G35KT CAVOK PROB30 TEMPO 3100/3106 0200 "
            + "PROB40 3108/3118 NSC";
    private static final Due due = new Due();

    public static void main(String[] args) {
        reportTold();
        forecastTold();
        degrees();
        reportGroup();
        forecastGroups();
        nextMonth();
        weatherNumbers();
        cloudNumbers();
        olderPartsAreGone();
        due.end("ToldGroupTest");
    }

    private static void told(Sky x, int... wants) {
        for (int what = 0; what < wants.length; what++) {
            due.is("told(" + what + ")", x.told(what), wants[what]);
        }
        for (int what : new int[] {-1, 10, 11, Integer.MIN_VALUE, Integer.MAX_VALUE}) {
            due.is("told(" + what + ")", x.told(what), -1001);
        }
    }

    private static void group(Sky x, int g, int... wants) {
        for (int what = 0; what < wants.length; what++) {
            due.is("group(" + g + ", " + what + ")", x.group(g, what), wants[what]);
        }
        for (int what : new int[] {-1, 10, Integer.MIN_VALUE, Integer.MAX_VALUE}) {
            due.is("group(" + g + ", " + what + ")", x.group(g, what), -1);
        }
    }

    private static void reportTold() {
        Sky x = due.having(REPORT, 28);
        told(x, 1, 1, 1440 + 13 * 60 + 20, -2, 5, 998, 'E', 'D', 'D', 'M');
    }

    private static void forecastTold() {
        Sky x = due.having(FORECAST, 31);
        told(x, 2, 6, 29 * 1440 + 660, -1001, -1001, -1001, 'L', 'F', 'P', 'G');
    }

    private static void degrees() {
        Sky x = due.having("METAR AZZA 010000Z 00000KT CAVOK M00/00 Q0000", 28);
        told(x, 1, 1, 0, 0, 0, 0, 'A', 'Z', 'Z', 'A');
        told(due.having("METAR AZZA 312359Z 00000KT CAVOK 99/M99 Q9999", 31),
                1, 1, 31 * 1440 - 1, 99, -99, 9999, 'A', 'Z', 'Z', 'A');
        told(due.having("METAR AZZA 312359Z 00000KT CAVOK M01/M01 Q1001", 31),
                1, 1, 31 * 1440 - 1, -1, -1, 1001, 'A', 'Z', 'Z', 'A');
    }

    private static void reportGroup() {
        Sky x = due.having(REPORT, 31);
        group(x, 0, 0, 0, -1, -1, 240, 15, 27, 3000, 3, 4);
        group(x, 1, -1, -1, -1, -1, -1, -1, -1, -1, -1, -1);
        group(x, -1, -1, -1);
        group(x, Integer.MIN_VALUE, -1, -1);
        group(x, Integer.MAX_VALUE, -1, -1);
        group(due.having("METAR AZZA 010000Z VRB02KT CAVOK M00/00 Q0000", 28), 0, 0, 0, -1, -1, -2, 2, 0, 10000, 0, 0);
        group(due.having("METAR AZZA 010000Z 36000KT 0000 NSC M00/00 Q0000", 28), 0, 0, 0, -1, -1, 360, 0, 0, 0, 0, 0);
    }

    private static void forecastGroups() {
        Sky x = due.having(FORECAST, 31);
        int day30 = 29 * 1440;
        int end = 30 * 1440 + 18 * 60;
        group(x, 0, 0, 0, day30 + 720, end, 240, 10, 0, 9999, 0, 1);
        group(x, 1, 1, 0, day30 + 930, end, -2, 3, 4, 4000, 1, 1);
        group(x, 2, 2, 0, day30 + 1080, day30 + 1200, -1, -1, -1, 800, 0, 1);
        group(x, 3, 3, 0, day30 + 720, day30 + 900, 270, 20, 35, 10000, 0, 0);
        group(x, 4, 5, 30, day30 + 1440, day30 + 1800, -1, -1, -1, 200, -1, -1);
        group(x, 5, 4, 40, day30 + 1920, end, -1, -1, -1, -1, -1, 0);
        group(x, 6, -1, -1, -1, -1, -1, -1, -1, -1, -1, -1);
    }

    private static void nextMonth() {
        int month = 30 * 1440;
        Sky x = due.having("TAF LFPG 302300Z 3018/0124 24010KT CAVOK FM010030 24010KT CAVOK "
                + "TEMPO 3023/0101 NSW TEMPO 0123/0124 NSW TEMPO 3023/3024 NSW", 30);
        group(x, 0, 0, 0, month - 360, month + 1440);
        group(x, 1, 1, 0, month + 30, month + 1440);
        group(x, 2, 3, 0, month - 60, month + 60);
        group(x, 3, 3, 0, month + 1380, month + 1440);
        group(x, 4, 3, 0, month - 60, month);
        Sky y = due.having("TAF LFPG 302300Z 2912/3018 24010KT CAVOK BECMG 2912/2924 NSW", 30);
        group(y, 0, 0, 0, month + 28 * 1440 + 720, month + 29 * 1440 + 1080);
        group(y, 1, 2, 0, month + 28 * 1440 + 720, month + 29 * 1440);
    }

    private static void weatherNumbers() {
        Sky x = due.having(REPORT, 31);
        due.is("weather -SHRA", x.weather(0, 0), 1 + 4 * 6 + 64 * 2);
        due.is("weather +TSRASNGR", x.weather(0, 1), 2 + 4 * 7 + 64 * 2 + 2048 * 3 + 65536 * 6);
        due.is("weather VCFG", x.weather(0, 2), 3 + 64 * 9);
        due.is("weather 3", x.weather(0, 3), -1);
        for (int k : new int[] {-1, 4, Integer.MIN_VALUE, Integer.MAX_VALUE}) {
            due.is("weather(0, " + k + ")", x.weather(0, k), -1);
            due.is("weather(" + (k == 4 ? 1 : k) + ", 0)", x.weather(k == 4 ? 1 : k, 0), -1);
        }
        String[] firsts = "MI BC PR DR BL SH TS FZ".split(" ");
        for (int i = 0; i < firsts.length; i++) {
            due.is(firsts[i] + "FG", weatherOf(firsts[i] + "FG"), 4 * (i + 1) + 64 * 9);
        }
        String[] others = "DZ RA SN SG PL GR GS BR FG FU VA DU SA HZ PO SQ FC SS DS".split(" ");
        for (int i = 0; i < others.length; i++) {
            due.is(others[i], weatherOf(others[i]), 64 * (i + 1));
            due.is("VCFZRADS" + others[i], weatherOf("VCFZRADS" + others[i]),
                    3 + 4 * 8 + 64 * 2 + 2048 * 19 + 65536 * (i + 1));
        }
        due.is("TS", weatherOf("TS"), 28);
        due.is("VCTS", weatherOf("VCTS"), 31);
    }

    private static int weatherOf(String weather) {
        return due.having("METAR EDDM 021320Z 24015KT 3000 " + weather + " NSC 02/05 Q0998", 31).weather(0, 0);
    }

    private static void cloudNumbers() {
        Sky x = due.having(REPORT, 31);
        due.is("cloud SCT012", x.cloud(0, 0), 2 + 8 * 12);
        due.is("cloud BKN025CB", x.cloud(0, 1), 3 + 8 * 25 + 8192);
        due.is("cloud OVC100TCU", x.cloud(0, 2), 4 + 8 * 100 + 8192 * 2);
        due.is("cloud OVC999", x.cloud(0, 3), 4 + 8 * 999);
        for (int k : new int[] {-1, 4, 5, Integer.MIN_VALUE, Integer.MAX_VALUE}) {
            due.is("cloud(0, " + k + ")", x.cloud(0, k), -1);
            due.is("cloud(g, 0) of a group that is not", x.cloud(k, 0), -1);
        }
        Sky y = due.having(FORECAST, 31);
        due.is("cloud FEW030", y.cloud(0, 0), 1 + 8 * 30);
        due.is("cloud VV002", y.cloud(2, 0), 5 + 8 * 2);
        due.is("no cloud in CAVOK", y.cloud(3, 0), -1);
        due.is("no cloud told", y.cloud(4, 0), -1);
        due.is("no cloud in NSC", y.cloud(5, 0), -1);
        due.is("no weather in NSW", y.weather(2, 0), -1);
    }

    private static void olderPartsAreGone() {
        Sky x = due.having(REPORT, 31);
        due.is("a forecast after it", x.readText(FORECAST, 31), 0);
        due.is("a report after it", x.readText("METAR AZZA 010000Z VRB02KT CAVOK M00/00 Q0000", 31), 0);
        group(x, 0, 0, 0, -1, -1, -2, 2, 0, 10000, 0, 0);
        group(x, 1, -1, -1, -1, -1, -1, -1, -1, -1, -1, -1);
        due.is("no weather is left", x.weather(0, 0), -1);
        due.is("no cloud is left", x.cloud(0, 0), -1);
    }
}
