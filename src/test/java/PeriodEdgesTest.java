/** The edges that the document's terms name for minutes and periods, sentence by sentence. */
public final class PeriodEdgesTest {
    private static final int DAY = 1440;
    private static final String WHOLE = " 24010KT CAVOK";
    private static final String[] PERIODED = {"BECMG", "TEMPO", "PROB30", "PROB40", "PROB30 TEMPO", "PROB40 TEMPO"};
    /** Forecasts of a month of 28 days: one over its end, one in the next month, one far from both. */
    private static final String OVER = "TAF KSFO 272300Z 2806/0106 24010KT CAVOK ";
    private static final String NEXT = "TAF KSFO 282300Z 0106/0206 24010KT CAVOK ";
    private static final String MIDDLE = "TAF KSFO 101100Z 1012/1118 24010KT CAVOK ";
    private static final Due due = new Due();

    public static void main(String[] args) {
        minutes();
        daysOfTheMonth();
        beginningOfTheForecast();
        timesBeforeTheForecast();
        beginningsBeforeTheForecast();
        endsWithTheirBeginning();
        endsNotBehind();
        endsThatCannotStand();
        longestForecast();
        changesWithin();
        fromWithin();
        fromBehindFrom();
        due.end("PeriodEdgesTest");
    }

    private static int at(int day, int hour, int minute) {
        return (day - 1) * DAY + hour * 60 + minute;
    }

    /** Whether a group is from one minute to another. */
    private static void lasts(Sky x, int g, int from, int to) {
        due.is("group(" + g + ", 2)", x.group(g, 2), from);
        due.is("group(" + g + ", 3)", x.group(g, 3), to);
    }

    private static void minutes() {
        due.sentence("MINUTES are counted from the first day of the issue's month, 00:00, on");
        String[] issues = {"010000", "010001", "010059", "010100", "012359", "020000", "282359"};
        int[] wants = {0, 1, 59, 60, 1439, 1440, 28 * DAY - 1};
        for (int i = 0; i < issues.length; i++) {
            Sky x = due.having("METAR EDDM " + issues[i] + "Z 24010KT CAVOK 10/05 Q1000", 28);
            due.is("told(2) of " + issues[i], x.told(2), wants[i]);
            Sky y = due.having("TAF EDDM " + issues[i] + "Z 2800/2801" + WHOLE, 28);
            due.is("told(2) of " + issues[i], y.told(2), wants[i]);
            lasts(y, 0, 27 * DAY, 27 * DAY + 60);
        }
        Sky first = due.having("TAF EDDM 010000Z 0100/0101" + WHOLE + " FM010000" + WHOLE, 28);
        lasts(first, 0, 0, 60);
        lasts(first, 1, 0, 60);
        due.is("least(0)", first.least(0), 10000);
        due.is("least(-1)", first.least(-1), -1);
    }

    private static void daysOfTheMonth() {
        due.sentence("that month has as many days as read() is told.");
        for (int days = 28; days <= 31; days++) {
            int month = days * DAY;
            Sky x = due.having("TAF EDDM " + days + "2359Z " + days + "18/0124" + WHOLE + " FM010000" + WHOLE
                    + " TEMPO 0100/0101 NSW TEMPO " + days + "23/0100 NSW TEMPO " + days + "23/" + days + "24 NSW", days);
            due.is("told(2)", x.told(2), month - 1);
            lasts(x, 0, month - 360, month + DAY);
            lasts(x, 1, month, month + DAY);
            lasts(x, 2, month, month + 60);
            lasts(x, 3, month - 60, month);
            lasts(x, 4, month - 60, month);
            due.refuses("TAF EDDM ^" + (days + 1) + "0000Z", days);
            due.refuses("TAF EDDM " + days + "0000Z " + days + "18/0124" + WHOLE + " ^FM" + (days + 1) + "0000", days);
        }
    }

    private static void beginningOfTheForecast() {
        due.sentence("All days are those of that month, but of the next one: the beginning of the forecast's period, "
                + "if its day is less than the issue's;");
        for (int days = 28; days <= 31; days++) {
            for (int day = 1; day <= days; day++) {
                int month = day < 15 ? days * DAY : 0;
                String period = String.format("%02d00/%02d06", day, day);
                Sky x = due.having("TAF EDDM 152359Z " + period + WHOLE, days);
                lasts(x, 0, month + at(day, 0, 0), month + at(day, 6, 0));
            }
        }
        lasts(due.having("TAF EDDM 152300Z 1500/1501" + WHOLE, 28), 0, at(15, 0, 0), at(15, 1, 0));
        lasts(due.having("TAF EDDM 150000Z 1423/1424" + WHOLE, 28), 0, at(14 + 28, 23, 0), at(15 + 28, 0, 0));
        lasts(due.having("TAF EDDM 010000Z 0100/0101" + WHOLE, 28), 0, 0, 60);
    }

    private static void timesBeforeTheForecast() {
        due.sentence("times of FM, and beginnings of other changes' periods, if they would come before "
                + "the forecast's beginning (of FM)");
        lasts(due.having(OVER + "FM280600" + WHOLE, 28), 1, at(28, 6, 0), at(29, 6, 0));
        lasts(due.having(OVER + "FM282359" + WHOLE, 28), 1, at(28, 23, 59), at(29, 6, 0));
        lasts(due.having(OVER + "FM010000" + WHOLE, 28), 1, at(29, 0, 0), at(29, 6, 0));
        lasts(due.having(OVER + "FM010559" + WHOLE, 28), 1, at(29, 5, 59), at(29, 6, 0));
        lasts(due.having(NEXT + "FM010600" + WHOLE, 28), 1, at(29, 6, 0), at(30, 6, 0));
        lasts(due.having(NEXT + "FM020559" + WHOLE, 28), 1, at(30, 5, 59), at(30, 6, 0));
        due.refuses(OVER + "^FM280559" + WHOLE, 28);
        due.refuses(OVER + "^FM270600" + WHOLE, 28);
        due.refuses(NEXT + "^FM010559" + WHOLE, 28);
        due.refuses(NEXT + "^FM282359" + WHOLE, 28);
        due.refuses(MIDDLE + "^FM101159" + WHOLE, 28);
        due.refuses(MIDDLE + "^FM010000" + WHOLE, 28);
    }

    private static void beginningsBeforeTheForecast() {
        due.sentence("times of FM, and beginnings of other changes' periods, if they would come before "
                + "the forecast's beginning (of others)");
        for (String name : PERIODED) {
            lasts(due.having(OVER + name + " 2806/2807 NSW", 28), 1, at(28, 6, 0), at(28, 7, 0));
            lasts(due.having(OVER + name + " 0100/0101 NSW", 28), 1, at(29, 0, 0), at(29, 1, 0));
            lasts(due.having(OVER + name + " 0105/0106 NSW", 28), 1, at(29, 5, 0), at(29, 6, 0));
            lasts(due.having(NEXT + name + " 0106/0107 NSW", 28), 1, at(29, 6, 0), at(29, 7, 0));
            lasts(due.having(NEXT + name + " 0205/0206 NSW", 28), 1, at(30, 5, 0), at(30, 6, 0));
            due.refuses(OVER + name + " ^2805/2807 NSW", 28);
            due.refuses(OVER + name + " ^2706/2807 NSW", 28);
            due.refuses(NEXT + name + " ^0105/0107 NSW", 28);
            due.refuses(NEXT + name + " ^2823/0107 NSW", 28);
            due.refuses(MIDDLE + name + " ^1011/1013 NSW", 28);
            due.refuses(MIDDLE + name + " ^0100/0101 NSW", 28);
        }
    }

    private static void endsWithTheirBeginning() {
        due.sentence("the end of any period, if its beginning is in the next month");
        lasts(due.having("TAF KSFO 282300Z 0100/0101" + WHOLE, 28), 0, at(29, 0, 0), at(29, 1, 0));
        lasts(due.having("TAF KSFO 282300Z 2700/2806" + WHOLE, 28), 0, at(28 + 27, 0, 0), at(28 + 28, 6, 0));
        lasts(due.having("TAF KSFO 282300Z 2723/2824" + WHOLE, 28), 0, at(28 + 27, 23, 0), at(28 + 29, 0, 0));
        for (String name : PERIODED) {
            lasts(due.having(OVER + name + " 0100/0106 NSW", 28), 1, at(29, 0, 0), at(29, 6, 0));
            lasts(due.having(NEXT + name + " 0106/0124 NSW", 28), 1, at(29, 6, 0), at(30, 0, 0));
            lasts(due.having("TAF KSFO 282300Z 2700/2806" + WHOLE + " " + name + " 2701/2802 NSW", 28), 1,
                    at(28 + 27, 1, 0), at(28 + 28, 2, 0));
            due.refuses(OVER + name + " ^0100/2807 NSW", 28);
        }
    }

    private static void endsNotBehind() {
        due.sentence("or it would not come behind its beginning.");
        lasts(due.having("TAF KSFO 272300Z 2823/0100" + WHOLE, 28), 0, at(28, 23, 0), at(29, 0, 0));
        lasts(due.having("TAF KSFO 272300Z 2823/2824" + WHOLE, 28), 0, at(28, 23, 0), at(29, 0, 0));
        lasts(due.having("TAF KSFO 272300Z 2800/0106" + WHOLE, 28), 0, at(28, 0, 0), at(29, 6, 0));
        lasts(due.having("TAF KSFO 010000Z 0100/0101" + WHOLE, 28), 0, 0, 60);
        due.refuses("TAF KSFO 101100Z ^1012/1012" + WHOLE, 28);
        due.refuses("TAF KSFO 101100Z ^1012/1011" + WHOLE, 28);
        due.refuses("TAF KSFO 101100Z ^1100/1024" + WHOLE, 28);
        due.refuses("TAF KSFO 101100Z ^2800/2724" + WHOLE, 28);
        for (String name : PERIODED) {
            lasts(due.having(OVER + name + " 2823/0101 NSW", 28), 1, at(28, 23, 0), at(29, 1, 0));
            lasts(due.having(OVER + name + " 2823/0100 NSW", 28), 1, at(28, 23, 0), at(29, 0, 0));
            lasts(due.having(OVER + name + " 2823/2824 NSW", 28), 1, at(28, 23, 0), at(29, 0, 0));
            due.refuses(OVER + name + " ^2812/2812 NSW", 28);
            due.refuses(OVER + name + " ^2812/2811 NSW", 28);
            due.refuses(MIDDLE + name + " ^1100/1024 NSW", 28);
            due.refuses(MIDDLE + name + " ^1013/1013 NSW", 28);
        }
    }

    private static void endsThatCannotStand() {
        due.sentence("An end that does not come behind its beginning so can't stand (nor what has it).");
        due.refuses("TAF KSFO 282300Z ^0106/0106" + WHOLE, 28);
        due.refuses("TAF KSFO 282300Z ^0106/0105" + WHOLE, 28);
        due.refuses("TAF KSFO 282300Z ^0200/0124" + WHOLE, 28);
        due.refuses("TAF KSFO 282300Z ^2723/0101" + WHOLE, 28);
        due.stands("TAF KSFO 282300Z 0106/0107" + WHOLE, 28);
        for (String name : PERIODED) {
            due.refuses(OVER + name + " ^0103/0103 NSW", 28);
            due.refuses(OVER + name + " ^0103/0102 NSW", 28);
            due.refuses(OVER + name + " ^0103/2812 NSW", 28);
            due.refuses(NEXT + name + " ^0200/0200 NSW", 28);
            due.refuses(NEXT + name + " ^0200/0124 NSW", 28);
            due.refuses(NEXT + name + " ^0200/0123 NSW", 28);
            due.stands(NEXT + name + " 0200/0201 NSW", 28);
        }
    }

    private static void longestForecast() {
        due.sentence("The forecast's period is at most 1800 minutes long;");
        String[] longest = {"101100Z 1012/1118", "101100Z 1018/1124", "101100Z 1018/1200", "272300Z 2800/0106", "272300Z 2818/0124",
            "272300Z 2818/0200", "282300Z 0100/0206", "282300Z 0118/0224", "282300Z 0118/0300", "282300Z 2618/2724"};
        for (String period : longest) {
            Sky x = due.having("TAF KSFO " + period + WHOLE, 28);
            due.is("how long " + period + " is", x.group(0, 3) - x.group(0, 2), 1800);
        }
        String[] longer = {"101100Z ^1012/1119", "101100Z ^1017/1124", "101100Z ^1017/1200", "101100Z ^1018/1201", "101100Z ^1012/1212",
            "272300Z ^2800/0107", "272300Z ^2817/0124", "272300Z ^2818/0201", "282300Z ^0100/0207", "282300Z ^0117/0224",
            "282300Z ^0118/0301", "282300Z ^2617/2724", "010000Z ^0100/2824"};
        for (String period : longer) {
            due.refuses("TAF KSFO " + period + WHOLE, 28);
        }
        due.stands("TAF KSFO 101100Z 1012/1013" + WHOLE, 28);
    }

    private static void changesWithin() {
        due.sentence("those of changes lie within it (their ends may be its end);");
        for (String name : PERIODED) {
            lasts(due.having(MIDDLE + name + " 1012/1118 NSW", 28), 1, at(10, 12, 0), at(11, 18, 0));
            lasts(due.having(MIDDLE + name + " 1012/1013 NSW", 28), 1, at(10, 12, 0), at(10, 13, 0));
            lasts(due.having(MIDDLE + name + " 1117/1118 NSW", 28), 1, at(11, 17, 0), at(11, 18, 0));
            lasts(due.having(OVER + name + " 2806/0106 NSW", 28), 1, at(28, 6, 0), at(29, 6, 0));
            lasts(due.having(NEXT + name + " 0106/0206 NSW", 28), 1, at(29, 6, 0), at(30, 6, 0));
            due.refuses(MIDDLE + name + " ^1011/1118 NSW", 28);
            due.refuses(MIDDLE + name + " ^1011/1012 NSW", 28);
            due.refuses(MIDDLE + name + " ^1012/1119 NSW", 28);
            due.refuses(MIDDLE + name + " ^1117/1119 NSW", 28);
            due.refuses(MIDDLE + name + " ^1118/1119 NSW", 28);
            due.refuses(MIDDLE + name + " ^1118/1118 NSW", 28);
            due.refuses(OVER + name + " ^2806/0107 NSW", 28);
            due.refuses(OVER + name + " ^0106/0107 NSW", 28);
            due.refuses(NEXT + name + " ^0106/0207 NSW", 28);
            due.refuses(NEXT + name + " ^0206/0207 NSW", 28);
        }
    }

    private static void fromWithin() {
        due.sentence("FM lies within it, not at its end,");
        lasts(due.having(MIDDLE + "FM101200" + WHOLE, 28), 1, at(10, 12, 0), at(11, 18, 0));
        lasts(due.having(MIDDLE + "FM101201" + WHOLE, 28), 1, at(10, 12, 1), at(11, 18, 0));
        lasts(due.having(MIDDLE + "FM111759" + WHOLE, 28), 1, at(11, 17, 59), at(11, 18, 0));
        for (String wrong : "101159 111800 111801 111900 121200 091200".split(" ")) {
            due.refuses(MIDDLE + "^FM" + wrong + WHOLE, 28);
        }
        for (String wrong : "280559 010600 010601 020500".split(" ")) {
            due.refuses(OVER + "^FM" + wrong + WHOLE, 28);
        }
        for (String wrong : "010559 020600 020601".split(" ")) {
            due.refuses(NEXT + "^FM" + wrong + WHOLE, 28);
        }
        for (String wrong : "002000 102400 102060 292000 990000 109900 100099".split(" ")) {
            due.refuses(MIDDLE + "^FM" + wrong + WHOLE, 28);
        }
        String lastDay = "TAF KSFO 101100Z 1012/1024" + WHOLE + " ";
        due.stands(lastDay + "FM102359" + WHOLE, 28);
        due.refuses(lastDay + "^FM102400" + WHOLE, 28);
        due.refuses(lastDay + "^FM110000" + WHOLE, 28);
    }

    private static void fromBehindFrom() {
        due.sentence("and behind each FM before it.");
        due.stands(MIDDLE + "FM101200" + WHOLE + " FM101201" + WHOLE, 28);
        due.refuses(MIDDLE + "FM101200" + WHOLE + " ^FM101200" + WHOLE, 28);
        due.refuses(MIDDLE + "FM101201" + WHOLE + " ^FM101200" + WHOLE, 28);
        due.refuses(MIDDLE + "FM101500" + WHOLE + " FM101700" + WHOLE + " ^FM101600" + WHOLE, 28);
        due.refuses(MIDDLE + "FM101500" + WHOLE + " FM101700" + WHOLE + " ^FM101500" + WHOLE, 28);
        due.stands(OVER + "FM282359" + WHOLE + " FM010000" + WHOLE, 28);
        due.refuses(OVER + "FM010000" + WHOLE + " ^FM282359" + WHOLE, 28);
        due.refuses(OVER + "FM010000" + WHOLE + " ^FM010000" + WHOLE, 28);
        for (String name : PERIODED) {
            String between = " " + name + " 1015/1017 NSW ";
            due.refuses(MIDDLE + "FM101600" + WHOLE + between + "^FM101600" + WHOLE, 28);
            due.stands(MIDDLE + "FM101600" + WHOLE + between + "FM101601" + WHOLE, 28);
            due.stands(MIDDLE + between + "FM101200" + WHOLE, 28);
            due.stands(MIDDLE + "FM111759" + WHOLE + between, 28);
        }
        Sky x = new Sky();
        due.is("a text with a late FM", x.readText(MIDDLE + "FM111759" + WHOLE, 28), 0);
        due.is("no FM of a text before", x.readText(MIDDLE + "FM101200" + WHOLE, 28), 0);
    }
}
