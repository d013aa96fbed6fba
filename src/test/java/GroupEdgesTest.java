/** The edges that the document's terms name for groups and numbers, sentence by sentence. */
public final class GroupEdgesTest {
    private static final int DAY = 14 * 1440;
    private static final int BEGIN = DAY + 360;
    private static final int END = DAY + 1080;
    private static final String HEAD = "TAF LFPG 150500Z 1506/1518 24010KT 5000 RA BKN020 ";
    private static final String FIRSTS = "MI BC PR DR BL SH TS FZ";
    private static final String OTHERS = "DZ RA SN SG PL GR GS BR FG FU VA DU SA HZ PO SQ FC SS DS";
    private static final Due due = new Due();

    public static void main(String[] args) {
        numbersOfGroups();
        whatTellsNothing();
        fromItsTimeOn();
        fromTheEndOn();
        inOrder();
        active();
        weatherSigns();
        weatherPairs();
        cloudNumbers();
        directions();
        none();
        due.end("GroupEdgesTest");
    }

    private static void from(Sky x, int minute, int... wants) {
        for (int what = 0; what < 4; what++) {
            due.is("from(" + minute + ", " + what + ")", x.from(minute, what), wants[what]);
        }
    }

    private static void numbersOfGroups() {
        due.sentence("GROUPS are numbered from 0: the text's first WIND and SKY, then the changes in order.");
        Sky x = due.having(HEAD + "PROB40 TEMPO 1506/1507 0001 PROB30 1506/1507 0002 TEMPO 1506/1507 0003 BECMG 1506/1507 0004 "
                + "FM150600 24010KT 0005 NSC TEMPO 1506/1507 0006 BECMG 1506/1507 0007 PROB30 TEMPO 1506/1507 0008", 31);
        int[] kinds = {0, 5, 4, 3, 2, 1, 3, 2, 5};
        for (int g = 0; g < 9; g++) {
            due.is("group(" + g + ", 0)", x.group(g, 0), kinds[g]);
            due.is("group(" + g + ", 7)", x.group(g, 7), g == 0 ? 5000 : g);
        }
        due.is("group(9, 0)", x.group(9, 0), -1);
        due.is("group(-1, 0)", x.group(-1, 0), -1);
        due.is("told(1)", x.told(1), 9);
    }

    private static void whatTellsNothing() {
        due.sentence("CAVOK tells visibility 10000, no weather, no clouds; NSC no clouds; NSW no weather.");
        Sky x = due.having("TAF LFPG 150500Z 1506/1518 24010KT CAVOK TEMPO 1506/1507 CAVOK TEMPO 1506/1507 NSC "
                + "TEMPO 1506/1507 NSW FM150600 24010KT CAVOK FM150601 24010KT 9999 NSC BECMG 1506/1507 9999 "
                + "BECMG 1506/1507 24010KT", 31);
        tells(x, 0, 10000, 0, 0);
        tells(x, 1, 10000, 0, 0);
        tells(x, 2, -1, -1, 0);
        tells(x, 3, -1, 0, -1);
        tells(x, 4, 10000, 0, 0);
        tells(x, 5, 9999, 0, 0);
        tells(x, 6, 9999, -1, -1);
        tells(x, 7, -1, -1, -1);
        tells(due.having("METAR EDDM 150500Z 24010KT CAVOK 10/05 Q1000", 31), 0, 10000, 0, 0);
    }

    private static void tells(Sky x, int g, int visibility, int weather, int clouds) {
        due.is("group(" + g + ", 7)", x.group(g, 7), visibility);
        due.is("group(" + g + ", 8)", x.group(g, 8), weather);
        due.is("group(" + g + ", 9)", x.group(g, 9), clouds);
        due.is("weather(" + g + ", 0)", x.weather(g, 0), -1);
        due.is("cloud(" + g + ", 0)", x.cloud(g, 0), -1);
    }

    private static void fromItsTimeOn() {
        due.sentence("WIND AND SKY AT a minute within the forecast's period: those of group 0, then for each change "
                + "in order: of FM, from its time on, all;");
        for (String sky : new String[] {"CAVOK", "9999 NSC", "9999 RA FEW001"}) {
            Sky x = due.having(HEAD + "FM150830 VRB01KT " + sky, 31);
            from(x, BEGIN, 0, 0, 0, 0);
            from(x, DAY + 509, 0, 0, 0, 0);
            from(x, DAY + 510, 1, 1, 1, 1);
            from(x, DAY + 511, 1, 1, 1, 1);
            from(x, END - 1, 1, 1, 1, 1);
        }
        from(due.having(HEAD + "FM150600 VRB01KT CAVOK", 31), BEGIN, 1, 1, 1, 1);
        Sky y = due.having(HEAD + "FM151759 VRB01KT CAVOK", 31);
        from(y, END - 2, 0, 0, 0, 0);
        from(y, END - 1, 1, 1, 1, 1);
    }

    private static void fromTheEndOn() {
        due.sentence("of BECMG, from its period's end on, those parts that it tells.");
        String[] parts = {"24010KT", "9999", "NSW", "RA", "NSC", "VV001", "FEW001", "CAVOK", "24010KT CAVOK", "9999 NSC"};
        int[][] told = {{1, 0, 0, 0}, {0, 1, 0, 0}, {0, 0, 1, 0}, {0, 0, 1, 0}, {0, 0, 0, 1}, {0, 0, 0, 1}, {0, 0, 0, 1},
            {0, 1, 1, 1}, {1, 1, 1, 1}, {0, 1, 0, 1}};
        for (int i = 0; i < parts.length; i++) {
            Sky x = due.having(HEAD + "BECMG 1508/1510 " + parts[i], 31);
            from(x, BEGIN, 0, 0, 0, 0);
            from(x, DAY + 480, 0, 0, 0, 0);
            from(x, DAY + 599, 0, 0, 0, 0);
            from(x, DAY + 600, told[i]);
            from(x, END - 1, told[i]);
            Sky y = due.having(HEAD + "BECMG 1517/1518 " + parts[i], 31);
            from(y, END - 1, 0, 0, 0, 0);
            from(y, END, -1, -1, -1, -1);
        }
    }

    private static void inOrder() {
        due.sentence("for each change in order");
        Sky x = due.having(HEAD + "FM150800 VRB01KT CAVOK BECMG 1506/1507 9999", 31);
        from(x, DAY + 420, 0, 2, 0, 0);
        from(x, DAY + 480, 1, 2, 1, 1);
        Sky y = due.having(HEAD + "BECMG 1507/1509 9999 FM150800 VRB01KT CAVOK", 31);
        from(y, DAY + 480, 2, 2, 2, 2);
        from(y, DAY + 540, 2, 2, 2, 2);
        Sky z = due.having(HEAD + "BECMG 1507/1509 9999 BECMG 1507/1508 8000 NSW BECMG 1507/1509 7000", 31);
        from(z, DAY + 480, 0, 2, 2, 0);
        from(z, DAY + 540, 0, 3, 2, 0);
        Sky same = due.having(HEAD + "FM150800 VRB01KT CAVOK BECMG 1507/1508 9999 FM150801 VRB01KT CAVOK", 31);
        from(same, DAY + 480, 1, 2, 1, 1);
        from(same, DAY + 481, 3, 3, 3, 3);
    }

    private static void active() {
        due.sentence("TEMPO and PROB change nothing there: they are ACTIVE from their period's beginning up to (not with) its end.");
        for (String name : new String[] {"TEMPO", "PROB30", "PROB40", "PROB30 TEMPO", "PROB40 TEMPO"}) {
            Sky x = due.having(HEAD + name + " 1508/1510 VRB01KT CAVOK", 31);
            int[] minutes = {BEGIN, DAY + 479, DAY + 480, DAY + 599, DAY + 600, END - 1};
            int[] counts = {0, 0, 1, 1, 0, 0};
            for (int i = 0; i < minutes.length; i++) {
                from(x, minutes[i], 0, 0, 0, 0);
                due.is("active(" + minutes[i] + ")", x.active(minutes[i]), counts[i]);
                due.is("activeOne(" + minutes[i] + ", 0)", x.activeOne(minutes[i], 0), counts[i] == 1 ? 1 : -1);
            }
            Sky all = due.having(HEAD + name + " 1506/1518 VRB01KT CAVOK", 31);
            for (int minute : new int[] {BEGIN, END - 1}) {
                from(all, minute, 0, 0, 0, 0);
                due.is("active(" + minute + ")", all.active(minute), 1);
            }
        }
        for (String change : new String[] {"BECMG 1506/1518 CAVOK", "FM150600 24010KT CAVOK"}) {
            Sky x = due.having(HEAD + change, 31);
            due.is("active(BEGIN) of " + change, x.active(BEGIN), 0);
            due.is("active(END - 1) of " + change, x.active(END - 1), 0);
        }
    }

    private static void weather(String weather, int want) {
        Sky x = due.having("METAR EDDM 021320Z 24015KT 3000 BR " + weather + " BR NSC 02/05 Q0998", 31);
        due.is("weather " + weather, x.weather(0, 1), want);
    }

    private static void weatherSigns() {
        due.sentence("NUMBERS of weather: 0 (without sign), 1 (-), 2 (+), 3 (VC);");
        weather("DZ", 64);
        weather("-DZ", 65);
        weather("+DZ", 66);
        weather("VCDZ", 67);
        weather("TS", 28);
        weather("-TS", 29);
        weather("+TS", 30);
        weather("VCTS", 31);
    }

    private static void weatherPairs() {
        due.sentence("with 4 times one more than the first pair's, if it is of the first kind; with 64, 2048, 65536 times "
                + "one more than those of the others in order.");
        String[] others = OTHERS.split(" ");
        for (int i = 0; i < others.length; i++) {
            weather(others[i], 64 * (i + 1));
            weather("DZ" + others[i], 64 + 2048 * (i + 1));
            weather("DZDZ" + others[i], 64 + 2048 + 65536 * (i + 1));
            String[] firsts = FIRSTS.split(" ");
            for (int f = 0; f < firsts.length; f++) {
                weather(firsts[f] + others[i], 4 * (f + 1) + 64 * (i + 1));
            }
        }
        weather("MIDZ", 4 + 64);
        weather("VCFZDSDSDS", 3 + 32 + 19 * (64 + 2048 + 65536));
        weather("DZRASN", 64 + 2 * 2048 + 3 * 65536);
        weather("SNRADZ", 3 * 64 + 2 * 2048 + 65536);
    }

    private static void cloud(String cloud, int want) {
        Sky x = due.having("METAR EDDM 021320Z 24015KT 3000 " + cloud + " 02/05 Q0998", 31);
        due.is("cloud " + cloud, x.cloud(0, 0), want);
    }

    private static void cloudNumbers() {
        due.sentence("Of clouds: 1 FEW, 2 SCT, 3 BKN, 4 OVC, 5 VV; with 8 times the three digits; "
                + "with 8192 times 1 for CB, 2 for TCU.");
        String[] amounts = {"FEW", "SCT", "BKN", "OVC", "VV"};
        for (int i = 0; i < amounts.length; i++) {
            cloud(amounts[i] + "000", i + 1);
            cloud(amounts[i] + "001", i + 1 + 8);
            cloud(amounts[i] + "010", i + 1 + 80);
            cloud(amounts[i] + "100", i + 1 + 800);
            cloud(amounts[i] + "999", i + 1 + 7992);
        }
        for (int i = 0; i < 4; i++) {
            cloud(amounts[i] + "000CB", i + 1 + 8192);
            cloud(amounts[i] + "000TCU", i + 1 + 16384);
            cloud(amounts[i] + "999CB", i + 1 + 7992 + 8192);
            cloud(amounts[i] + "999TCU", i + 1 + 7992 + 16384);
        }
    }

    private static void directions() {
        due.sentence("Of directions: 0 to 360, -2 for VRB.");
        for (int direction = 0; direction <= 360; direction += 10) {
            Sky x = due.having(String.format("METAR EDDM 021320Z %03d15KT CAVOK 02/05 Q0998", direction), 31);
            due.is("group(0, 4)", x.group(0, 4), direction);
        }
        due.is("group(0, 4)", due.having("METAR EDDM 021320Z VRB15KT CAVOK 02/05 Q0998", 31).group(0, 4), -2);
        Sky x = due.having(HEAD + "BECMG 1508/1510 VRB99KT BECMG 1508/1510 00000KT BECMG 1508/1510 NSW", 31);
        due.is("group(1, 4)", x.group(1, 4), -2);
        due.is("group(2, 4)", x.group(2, 4), 0);
        due.is("group(3, 4)", x.group(3, 4), -1);
    }

    private static void none() {
        due.sentence("`NONE = -1`: There is none.");
        due.is("NONE", SkyBulletin.NONE, -1);
    }
}
