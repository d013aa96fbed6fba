/** The edges that the document's terms name for texts, sentence by sentence. */
public final class TextEdgesTest {
    private static final String HEAD = "METAR EDDM 021320Z ";
    private static final String CALM = HEAD + "24015KT ";
    private static final String TAIL = " M02/M05 Q0998";
    private static final String TAF = "TAF LFPG 301100Z ";
    private static final String FORECAST = TAF + "3012/3118 24010KT 9999 NSC ";
    private static final String TEMPO = FORECAST + "TEMPO 3015/3016 ";
    private static final String[] CHANGES = {"FM301500 24010KT CAVOK", "BECMG 3015/3016 NSW", "TEMPO 3015/3016 NSW",
        "PROB30 3015/3016 NSW", "PROB40 3015/3016 NSW", "PROB30 TEMPO 3015/3016 NSW", "PROB40 TEMPO 3015/3016 NSW"};
    private static final int[] KINDS = {1, 2, 3, 4, 4, 5, 5};
    private static final String FIRSTS = "MI BC PR DR BL SH TS FZ";
    private static final String OTHERS = "DZ RA SN SG PL GR GS BR FG FU VA DU SA HZ PO SQ FC SS DS";
    private static final Due due = new Due();

    public static void main(String[] args) {
        texts();
        digitsAndLetters();
        reports();
        forecasts();
        stations();
        issues();
        temperatures();
        pressures();
        winds();
        skies();
        weathers();
        weatherPairs();
        clouds();
        layers();
        changes();
        parts();
        noParts();
        periods();
        due.end("TextEdgesTest");
    }

    private static void texts() {
        due.sentence("A TEXT is tokens of characters 33 to 126, blanks between");
        String text = CALM + "CAVOK" + TAIL;
        due.stands(text, 31);
        due.stands(text.replace(" ", "  "), 31);
        due.stands("     " + text.replace(" ", "         ") + "     ", 31);
        due.endsTooEarly("", 31);
        due.endsTooEarly(" ", 31);
        due.endsTooEarly("        ", 31);
        for (char edge : new char[] {33, 126}) {
            due.refuses("^" + edge, 31);
            due.refuses(" ^" + edge + " METAR", 31);
            due.refuses("^METAR" + edge + " EDDM", 31);
            due.refuses("METAR ^" + edge + "EDDM", 31);
            due.refuses(text + " ^" + edge, 31);
            due.refuses(text + "  ^" + edge + edge + "  ", 31);
        }
        for (int i = text.indexOf(' '); i > 0; i = text.indexOf(' ', i + 1)) {
            int begin = text.lastIndexOf(' ', i - 1) + 1;
            due.refuses(text.substring(0, begin) + "^" + text.substring(begin, i) + text.substring(i + 1), 31);
        }
    }

    /** Each digit of a text in its place by the characters next to digits, each letter by its small one. */
    private static void digitsAndLetters() {
        due.sentence("below d is a digit, a letter in capitals stands for itself");
        String report = HEAD + "24015G27KT 3000 -SHRA VCFG SCT012 BKN025CB OVC100TCU M02/05 Q0998";
        String forecast = TAF + "3012/3118 VRB03KT 4000 VV001 FM301530 24010KT CAVOK BECMG 3018/3020 NSW NSC "
                + "PROB30 TEMPO 3100/3106 TSRA PROB40 3101/3102 0800";
        for (String text : new String[] {report, forecast}) {
            due.stands(text, 31);
            for (int i = 0; i < text.length(); i++) {
                char one = text.charAt(i);
                String others = Character.isDigit(one) ? "/:OA" : Character.isLetter(one) ? "" + (char) (one + 32) : "";
                for (char other : others.toCharArray()) {
                    due.refuses(marked(text, i, other), 31);
                }
            }
        }
    }

    private static String marked(String text, int i, char other) {
        int begin = text.lastIndexOf(' ', i) + 1;
        return text.substring(0, begin) + "^" + text.substring(begin, i) + other + text.substring(i + 1);
    }

    private static void reports() {
        due.sentence("Report: METAR station issue WIND SKY temperature pressure");
        rowOfTokens(CALM + "9999 NSC" + TAIL);
        due.refuses(CALM + "9999 NSC" + TAIL + " ^TEMPO 3015/3016 NSW", 31);
        due.refuses(CALM + "9999 NSC" + TAIL + " ^METAR", 31);
        due.refuses("METAR EDDM 021320Z ^0212/0224 24015KT 9999 NSC" + TAIL, 31);
    }

    private static void forecasts() {
        due.sentence("Forecast: TAF station issue period WIND SKY and up to 8 CHANGES.");
        rowOfTokens(FORECAST.trim());
        due.refuses(FORECAST + "^M02/M05 Q0998", 31);
        due.refuses(TAF + "3012/3118 24010KT 9999 NSC ^Q0998", 31);
        for (int c = 0; c < CHANGES.length; c++) {
            mostChanges(CHANGES[c], KINDS[c]);
        }
    }

    private static void mostChanges(String change, int kind) {
        StringBuilder text = new StringBuilder(FORECAST);
        for (int count = 0; count < 8; count++) {
            due.stands(text.toString(), 31);
            text.append(change.replace("FM301500", "FM30150" + count)).append(' ');
            Sky x = due.having(text.toString(), 31);
            due.is("told(1) with one change behind " + count, x.told(1), count + 2);
            due.is("group(" + (count + 1) + ", 0)", x.group(count + 1, 0), kind);
            due.is("group(" + (count + 2) + ", 0)", x.group(count + 2, 0), -1);
        }
        for (String ninth : CHANGES) {
            due.refuses(text + "^" + ninth.replace("FM301500", "FM301509"), 31);
        }
    }

    /** Each token of a row cut off with all behind it, left out, and told twice. */
    private static void rowOfTokens(String text) {
        due.stands(text, 31);
        String[] tokens = text.split(" ");
        for (int i = 0; i < tokens.length; i++) {
            String before = text.substring(0, placeOf(tokens, i));
            String behind = text.substring(Math.min(text.length(), before.length() + tokens[i].length() + 1));
            due.endsTooEarly(before, 31);
            due.endsTooEarly(before.trim(), 31);
            due.refuses(before + "^" + behind, 31);
            due.refuses(before + tokens[i] + " ^" + tokens[i] + " " + behind, 31);
            if (i < tokens.length - 1) {
                due.refuses("^" + behind, 31);
            }
        }
    }

    private static int placeOf(String[] tokens, int index) {
        int place = 0;
        for (int i = 0; i < index; i++) {
            place += tokens[i].length() + 1;
        }
        return place;
    }

    private static void stations() {
        due.sentence("station: four letters A .. Z.");
        String rest = " 021320Z 24015KT CAVOK" + TAIL;
        due.stands("METAR AAAA" + rest, 31);
        due.stands("METAR ZZZZ" + rest, 31);
        for (String wrong : "A AAA AAAAA AAAAAAAA".split(" ")) {
            due.refuses("METAR ^" + wrong + rest, 31);
            due.refuses("TAF ^" + wrong + rest, 31);
        }
        for (int i = 0; i < 4; i++) {
            for (char wrong : "@[`{azAZ09/".toCharArray()) {
                String station = "KSFO".substring(0, i) + wrong + "KSFO".substring(i + 1);
                if (wrong >= 'A' && wrong <= 'Z') {
                    due.is("told(" + (6 + i) + ")", due.having("METAR " + station + rest, 31).told(6 + i), wrong);
                } else {
                    due.refuses("METAR ^" + station + rest, 31);
                }
            }
        }
    }

    private static void issues() {
        due.sentence("issue: ddddddZ, a day from 1 on (two digits; the month's last day at most), "
                + "an hour 00 .. 23, a minute 00 .. 59.");
        String rest = " 24015KT CAVOK" + TAIL;
        for (int days = 28; days <= 31; days++) {
            for (int day = 0; day < 100; day++) {
                String mark = day >= 1 && day <= days ? "" : "^";
                issueOf(mark, String.format("%02d1234Z", day), rest, days);
            }
        }
        for (int number = 0; number < 100; number++) {
            issueOf(number <= 23 ? "" : "^", String.format("15%02d00Z", number), rest, 31);
            issueOf(number <= 59 ? "" : "^", String.format("1500%02dZ", number), rest, 31);
        }
        for (String wrong : "Z 15Z 1512Z 15123Z 1512000Z 151200 151200ZZ 151200Y Z151200 +11200Z 1-1200Z".split(" ")) {
            issueOf("^", wrong, rest, 31);
        }
    }

    private static void issueOf(String mark, String issue, String rest, int days) {
        String text = "METAR EDDM " + mark + issue + rest;
        if (mark.isEmpty()) {
            due.stands(text, days);
        } else {
            due.refuses(text, days);
        }
    }

    private static void temperatures() {
        due.sentence("temperature: [M]dd/[M]dd (M: below zero, M00 being 0 that is told as M00 again; "
                + "the second one is the dew point).");
        for (String degrees : "00/00 M00/M00 M00/00 00/M00 01/M01 M01/01 99/M99 M99/99 10/20 M20/M10".split(" ")) {
            String text = CALM + "CAVOK " + degrees + " Q0998";
            Sky x = due.having(text, 31);
            String[] both = degrees.replace('M', '-').split("/");
            due.is("told(3) of " + degrees, x.told(3), Integer.parseInt(both[0]));
            due.is("told(4) of " + degrees, x.told(4), Integer.parseInt(both[1]));
            due.is("printed", x.printed(), text);
            due.is("check()", x.check(), 1);
        }
        for (String wrong : ("0/00 00/0 000/00 00/000 / 00/ /00 00 M00 MM00/00 00/MM00 M0/00 00/M0 M000/00 00/M000 0M0/00 "
                + "-01/00 01/-1 00-00 0000 00//00 00/00/00 00/00M M/M M/00 00/M").split(" ")) {
            due.refuses(CALM + "CAVOK ^" + wrong + " Q0998", 31);
        }
        due.refuses(CALM + "CAVOK ^00 /00 Q0998", 31);
    }

    private static void pressures() {
        due.sentence("pressure: Qdddd.");
        String begin = CALM + "CAVOK M02/M05 ";
        due.is("told(5) of Q0000", due.having(begin + "Q0000", 31).told(5), 0);
        due.is("told(5) of Q0001", due.having(begin + "Q0001", 31).told(5), 1);
        due.is("told(5) of Q9999", due.having(begin + "Q9999", 31).told(5), 9999);
        for (String wrong : "Q Q000 Q00000 0000 P0000 R0000 Q-001 QQ000 A2992".split(" ")) {
            due.refuses(begin + "^" + wrong, 31);
        }
    }

    private static void winds() {
        due.sentence("WIND: dddddKT or dddddGddKT: a direction (three digits, a multiple of ten, 360 at most, "
                + "or VRB instead of it), a speed, and behind G gusts, which are faster.");
        for (int direction = 0; direction < 1000; direction++) {
            wind(direction <= 360 && direction % 10 == 0, String.format("%03d15KT", direction));
            wind(direction <= 360 && direction % 10 == 0, String.format("%03d15G16KT", direction));
        }
        for (int speed = 0; speed < 100; speed++) {
            wind(true, String.format("240%02dKT", speed));
            wind(true, String.format("VRB%02dKT", speed));
            wind(false, String.format("240%02dG%02dKT", speed, speed));
            wind(false, String.format("VRB%02dG%02dKT", speed, Math.max(speed - 1, 0)));
            wind(speed < 99, String.format("240%02dG%02dKT", speed, Math.min(speed + 1, 99)));
            wind(speed < 99, String.format("VRB%02dG99KT", speed));
        }
        for (String wrong : ("KT 15KT VRBKT 240KT 2401KT 240151KT 24015 24015K 24015T 24015KTT 24015KTKT 24015MPS 24015GKT "
                + "24015G1KT 24015G161KT 24015G16 24015G16K 24015G16G17KT G16KT 24015VRBKT VRV15KT VR15KT VRBB15KT "
                + "24015H16KT").split(" ")) {
            wind(false, wrong);
        }
    }

    private static void wind(boolean right, String wind) {
        if (right) {
            due.stands(HEAD + wind + " CAVOK" + TAIL, 31);
        } else {
            due.refuses(HEAD + "^" + wind + " CAVOK" + TAIL, 31);
            due.refuses(TEMPO + "^" + wind + " CAVOK", 31);
        }
    }

    private static void skies() {
        due.sentence("SKY: CAVOK, or: visibility, dddd; up to 3 tokens of weather; clouds.");
        for (String sky : new String[] {"CAVOK", "0000 NSC", "9999 NSC", "9999 RA NSC", "9999 RA SN NSC",
            "9999 RA RA RA NSC", "9999 RA VV001", "9999 FEW001", "9999 RA FEW001 FEW001"}) {
            due.stands(CALM + sky + TAIL, 31);
            due.stands(FORECAST + "FM301500 24010KT " + sky, 31);
        }
        for (String sky : new String[] {"^999 NSC", "^99999 NSC", "^9999M NSC", "^RA NSC", "^NSC", "^NSW", "^CAVO", "^CAVOKS",
            "CAVOK ^CAVOK", "CAVOK ^9999", "CAVOK ^RA", "CAVOK ^NSC", "CAVOK ^FEW001", "9999 ^CAVOK", "9999 ^9999 NSC",
            "9999 RA SN GR ^DZ NSC", "9999 RA SN GR ^NSW NSC", "9999 ^NSW NSC", "9999 RA ^9999 NSC", "9999 NSC ^RA",
            "9999 FEW001 ^RA"}) {
            due.refuses(CALM + sky + TAIL, 31);
            due.refuses(FORECAST + "FM301500 24010KT " + sky, 31);
        }
        due.refuses(CALM + "9999 ^M02/M05 Q0998", 31);
        due.refuses(CALM + "9999 RA SN GR ^M02/M05 Q0998", 31);
        due.refuses(FORECAST + "FM301500 24010KT 9999 ^TEMPO 3015/3016 NSW", 31);
        due.endsTooEarly(FORECAST + "FM301500 24010KT 9999 RA SN GR", 31);
    }

    private static void weathers() {
        due.sentence("weather: [- + or VC], then one to four pairs of letters, no blank between");
        for (String sign : new String[] {"", "-", "+", "VC"}) {
            for (String pairs : "RA TS RASN TSRA RASNGR TSRASN TSRASNGR FZDSDSDS".split(" ")) {
                weather(true, sign + pairs);
            }
            for (String pairs : "TSRASNGRPL FZDSDSDSDS RASNGRPL R RAS RASNG TSRASNG TSRASNGRP X RAX XRA XX".split(" ")) {
                weather(false, sign + pairs);
            }
            for (String second : "- + VC".split(" ")) {
                weather(false, sign.isEmpty() ? "RA" + second : sign + second + "RA");
            }
        }
        for (String wrong : "- + VC V C VRA CRA *RA ,RA .RA RA- RA+ RAVC RA-SN VCVC".split(" ")) {
            weather(false, wrong);
        }
        due.refuses(CALM + "9999 ^- RA NSC" + TAIL, 31);
        due.refuses(CALM + "9999 ^SH RA NSC" + TAIL, 31);
        due.refuses(CALM + "9999 RA ^VC RA NSC" + TAIL, 31);
    }

    private static void weatherPairs() {
        due.sentence("at first, if any, one of MI BC PR DR BL SH TS FZ (0 to 7 below), then DZ RA SN SG PL GR GS BR FG FU VA "
                + "DU SA HZ PO SQ FC SS DS (0 to 18), at most three of these, one at least, but TS may stand alone.");
        for (String first : FIRSTS.split(" ")) {
            weather(first.equals("TS"), first);
            weather(first.equals("TS"), "VC" + first);
            weather(first.equals("TS"), "-" + first);
            for (String second : FIRSTS.split(" ")) {
                weather(false, first + second);
                weather(false, first + second + "RA");
            }
            for (String other : OTHERS.split(" ")) {
                weather(true, first + other);
                weather(false, other + first);
                weather(false, other + first + other);
                weather(true, first + other + other + other);
                weather(false, first + other + other + other + other);
            }
        }
        for (String other : OTHERS.split(" ")) {
            weather(true, other);
            weather(true, other + other + other);
            weather(false, other + other + other + other);
        }
        for (char one = 'A'; one <= 'Z'; one++) {
            for (char two = 'A'; two <= 'Z'; two++) {
                String pair = "" + one + two;
                weather((OTHERS + " TS").contains(pair), pair);
            }
        }
    }

    private static void weather(boolean right, String weather) {
        if (right) {
            due.stands(CALM + "9999 " + weather + " NSC" + TAIL, 31);
        } else {
            due.refuses(CALM + "9999 ^" + weather + " NSC" + TAIL, 31);
        }
    }

    private static void clouds() {
        due.sentence("clouds: NSC; or VVddd; or one to four tokens FEWddd, SCTddd, BKNddd or OVCddd");
        for (String right : new String[] {"NSC", "VV000", "VV999", "FEW000", "SCT000", "BKN000", "OVC999", "FEW001 SCT002",
            "FEW001 SCT002 BKN003", "FEW001 SCT002 BKN003 OVC004", "OVC001 BKN002 SCT003 FEW004"}) {
            due.stands(CALM + "9999 " + right + TAIL, 31);
            due.stands(TEMPO + right, 31);
        }
        for (String wrong : new String[] {"^VV00", "^VV0000", "^VV", "^VVV001", "^V001", "^VV001CB", "^VV001TCU", "^FEW00",
            "^FEW0000", "^FEW", "^FE001", "^FEWW001", "^CB", "^001", "^SKC001", "^NSC001", "^NSCC", "^NS", "NSC ^NSC",
            "NSC ^VV001", "NSC ^FEW001", "VV001 ^NSC", "VV001 ^VV001", "VV001 ^FEW001", "FEW001 ^NSC", "FEW001 ^VV001",
            "FEW001 SCT002 BKN003 OVC004 ^OVC005", "FEW001 FEW001 FEW001 FEW001 ^FEW001",
            "FEW001 SCT002 BKN003 OVC004 ^NSC"}) {
            due.refuses(CALM + "9999 " + wrong + TAIL, 31);
            due.refuses(TEMPO + wrong, 31);
        }
    }

    private static void layers() {
        due.sentence("with CB or TCU behind, or without, none lower than the one before.");
        for (String amount : "FEW SCT BKN OVC".split(" ")) {
            for (String right : new String[] {"", "CB", "TCU"}) {
                due.stands(CALM + "9999 " + amount + "010" + right + TAIL, 31);
                due.stands(CALM + "9999 FEW010TCU " + amount + "010" + right + " " + amount + "010" + TAIL, 31);
                due.refuses(CALM + "9999 FEW010 ^" + amount + "009" + right + TAIL, 31);
            }
            for (String wrong : "C B TC TCUU CBB CBTCU TCUCB CU CBCB T U CBS".split(" ")) {
                due.refuses(CALM + "9999 ^" + amount + "010" + wrong + TAIL, 31);
            }
        }
        for (String right : new String[] {"FEW000 FEW000 FEW000 FEW000", "FEW999 SCT999 BKN999 OVC999", "FEW000 OVC999",
            "FEW009 FEW010 FEW099 FEW100"}) {
            due.stands(CALM + "9999 " + right + TAIL, 31);
        }
        for (String wrong : new String[] {"FEW999 ^FEW998", "FEW001 ^FEW000", "FEW010 FEW020 ^FEW019",
            "FEW010 FEW020 ^FEW010", "FEW010 FEW010 FEW010 ^FEW009", "OVC100 ^BKN099", "FEW512 ^FEW511"}) {
            due.refuses(CALM + "9999 " + wrong + TAIL, 31);
            due.refuses(TEMPO + wrong, 31);
        }
        due.stands(TEMPO + "FEW010 BECMG 3015/3016 FEW009", 31);
    }

    private static void changes() {
        due.sentence("CHANGES: FMdddddd (day, hour, minute) WIND SKY; or BECMG period PARTS; or TEMPO period PARTS; "
                + "or PROB30 / PROB40, perhaps TEMPO, period PARTS.");
        for (String change : CHANGES) {
            due.stands(FORECAST + change, 31);
            String[] tokens = change.split(" ");
            for (int i = 1; i < tokens.length; i++) {
                due.endsTooEarly(FORECAST + change.substring(0, placeOf(tokens, i)), 31);
            }
        }
        for (String wrong : new String[] {"^FM", "^FM3015", "^FM30150", "^FM3015000", "^FM301500Z", "^FN301500", "^301500",
            "^FM 301500", "FM301500 ^3015/3016 NSW", "FM301500 ^CAVOK", "FM301500 ^9999 NSC", "FM301500 24010KT ^NSC",
            "FM301500 24010KT ^NSW", "FM301500 24010KT ^BECMG", "^BECM 3015/3016 NSW", "^BECMGS 3015/3016 NSW",
            "BECMG ^NSW", "BECMG ^BECMG", "BECMG ^TEMPO 3015/3016 NSW", "BECMG ^FM301500 24010KT CAVOK", "^TEMP 3015/3016",
            "^TEMPOO 3015/3016 NSW", "TEMPO ^NSW", "TEMPO ^TEMPO 3015/3016 NSW", "TEMPO ^BECMG 3015/3016 NSW",
            "TEMPO ^PROB30 3015/3016 NSW", "^PROB 3015/3016 NSW", "^PROB3 3015/3016", "^PROB20 3015/3016 NSW",
            "^PROB31 3015/3016 NSW", "^PROB50 3015/3016 NSW", "^PROB300 3015/3016 NSW", "^PROB30/PROB40 3015/3016 NSW",
            "PROB30 ^PROB40 3015/3016 NSW", "PROB30 ^BECMG 3015/3016 NSW", "PROB30 ^FM301500 24010KT CAVOK",
            "PROB40 TEMPO ^TEMPO 3015/3016 NSW", "PROB40 TEMPO ^BECMG 3015/3016 NSW", "PROB40 ^NSW", "PROB40 TEMPO ^NSW",
            "^3015/3016 NSW", "^NSW", "^24010KT", "^CAVOK", "^PROB30TEMPO 3015/3016 NSW"}) {
            due.refuses(FORECAST + wrong, 31);
        }
    }

    private static void parts() {
        due.sentence("PARTS: [WIND] and then CAVOK, or [visibility] [weather tokens, up to 3, or NSW] [clouds]; "
                + "one of these at least");
        for (String wind : new String[] {"", "24010KT "}) {
            due.stands(TEMPO + wind + "CAVOK", 31);
            for (String visibility : new String[] {"", "0000 "}) {
                for (String weather : new String[] {"", "NSW ", "RA ", "RA SN ", "RA SN GR "}) {
                    for (String clouds : new String[] {"", "NSC", "VV001", "FEW001 FEW001 FEW001 FEW001"}) {
                        String parts = (wind + visibility + weather + clouds).trim();
                        if (!parts.isEmpty()) {
                            due.stands(TEMPO + parts, 31);
                            due.stands(TEMPO + parts + " BECMG 3015/3016 " + parts, 31);
                        }
                    }
                }
            }
        }
        due.endsTooEarly(TEMPO, 31);
        due.endsTooEarly(TEMPO.trim(), 31);
        for (String change : CHANGES) {
            due.refuses(TEMPO + "^" + change, 31);
        }
    }

    private static void noParts() {
        due.sentence("what is no such part then can't stand");
        for (String parts : new String[] {"RA SN GR ^DZ", "RA SN GR ^NSW", "NSW ^RA", "NSW ^NSW", "RA ^NSW", "^XX", "^Q0998",
            "^M02/M05", "^3015/3016", "24010KT ^24010KT", "24010KT ^XX", "9999 ^24010KT", "RA ^24010KT", "NSC ^24010KT",
            "CAVOK ^24010KT", "CAVOK ^CAVOK", "CAVOK ^9999", "CAVOK ^RA", "CAVOK ^NSW", "CAVOK ^NSC", "9999 ^CAVOK",
            "RA ^CAVOK", "NSW ^CAVOK", "NSC ^CAVOK", "9999 ^9999", "RA ^9999", "NSW ^9999", "NSC ^9999", "NSC ^RA", "NSC ^NSW",
            "NSC ^NSC", "FEW001 ^RA", "^24010G10KT", "^NSWW", "^10000"}) {
            due.refuses(TEMPO + parts, 31);
            due.refuses(FORECAST + "BECMG 3015/3016 " + parts, 31);
            due.refuses(FORECAST + "PROB30 TEMPO 3015/3016 " + parts + " BECMG 3015/3016 NSW", 31);
        }
    }

    private static void periods() {
        due.sentence("period: dddd/dddd, from a day and an hour 00 .. 23 to a day and an hour 00 .. 24 (days as above).");
        String rest = " 24010KT CAVOK";
        for (int hour = 0; hour < 100; hour++) {
            period(hour <= 23, "TAF LFPG 150000Z ", String.format("15%02d/1606", hour), rest, 31);
            period(hour <= 24, "TAF LFPG 140000Z ", String.format("1423/15%02d", hour), rest, 31);
            period(hour <= 23, "TAF LFPG 150000Z 1500/1606 24010KT CAVOK TEMPO ", String.format("15%02d/1606", hour),
                    " NSW", 31);
            period(hour <= 24, "TAF LFPG 140000Z 1423/1524 24010KT CAVOK TEMPO ", String.format("1423/15%02d", hour),
                    " NSW", 31);
        }
        for (int days = 28; days <= 31; days++) {
            String last = "TAF LFPG " + days + "0000Z ";
            period(true, last, days + "00/" + days + "24", rest, days);
            period(true, last, days + "23/0100", rest, days);
            period(true, last, "0100/0101", rest, days);
            period(false, last, "0000/0101", rest, days);
            period(false, last, days + "23/0001", rest, days);
            period(false, last, (days + 1) + "00/" + (days + 1) + "01", rest, days);
            period(false, last, days + "23/" + (days + 1) + "01", rest, days);
            period(false, last, (days + 1) + "00/0101", rest, days);
        }
        for (String wrong : ("3012 3012/ /3118 3012/31 3012/311 301/3118 30120/3118 3012/31180 30123118 3012-3118 3012//3118 "
                + "3012/3118/ 3012/3118Z 3012/FM31").split(" ")) {
            period(false, TAF, wrong, rest, 31);
            period(false, TAF + "3012/3118 24010KT CAVOK TEMPO ", wrong, " NSW", 31);
        }
    }

    private static void period(boolean right, String before, String period, String rest, int days) {
        if (right) {
            due.stands(before + period + rest, days);
        } else {
            due.refuses(before + "^" + period + rest, days);
        }
    }
}
