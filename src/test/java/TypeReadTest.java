/** Promises 1 to 3: a new object, type and read. */
public final class TypeReadTest {
    private static final String HEAD = "METAR EDDM 021320Z ";
    private static final String TAIL = " M02/M05 Q0998";
    private static final String CALM = "METAR EDDM 021320Z 24015KT ";
    private static final String FORECAST = "TAF LFPG 301100Z 3012/3118 24010KT 9999 NSC ";

    private static final Due due = new Due();

    public static void main(String[] args) {
        newObject();
        typing();
        typingTooMuch();
        readingEmpties();
        readingWrongDays();
        heads();
        issues();
        winds();
        skies();
        weathers();
        clouds();
        temperatures();
        forecastPeriods();
        changes();
        parts();
        changePeriods();
        fromTimes();
        mostChanges();
        due.end("TypeReadTest");
    }

    private static void newObject() {
        Sky x = new Sky();
        due.is("NONE", SkyBulletin.NONE, -1);
        due.is("new told(0)", x.told(0), 0);
        due.is("new told(1)", x.told(1), 0);
        for (int what = 2; what < 11; what++) {
            due.is("new told(" + what + ")", x.told(what), -1001);
        }
        due.is("new group(0, 0)", x.group(0, 0), -1);
        due.is("new print()", x.print(), 0);
        due.is("new character(0)", x.character(0), -1);
        due.is("new check()", x.check(), 1);
        due.is("new next(0)", x.next(0), -1);
    }

    private static void typing() {
        Sky x = new Sky();
        due.is("type one", x.type('M', 1), 1);
        due.is("type eight", x.type(Sky.packed("ETAR EDD"), 8), 9);
        due.is("type none", x.type('M', 0), -1);
        due.is("type minus one", x.type('M', -1), -1);
        due.is("type nine", x.type(Sky.packed("ETAR EDD"), 9), -1);
        due.is("type 31", x.type(31, 1), -1);
        due.is("type 127", x.type(127, 1), -1);
        due.is("type 255", x.type(-1L, 1), -1);
        due.is("a wrong one among right ones", x.type(Sky.packed("A\u001fB"), 3), -1);
        due.is("a wrong one at first", x.type(Sky.packed("\u007fAB"), 3), -1);
        due.is("higher bytes are not looked at", x.type(-256L | 'M', 1), 10);
        due.is("a blank", x.type(32, 1), 11);
        due.is("126", x.type(126, 1), 12);
        due.is("what was typed", x.read(31), 12);
        due.is("the highest first", x.readText(HEAD + "24015KT CAVOK" + TAIL, 31), 0);
    }

    private static void typingTooMuch() {
        Sky x = new Sky();
        for (int i = 1; i <= 87; i++) {
            x.type(Sky.packed("        "), 8);
        }
        due.is("696 and 5", x.type(Sky.packed("     "), 5), -1);
        due.is("696 and 4", x.type(Sky.packed("    "), 4), 700);
        due.is("700 and 1", x.type(32, 1), -1);
        due.is("700 blanks", x.read(31), 701);
        due.is("empty then", x.type(32, 1), 1);
    }

    private static void readingEmpties() {
        Sky x = new Sky();
        due.is("nothing typed", x.read(31), 1);
        due.is("a text", x.readText(CALM + "CAVOK" + TAIL, 31), 0);
        due.is("empty after 0", x.read(31), 1);
        due.is("a wrong text", x.readText(FORECAST + "FM", 31), 45);
        due.is("empty after a wrong one", x.read(31), 1);
        due.is("all stays: told(0)", x.told(0), 1);
        due.is("all stays: group(0, 5)", x.group(0, 5), 15);
        due.is("all stays: group(0, 2)", x.group(0, 2), -1);
        due.is("all stays: print()", x.printed(), CALM + "CAVOK" + TAIL);
        due.is("the next one", x.readText(FORECAST, 31), 0);
        due.is("takes its place", x.told(0), 2);
        due.is("and its degrees", x.told(3), -1001);
    }

    private static void readingWrongDays() {
        Sky x = new Sky();
        x.put(CALM + "CAVOK" + TAIL);
        for (int days : new int[] {27, 32, 0, -1, Integer.MIN_VALUE, Integer.MAX_VALUE}) {
            due.is("read(" + days + ")", x.read(days), -1);
        }
        due.is("the typed text stays", x.type(32, 1), CALM.length() + 5 + TAIL.length() + 1);
        due.is("and can be read", x.read(28), 0);
    }

    private static void heads() {
        due.reads("METAR", 31, 6);
        due.reads("METAR  ", 31, 8);
        due.reads("   ", 31, 4);
        due.refuses("^METARS EDDM", 31);
        due.refuses("^metar EDDM", 31);
        due.refuses("  ^SPECI EDDM", 31);
        due.refuses("METAR  ^EDD", 31);
        due.refuses("TAF ^EDDMM", 31);
        due.refuses("TAF ^EDD1", 31);
        due.refuses("TAF ^EDD[", 31);
        due.refuses("TAF ^@DDM", 31);
        due.refuses("TAF TAFF ^TAF", 31);
        due.reads("  METAR   EDDM 021320Z  24015KT CAVOK  M02/M05 Q0998   ", 31, 0);
        due.refuses(CALM + "CAVOK" + TAIL + " ^Q0998", 31);
        due.refuses(CALM + "CAVOK" + TAIL + " ^TEMPO", 31);
        due.refuses(CALM + "CAVOK" + TAIL + " ^X", 31);
        due.refuses(FORECAST + "^X", 31);
        due.refuses("METAR EDDM 021320Z ^0212/0224 24015KT CAVOK" + TAIL, 31);
        due.refuses("TAF EDDM 021320Z ^24015KT CAVOK", 31);
        due.refuses("TAF EDDM 021320Z 0214/0224 24015KT CAVOK ^M02/M05", 31);
    }

    private static void issues() {
        String rest = " 24015KT CAVOK" + TAIL;
        due.reads("METAR EDDM 010000Z" + rest, 28, 0);
        due.reads("METAR EDDM 282359Z" + rest, 28, 0);
        due.reads("METAR EDDM 312359Z" + rest, 31, 0);
        due.refuses("METAR EDDM ^292359Z" + rest, 28);
        due.refuses("METAR EDDM ^312359Z" + rest, 30);
        due.refuses("METAR EDDM ^000000Z" + rest, 31);
        due.refuses("METAR EDDM ^012400Z" + rest, 31);
        due.refuses("METAR EDDM ^010060Z" + rest, 31);
        due.refuses("METAR EDDM ^01006Z" + rest, 31);
        due.refuses("METAR EDDM ^0100060Z" + rest, 31);
        due.refuses("METAR EDDM ^010006z" + rest, 31);
        due.refuses("METAR EDDM ^0100:6Z" + rest, 31);
        due.refuses("METAR EDDM ^010006ZZ" + rest, 31);
    }

    private static void winds() {
        String rest = " CAVOK" + TAIL;
        for (String wind : "00000KT 00099KT 36000KT VRB00KT VRB01G02KT 01098G99KT 20000G01KT".split(" ")) {
            due.reads(HEAD + wind + rest, 31, 0);
        }
        for (String wind : ("37010KT 24510KT 24110KT 240100KT 2401KT 24010 24010K 24010KTS 24010MPS VRBKT VRB3KT "
                + "VRB003KT 24010G10KT 24010G09KT 24010GKT 24010G1KT 24010G100KT 24010G20 24010G20G30KT 24010KTKT "
                + "-1010KT /////KT VRC10KT 24010g20KT 24010GVRKT 24010G20KTAAAAAAAAAAAAA CAVOK").split(" ")) {
            due.refuses(HEAD + "^" + wind + rest, 31);
        }
    }

    private static void skies() {
        due.refuses(CALM + "^SCT010" + TAIL, 31);
        due.refuses(CALM + "^RA SCT010" + TAIL, 31);
        due.refuses(CALM + "^NSC" + TAIL, 31);
        due.refuses(CALM + "^CAVOKK" + TAIL, 31);
        due.refuses(CALM + "^10000 NSC" + TAIL, 31);
        due.refuses(CALM + "^999 NSC" + TAIL, 31);
        due.refuses(CALM + "^99/9 NSC" + TAIL, 31);
        due.refuses(CALM + "CAVOK ^NSC" + TAIL, 31);
        due.refuses(CALM + "CAVOK ^RA" + TAIL, 31);
        due.refuses(CALM + "9999 ^CAVOK" + TAIL, 31);
        due.refuses(CALM + "9999 ^9999 NSC" + TAIL, 31);
        due.refuses(CALM + "9999" + " ^M02/M05 Q0998", 31);
        due.refuses(CALM + "9999 ^NSW NSC" + TAIL, 31);
        due.refuses(CALM + "9999 RA ^NSW NSC" + TAIL, 31);
        due.refuses(CALM + "9999 RA ^CAVOK" + TAIL, 31);
        due.reads(CALM + "0000 NSC" + TAIL, 31, 0);
        due.reads(CALM + "9999", 31, CALM.length() + 5);
        due.reads(CALM + "9999 RA", 31, CALM.length() + 8);
    }

    private static void weathers() {
        due.reads(CALM + "9999 RA SN GR NSC" + TAIL, 31, 0);
        due.refuses(CALM + "9999 RA SN GR ^DZ NSC" + TAIL, 31);
        for (String weather : ("RA -RA +RA VCRA TS -TS +TS VCTS TSRA TSRASNGR VCTSRASNGR FZFG MIFG BCFG PRFG DRSN BLSA "
                + "SHRA DZ SG PL GS BR FU VA DU SA HZ PO SQ FC SS DS RASN RASNPL RARARA +FC").split(" ")) {
            due.reads(CALM + "9999 " + weather + " NSC" + TAIL, 31, 0);
        }
        for (String weather : ("SH VCSH FZ MI - + VC R RAS RASNPLGR TSRASNPLGR TSTS SHTS RASH RATS --RA -+RA +VCRA VC-RA "
                + "ra XX RAXX SHXX RA- -VC UP TSR TSRASNGRX NSW RAVC VCTSRASNGRDZ RA,SN").split(" ")) {
            due.refuses(CALM + "9999 ^" + weather + " NSC" + TAIL, 31);
        }
    }

    private static void clouds() {
        for (String clouds : new String[] {"NSC", "VV000", "VV999", "FEW000", "OVC999TCU", "SCT010CB",
            "FEW010 FEW010 SCT010CB OVC010TCU", "FEW001 SCT002 BKN003", "OVC000 FEW999"}) {
            due.reads(CALM + "9999 " + clouds + TAIL, 31, 0);
        }
        for (String clouds : new String[] {"^VV01", "^VV0100", "^VV010CB", "^VV///", "^FEW01", "^FEW0100", "^FEW010C",
            "^FEW010CU", "^FEW010CBT", "^FEW010TC", "^FEW010TCUC", "^FEWCB", "^SKC010", "^few010", "NSC ^NSC",
            "NSC ^FEW010", "VV001 ^FEW010", "VV001 ^VV001", "FEW010 ^NSC", "FEW010 ^VV010", "FEW010 ^SCT009",
            "FEW010 SCT020 ^BKN019", "FEW010 SCT020 BKN030 ^OVC029", "FEW010 FEW010 FEW010 FEW010 ^FEW010",
            "FEW010 ^RA", "^FEW010CBCB", "^OVC010CB/TCU"}) {
            due.refuses(CALM + "9999 " + clouds + TAIL, 31);
        }
    }

    private static void temperatures() {
        String report = CALM + "CAVOK ";
        for (String degrees : "00/00 M00/M00 99/99 M99/M99 12/M01 M01/12 05/10".split(" ")) {
            due.reads(report + degrees + " Q0000", 31, 0);
        }
        for (String degrees : ("1/1 12/1 1/12 012/01 12/012 M1/01 01/M1 MM1/01 -1/01 12-01 12/ /12 M/M 12/M 12/M1 M12/M1 12 "
                + "M12/M123 m12/01 12/01/ 12//01 M1212/01 Q0998").split(" ")) {
            due.refuses(report + "^" + degrees + " Q0998", 31);
        }
        due.reads(report + "12/01 Q9999", 31, 0);
        due.reads(report + "12/01", 31, report.length() + 6);
        for (String pressure : "Q998 Q09980 A2992 0998 Q Q099A q0998 QQ0998".split(" ")) {
            due.refuses(report + "12/01 ^" + pressure, 31);
        }
    }

    private static void forecastPeriods() {
        String rest = " 24010KT CAVOK";
        due.reads("TAF LFPG 301100Z 3012/3118" + rest, 31, 0);
        due.refuses("TAF LFPG 301100Z ^3012/3119" + rest, 31);
        due.reads("TAF LFPG 301100Z 3012/3013" + rest, 31, 0);
        due.refuses("TAF LFPG 301100Z ^3012/3012" + rest, 31);
        due.reads("TAF LFPG 301100Z 3000/3024" + rest, 31, 0);
        due.refuses("TAF LFPG 301100Z ^3024/3106" + rest, 31);
        due.refuses("TAF LFPG 301100Z ^3012/3025" + rest, 31);
        due.refuses("TAF LFPG 301100Z ^3012/3106" + rest, 30);
        due.refuses("TAF LFPG 301100Z ^3100/0106" + rest, 30);
        due.refuses("TAF LFPG 301100Z ^3012/0006" + rest, 31);
        due.refuses("TAF LFPG 301100Z ^0012/0106" + rest, 31);
        due.refuses("TAF LFPG 301100Z ^3012/311" + rest, 31);
        due.refuses("TAF LFPG 301100Z ^30123118" + rest, 31);
        due.refuses("TAF LFPG 301100Z ^3012-3118" + rest, 31);
        due.refuses("TAF LFPG 301100Z ^3012/31180" + rest, 31);
        due.refuses("TAF LFPG 301100Z ^3012/3I18" + rest, 31);
        due.reads("TAF LFPG 311100Z 3112/0118" + rest, 31, 0);
        due.refuses("TAF LFPG 311100Z ^3112/0119" + rest, 31);
        due.reads("TAF LFPG 302300Z 0100/0206" + rest, 30, 0);
        due.reads("TAF LFPG 302300Z 2900/3006" + rest, 30, 0);
        due.refuses("TAF LFPG 302300Z ^2918/2906" + rest, 30);
        due.refuses("TAF LFPG 302300Z ^0212/0112" + rest, 30);
        due.refuses("TAF LFPG 272300Z ^2818/2812" + rest, 28);
        due.refuses("TAF LFPG 292300Z ^2818/0106" + rest, 29);
        due.reads("TAF LFPG 151100Z 1500/1512" + rest, 31, 0);
    }

    private static void changes() {
        for (String change : new String[] {"FM301500 24010KT CAVOK", "BECMG 3015/3016 CAVOK", "TEMPO 3015/3016 CAVOK",
            "PROB30 3015/3016 CAVOK", "PROB40 3015/3016 CAVOK", "PROB30 TEMPO 3015/3016 CAVOK",
            "PROB40 TEMPO 3015/3016 CAVOK"}) {
            due.reads(FORECAST + change, 31, 0);
            due.reads(FORECAST + change + " " + change.replace("FM301500", "FM301501"), 31, 0);
        }
        for (String change : new String[] {"^PROB50 3015/3016 CAVOK", "^PROB 3015/3016 CAVOK", "^INTER 3015/3016 CAVOK",
            "PROB30 ^BECMG 3015/3016 CAVOK", "PROB30 TEMPO ^TEMPO 3015/3016 CAVOK", "TEMPO ^PROB30 3015/3016 CAVOK",
            "PROB30 ^PROB40 3015/3016 CAVOK", "TEMPO ^CAVOK", "BECMG ^FM301500 24010KT CAVOK", "^3015/3016 CAVOK",
            "^TEMPOS 3015/3016 CAVOK", "^24010KT", "PROB30 ^FM301500 24010KT CAVOK"}) {
            due.refuses(FORECAST + change, 31);
        }
        due.reads(FORECAST + "PROB30", 31, FORECAST.length() + 7);
        due.reads(FORECAST + "TEMPO 3015/3016 ", 31, FORECAST.length() + 17);
    }

    private static void parts() {
        String begin = FORECAST + "TEMPO 3015/3016 ";
        for (String parts : new String[] {"24010KT", "24010KT CAVOK", "CAVOK", "9999", "RA", "RA SN GR", "NSW", "NSC",
            "VV001", "FEW001 SCT002 BKN003 OVC004", "9999 RA", "9999 NSW", "9999 NSC", "RA NSC", "NSW NSC",
            "24010KT 9999 RA SN GR FEW001 FEW001 FEW001 FEW001", "24010KT NSW", "24010KT NSC", "24010KT 9999"}) {
            due.reads(begin + parts, 31, 0);
            due.reads(begin + parts + " BECMG 3015/3016 NSW", 31, 0);
        }
        for (String parts : new String[] {"^BECMG 3015/3016 NSW", "^FM301500 24010KT CAVOK", "^12/10", "^Q0998",
            "CAVOK ^24010KT", "9999 ^24010KT", "9999 ^CAVOK", "RA ^9999", "NSC ^RA", "NSC ^NSW", "NSW ^RA", "NSW ^NSW",
            "RA ^NSW", "RA SN GR ^NSW", "RA SN GR ^DZ", "NSW ^9999", "NSC ^9999", "24010KT ^24010KT", "CAVOK ^CAVOK",
            "CAVOK ^NSW", "24010KT CAVOK ^9999", "^24010G05KT", "FEW010 ^SCT009", "NSC ^NSC", "9999 ^9999", "^XX"}) {
            due.refuses(begin + parts, 31);
        }
    }

    private static void changePeriods() {
        String crossing = "TAF KSFO 272300Z 2806/0106 24010KT CAVOK ";
        for (String period : "2806/0106 2806/2807 2823/2824 2823/0100 0100/0101 0105/0106 2806/2824".split(" ")) {
            due.reads(crossing + "TEMPO " + period + " NSW", 28, 0);
        }
        for (String period : ("2805/2807 0105/0107 0106/0107 2806/0107 0105/0105 0105/0104 0100/2824 2824/0101 2820/2812 "
                + "2701/2702 2906/0101 2806/2901 0005/0106 2806/0125 2806").split(" ")) {
            due.refuses(crossing + "TEMPO ^" + period + " NSW", 28);
            due.refuses(crossing + "BECMG ^" + period + " NSW", 28);
            due.refuses(crossing + "PROB30 TEMPO ^" + period + " NSW", 28);
        }
        String late = "TAF KSFO 282300Z 0106/0206 24010KT CAVOK ";
        due.reads(late + "TEMPO 0106/0206 NSW", 28, 0);
        due.refuses(late + "TEMPO ^0105/0110 NSW", 28);
        due.refuses(late + "TEMPO ^2823/0110 NSW", 28);
        due.refuses(late + "TEMPO ^0206/0207 NSW", 28);
    }

    private static void fromTimes() {
        String crossing = "TAF KSFO 272300Z 2806/0106 24010KT CAVOK ";
        for (String time : "280600 280601 282359 010000 010559".split(" ")) {
            due.reads(crossing + "FM" + time + " 24010KT CAVOK", 28, 0);
        }
        for (String time : "280559 010600 010601 282400 290000 280660 000000 27060 2806000 2806/7 280600Z".split(" ")) {
            due.refuses(crossing + "^FM" + time + " 24010KT CAVOK", 28);
        }
        due.refuses(crossing + "FM281000 24010KT CAVOK ^FM281000 24010KT CAVOK", 28);
        due.refuses(crossing + "FM010000 24010KT CAVOK TEMPO 2806/2807 NSW ^FM282359 24010KT CAVOK", 28);
        due.refuses(crossing + "FM281000 ^CAVOK", 28);
        due.refuses(crossing + "FM281000 24010KT ^NSW", 28);
        due.refuses(crossing + "FM281000 24010KT 9999 ^NSW", 28);
        due.refuses(crossing + "FM281000 24010KT 9999 ^TEMPO", 28);
        due.reads(crossing + "FM281000 24010KT", 28, crossing.length() + 17);
    }

    private static void mostChanges() {
        StringBuilder text = new StringBuilder(FORECAST);
        for (int i = 0; i < 8; i++) {
            due.reads(text.toString(), 31, 0);
            text.append("PROB30 TEMPO 3015/3016 NSW ");
        }
        due.reads(text.toString(), 31, 0);
        due.refuses(text + "^PROB30 TEMPO 3015/3016 NSW", 31);
        due.refuses(text + "^FM301500 24010KT CAVOK", 31);
    }
}
