/** Promises 14 to 16: print, character and check. */
public final class PrintCheckTest {
    private static final String REPORT = "METAR EDDM 021320Z VRB15G27KT 3000 -SHRA BR SCT012 BKN025CB M00/00 Q0098";
    private static final String FORECAST = "TAF LFPG 300000Z 3000/3024 00000KT 0000 VV000 FM300000 36001KT CAVOK "
            + "BECMG 3000/3024 NSW NSC PROB30 TEMPO 3023/3024 0800 TEMPO 3000/3001 +TSRAGR FEW001TCU PROB40 3001/3002 VRB01KT";
    private static final Due due = new Due();

    public static void main(String[] args) {
        printing();
        blanks();
        latestPrint();
        charactersThatAreNot();
        checking();
        due.end("PrintCheckTest");
    }

    private static void printing() {
        for (String text : new String[] {REPORT, FORECAST, REPORT.replace("M00/00", "00/M00")}) {
            Sky x = due.having(text, 30);
            due.is("print()", x.print(), text.length());
            due.is("printed", x.printed(), text);
        }
        String overMidnight = "TAF LFPG 302300Z 3023/0124 00000KT CAVOK TEMPO 3023/3024 NSW TEMPO 3023/0100 NSW FM010000 00000KT CAVOK";
        due.is("printed", due.having(overMidnight, 30).printed(), overMidnight);
    }

    private static void blanks() {
        Sky x = due.having("   " + REPORT.replace(" ", "    ") + "   ", 31);
        due.is("one blank between", x.printed(), REPORT);
        due.is("print()", x.print(), REPORT.length());
        due.is("check()", x.check(), 1);
    }

    private static void latestPrint() {
        Sky x = due.having(REPORT, 31);
        due.is("not printed yet", x.character(0), -1);
        due.is("first", x.printed(), REPORT);
        due.is("another one", x.readText(FORECAST, 31), 0);
        due.is("the latest print stays", x.characters(REPORT.length()), REPORT);
        due.is("and its end", x.character(REPORT.length()), -1);
        due.is("check()", x.check(), 1);
        due.is("check prints nothing", x.character(0), 'M');
        due.is("second", x.printed(), FORECAST);
        due.is("a short one", x.readText("METAR EDDM 021320Z VRB15KT CAVOK 00/00 Q0098", 31), 0);
        due.is("print()", x.print(), 44);
        due.is("nothing of a longer one is left", x.character(44), -1);
        due.is("a wrong one", x.readText("TAF", 31), 4);
        due.is("changes no print", x.print(), 44);
    }

    private static void charactersThatAreNot() {
        Sky x = due.having(REPORT, 31);
        int length = x.print();
        due.is("character(0)", x.character(0), 'M');
        due.is("the last one", x.character(length - 1), '8');
        for (int i : new int[] {-1, length, 699, 700, 701, Integer.MIN_VALUE, Integer.MAX_VALUE}) {
            due.is("character(" + i + ")", x.character(i), -1);
        }
    }

    private static void checking() {
        due.is("check() of nothing", new Sky().check(), 1);
        due.is("check() of a report", due.having(REPORT, 31).check(), 1);
        Sky x = due.having(FORECAST, 30);
        x.put("METAR");
        due.is("check() of a forecast", x.check(), 1);
        due.is("the typed text stays", x.type('S', 1), 6);
        due.is("what was read stays", x.told(1), 6);
        due.is("check() again", x.check(), 1);
        due.is("a wrong one", x.read(30), 1);
        due.is("check() after a wrong one", x.check(), 1);
        due.is("printed after it", x.printed(), FORECAST);
    }
}
