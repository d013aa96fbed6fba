/** Promises 8 to 13: from, active, activeOne, least, ceiling and next. */
public final class MinuteTest {
    private static final int DAY = 14 * 1440;
    private static final int BEGIN = DAY + 360;
    private static final int END = DAY + 1080;
    private static final String HEAD = "TAF LFPG 150500Z 1506/1518 24010KT 5000 RA BKN020 ";
    private static final Due due = new Due();

    public static void main(String[] args) {
        noForecast();
        edgesOfThePeriod();
        fromAndBecoming();
        orderOfTheText();
        becomingAtTheEnd();
        activeGroups();
        leastVisibility();
        ceilings();
        nextTurns();
        hiddenTurns();
        exchangeOfActive();
        olderChangesAreGone();
        due.end("MinuteTest");
    }

    private static void noneAt(Sky x, int minute) {
        for (int what = 0; what < 4; what++) {
            due.is("from(" + minute + ", " + what + ")", x.from(minute, what), -1);
        }
        due.is("active(" + minute + ")", x.active(minute), -1);
        due.is("activeOne(" + minute + ", 0)", x.activeOne(minute, 0), -1);
        due.is("least(" + minute + ")", x.least(minute), -1);
        due.is("ceiling(" + minute + ", 0)", x.ceiling(minute, 0), -1);
        due.is("ceiling(" + minute + ", 1)", x.ceiling(minute, 1), -1);
        due.is("next(" + minute + ")", x.next(minute), -1);
    }

    private static void from(Sky x, int minute, int... wants) {
        for (int what = 0; what < wants.length; what++) {
            due.is("from(" + minute + ", " + what + ")", x.from(minute, what), wants[what]);
        }
    }

    private static void noForecast() {
        noneAt(new Sky(), 0);
        Sky x = due.having("METAR EDDM 150000Z 24010KT 5000 BKN020 10/05 Q1000", 31);
        noneAt(x, 0);
        noneAt(x, DAY);
    }

    private static void edgesOfThePeriod() {
        Sky x = due.having(HEAD + "TEMPO 1506/1518 0100 VV001 BECMG 1506/1507 CAVOK", 31);
        noneAt(x, BEGIN - 1);
        noneAt(x, END);
        noneAt(x, Integer.MIN_VALUE);
        noneAt(x, Integer.MAX_VALUE);
        noneAt(x, -1);
        from(x, BEGIN, 0, 0, 0, 0);
        from(x, END - 1, 0, 2, 2, 2);
        for (int what : new int[] {-1, 4, Integer.MIN_VALUE, Integer.MAX_VALUE}) {
            due.is("from(BEGIN, " + what + ")", x.from(BEGIN, what), -1);
            due.is("ceiling(BEGIN, " + what + ")", x.ceiling(BEGIN, what), -1);
        }
        due.is("ceiling(BEGIN, 2)", x.ceiling(BEGIN, 2), -1);
        due.is("active(BEGIN)", x.active(BEGIN), 1);
        due.is("active(END - 1)", x.active(END - 1), 1);
    }

    private static void fromAndBecoming() {
        Sky x = due.having(HEAD + "FM150830 VRB01KT 6000 NSC BECMG 1509/1510 36020KT NSW "
                + "BECMG 1511/1512 7000 BECMG 1512/1513 SCT010 TEMPO 1506/1518 CAVOK PROB30 1506/1518 CAVOK", 31);
        from(x, DAY + 509, 0, 0, 0, 0);
        from(x, DAY + 510, 1, 1, 1, 1);
        from(x, DAY + 599, 1, 1, 1, 1);
        from(x, DAY + 600, 2, 1, 2, 1);
        from(x, DAY + 719, 2, 1, 2, 1);
        from(x, DAY + 720, 2, 3, 2, 1);
        from(x, DAY + 780, 2, 3, 2, 4);
        from(x, END - 1, 2, 3, 2, 4);
    }

    private static void orderOfTheText() {
        Sky x = due.having(HEAD + "BECMG 1509/1512 CAVOK FM151000 VRB01KT 6000 NSC BECMG 1507/1508 7000", 31);
        from(x, DAY + 479, 0, 0, 0, 0);
        from(x, DAY + 480, 0, 3, 0, 0);
        from(x, DAY + 600, 2, 3, 2, 2);
        from(x, DAY + 720, 2, 3, 2, 2);
    }

    private static void becomingAtTheEnd() {
        Sky x = due.having(HEAD + "BECMG 1516/1518 CAVOK", 31);
        from(x, END - 1, 0, 0, 0, 0);
        due.is("next(BEGIN)", x.next(BEGIN), -1);
    }

    private static void activeGroups() {
        Sky x = due.having(HEAD + "TEMPO 1508/1510 NSW FM150800 24010KT CAVOK PROB30 1509/1512 NSW "
                + "BECMG 1509/1512 NSW PROB40 TEMPO 1507/1511 NSW", 31);
        due.is("active at 6:59", x.active(DAY + 419), 0);
        due.is("activeOne at 6:59", x.activeOne(DAY + 419, 0), -1);
        due.is("active at 7:00", x.active(DAY + 420), 1);
        due.is("activeOne at 7:00", x.activeOne(DAY + 420, 0), 5);
        due.is("active at 8:00", x.active(DAY + 480), 2);
        due.is("active at 9:00", x.active(DAY + 540), 3);
        due.is("activeOne 0 at 9:00", x.activeOne(DAY + 540, 0), 1);
        due.is("activeOne 1 at 9:00", x.activeOne(DAY + 540, 1), 3);
        due.is("activeOne 2 at 9:00", x.activeOne(DAY + 540, 2), 5);
        due.is("activeOne 3 at 9:00", x.activeOne(DAY + 540, 3), -1);
        due.is("activeOne -1 at 9:00", x.activeOne(DAY + 540, -1), -1);
        due.is("activeOne least at 9:00", x.activeOne(DAY + 540, Integer.MIN_VALUE), -1);
        due.is("activeOne most at 9:00", x.activeOne(DAY + 540, Integer.MAX_VALUE), -1);
        due.is("active at 9:59", x.active(DAY + 599), 3);
        due.is("active at 10:00", x.active(DAY + 600), 2);
        due.is("activeOne 0 at 10:00", x.activeOne(DAY + 600, 0), 3);
        due.is("active at 12:00", x.active(DAY + 720), 0);
    }

    private static void leastVisibility() {
        Sky x = due.having(HEAD + "TEMPO 1508/1510 0000 PROB30 1509/1512 CAVOK TEMPO 1510/1512 NSW "
                + "BECMG 1512/1513 CAVOK TEMPO 1513/1514 9999", 31);
        due.is("least at 7:59", x.least(DAY + 479), 5000);
        due.is("least at 8:00", x.least(DAY + 480), 0);
        due.is("least at 10:00", x.least(DAY + 600), 5000);
        due.is("least at 12:59", x.least(DAY + 779), 5000);
        due.is("least at 13:00", x.least(DAY + 780), 9999);
        due.is("least at 14:00", x.least(DAY + 840), 10000);
    }

    private static void ceilings() {
        Sky x = due.having("TAF LFPG 150500Z 1506/1518 24010KT 5000 FEW001 SCT002CB BKN020TCU OVC030 "
                + "TEMPO 1508/1510 VV000 PROB30 1509/1511 OVC040 TEMPO 1511/1512 FEW003 BKN015CB BECMG 1512/1513 FEW001 "
                + "TEMPO 1514/1515 OVC999 TEMPO 1515/1516 SCT001 BECMG 1515/1516 VV999", 31);
        ceiling(x, 420, 20, 20);
        ceiling(x, 480, 20, 0);
        ceiling(x, 600, 20, 20);
        ceiling(x, 660, 20, 15);
        ceiling(x, 779, 20, 20);
        ceiling(x, 780, -2, -2);
        ceiling(x, 840, -2, 999);
        ceiling(x, 900, -2, -2);
        ceiling(x, 960, 999, 999);
    }

    private static void ceiling(Sky x, int minute, int sky, int withActive) {
        due.is("ceiling(" + minute + ", 0)", x.ceiling(DAY + minute, 0), sky);
        due.is("ceiling(" + minute + ", 1)", x.ceiling(DAY + minute, 1), withActive);
    }

    private static void nextTurns() {
        Sky x = due.having(HEAD + "FM150600 24010KT CAVOK TEMPO 1508/1510 NSW BECMG 1509/1512 NSW "
                + "FM151330 24010KT CAVOK PROB30 1516/1518 NSW", 31);
        int[] turns = {480, 600, 720, 810, 960};
        int at = BEGIN;
        for (int turn : turns) {
            due.is("next(" + at + ")", x.next(at), DAY + turn);
            due.is("next(" + (DAY + turn - 1) + ")", x.next(DAY + turn - 1), DAY + turn);
            at = DAY + turn;
        }
        due.is("next at the last turn", x.next(at), -1);
        due.is("next at the last minute", x.next(END - 1), -1);
    }

    private static void hiddenTurns() {
        Sky x = due.having(HEAD + "BECMG 1509/1512 CAVOK FM151000 24010KT CAVOK BECMG 1510/1511 9999 "
                + "BECMG 1510/1511 8000", 31);
        due.is("BECMG's beginning is no turn", x.next(BEGIN), DAY + 600);
        due.is("two at a time", x.next(DAY + 600), DAY + 660);
        due.is("BECMG behind a later FM is no turn", x.next(DAY + 660), -1);
    }

    private static void exchangeOfActive() {
        Sky x = due.having(HEAD + "TEMPO 1506/1508 NSW TEMPO 1508/1510 NSW", 31);
        due.is("one ends as another begins", x.next(BEGIN), DAY + 480);
        due.is("the other ends", x.next(DAY + 480), DAY + 600);
        due.is("no more", x.next(DAY + 600), -1);
    }

    /** The object may use its rows again: what three texts before had told must not come through. */
    private static void olderChangesAreGone() {
        String changes = "FM150800 VRB01KT 4000 OVC001 BECMG 1506/1507 3000 OVC001 TEMPO 1506/1518 0100 VV000 "
                + "PROB30 1507/1508 0100 VV000";
        Sky x = due.having(HEAD + changes, 31);
        for (int i = 0; i < 3; i++) {
            due.is("with changes", x.readText(HEAD + changes, 31), 0);
        }
        for (int i = 0; i < 3; i++) {
            due.is("without changes", x.readText(HEAD, 31), 0);
            from(x, DAY + 480, 0, 0, 0, 0);
            due.is("active", x.active(DAY + 480), 0);
            due.is("activeOne", x.activeOne(DAY + 480, 0), -1);
            due.is("least", x.least(DAY + 480), 5000);
            due.is("ceiling", x.ceiling(DAY + 480, 1), 20);
            due.is("next", x.next(BEGIN), -1);
        }
        due.is("with one change", x.readText(HEAD + "BECMG 1508/1509 NSW", 31), 0);
        due.is("its end alone", x.next(BEGIN), DAY + 540);
        due.is("and none else", x.next(DAY + 540), -1);
    }
}
