/** Any calls with any arguments, 512 an object: none throws, and the same calls give the same answers. */
public final class AnyCallsTest {
    private static final int OBJECTS = 1500;
    private static final int METHODS = 15;
    private static final String[] WORDS = ("METAR TAF EDDM 301100Z 3012/3118 3015/3016 0100/0101 24010KT VRB03G15KT CAVOK 9999 0800 RA "
            + "-SHRA VCTS NSW NSC VV001 FEW010 BKN020CB OVC999TCU M00/12 Q0998 FM301500 FM311759 BECMG TEMPO PROB30 PROB40 X "
            + "THISTOKENISLONGERTHANANYTHATCANSTAND").split(" ");
    private static final String[] TEXTS = {"METAR EDDM 021320Z 24015KT 3000 RA SN BKN012 M02/M05 Q0998",
        "TAF LFPG 301100Z 3012/3118 24010KT 9999 FEW030 FM301500 VRB03KT 4000 BR BKN008 BECMG 3018/3020 0800 FG VV002 ",
        "TAF LFPG 301100Z 3012/0102 24010KT CAVOK PROB30 TEMPO 3100/0101 0200 "};
    private static final int[] EDGES = {0, 1, -1, 2, 3, 4, 7, 8, 9, 10, 27, 28, 30, 31, 32, 699, 700, 42480, 42600, 44279, 44280,
        Integer.MIN_VALUE, Integer.MAX_VALUE};
    private static final Due due = new Due();
    private static int stood = 0;
    /** A row of numbers that is the same in each run. */
    private static long seed = 20261116;

    public static void main(String[] args) {
        for (int i = 0; i < OBJECTS; i++) {
            twoObjects();
        }
        due.is("texts stood", stood > OBJECTS ? 1 : 0, 1);
        due.end("AnyCallsTest");
    }

    private static void twoObjects() {
        Sky one = new Sky();
        Sky two = new Sky();
        while (one.left() > 1) {
            if (one.left() > 50 && upTo(20) == 0) {
                due.is("read(31) of what is typed", one.read(31), two.read(31));
                String text = someText();
                due.is("put() of '" + text + "'", one.put(text), two.put(text));
                int place = one.read(31);
                due.is("read(31) of '" + text + "'", place, two.read(31));
                stood += place == 0 ? 1 : 0;
            } else {
                int method = upTo(METHODS);
                int a = someNumber();
                int b = someNumber();
                long characters = upTo(2) == 0 ? Sky.packed("METAR ED") : (long) a << 32 ^ b;
                int answer = call(one, method, a, b, characters);
                due.is("call " + method + " with " + a + ", " + b, answer, call(two, method, a, b, characters));
                due.is("call " + method + " answers at least -1001", answer >= -1001 ? 1 : 0, 1);
            }
        }
        due.is("check(), the 512th call", one.check(), 1);
    }

    private static int call(Sky x, int method, int a, int b, long characters) {
        switch (method) {
            case 0:
                return x.type(characters, b);
            case 1:
                return x.read(a);
            case 2:
                return x.told(a);
            case 3:
                return x.group(a, b);
            case 4:
                return x.weather(a, b);
            case 5:
                return x.cloud(a, b);
            case 6:
                return x.from(a, b);
            case 7:
                return x.active(a);
            case 8:
                return x.activeOne(a, b);
            case 9:
                return x.least(a);
            case 10:
                return x.ceiling(a, b);
            case 11:
                return x.next(a);
            case 12:
                return x.print();
            case 13:
                return x.character(a);
            default:
                return x.check();
        }
    }

    private static String someText() {
        StringBuilder text = new StringBuilder(upTo(4) == 0 ? "" : TEXTS[upTo(TEXTS.length)]);
        int words = upTo(6);
        for (int i = 0; i < words; i++) {
            text.append(WORDS[upTo(WORDS.length)]).append(" ".repeat(upTo(3)));
        }
        return text.toString();
    }

    private static int someNumber() {
        switch (upTo(4)) {
            case 0:
                return (int) (seed >>> 20);
            case 1:
                return 42480 + upTo(1800);
            case 2:
                return upTo(12) - 1;
            default:
                return EDGES[upTo(EDGES.length)];
        }
    }

    private static int upTo(int bound) {
        seed = seed * 6364136223846793005L + 1442695040888963407L;
        return (int) ((seed >>> 33) % bound);
    }
}
