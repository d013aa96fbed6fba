/** An object under test that counts its calls, since nothing is promised after the 512th. */
final class Sky {
    static final int MOST_CALLS = 512;

    private final SkyBulletin bulletin = new SkyBulletin();
    private int calls = 0;

    private SkyBulletin called() {
        calls++;
        if (calls > MOST_CALLS) {
            throw new IllegalStateException("a test asks for more than " + MOST_CALLS + " calls");
        }
        return bulletin;
    }

    int left() {
        return MOST_CALLS - calls;
    }

    int type(long characters, int n) {
        return called().type(characters, n);
    }

    int read(int days) {
        return called().read(days);
    }

    int told(int what) {
        return called().told(what);
    }

    int group(int g, int what) {
        return called().group(g, what);
    }

    int weather(int g, int k) {
        return called().weather(g, k);
    }

    int cloud(int g, int k) {
        return called().cloud(g, k);
    }

    int from(int minute, int what) {
        return called().from(minute, what);
    }

    int active(int minute) {
        return called().active(minute);
    }

    int activeOne(int minute, int i) {
        return called().activeOne(minute, i);
    }

    int least(int minute) {
        return called().least(minute);
    }

    int ceiling(int minute, int way) {
        return called().ceiling(minute, way);
    }

    int next(int minute) {
        return called().next(minute);
    }

    int print() {
        return called().print();
    }

    int character(int i) {
        return called().character(i);
    }

    int check() {
        return called().check();
    }

    /** Types a text in pieces of eight: what the last one answered. */
    int put(String text) {
        return put(text, 8);
    }

    int put(String text, int size) {
        int answer = 0;
        for (int i = 0; i < text.length(); i += size) {
            String piece = text.substring(i, Math.min(i + size, text.length()));
            answer = type(packed(piece), piece.length());
        }
        return answer;
    }

    int readText(String text, int days) {
        put(text);
        return read(days);
    }

    /** What print() prints. */
    String printed() {
        return characters(print());
    }

    String characters(int length) {
        StringBuilder text = new StringBuilder();
        for (int i = 0; i < length; i++) {
            text.append((char) character(i));
        }
        return text.toString();
    }

    /** All that calls tell that change nothing: two of these differ if something did not stay. */
    String sight(int... minutes) {
        StringBuilder all = new StringBuilder();
        for (int what = 0; what < 10; what++) {
            all.append(told(what)).append(' ');
        }
        for (int g = 0; group(g, 0) != SkyBulletin.NONE; g++) {
            for (int what = 0; what < 10; what++) {
                all.append(group(g, what)).append(' ');
            }
            for (int k = 0; k < group(g, 8); k++) {
                all.append(weather(g, k)).append(' ');
            }
            for (int k = 0; k < group(g, 9); k++) {
                all.append(cloud(g, k)).append(' ');
            }
        }
        for (int minute : minutes) {
            all.append(sightAt(minute));
        }
        for (int i = 0; character(i) != SkyBulletin.NONE; i++) {
            all.append((char) character(i));
        }
        return all.toString();
    }

    private String sightAt(int minute) {
        StringBuilder all = new StringBuilder();
        for (int what = 0; what < 4; what++) {
            all.append(from(minute, what)).append(' ');
        }
        all.append(active(minute)).append(' ').append(activeOne(minute, 0)).append(' ');
        all.append(least(minute)).append(' ').append(ceiling(minute, 0)).append(' ');
        all.append(ceiling(minute, 1)).append(' ').append(next(minute)).append(' ');
        return all.toString();
    }

    static long packed(String piece) {
        long characters = 0;
        for (int i = 0; i < piece.length(); i++) {
            characters = characters << 8 | piece.charAt(i);
        }
        return characters;
    }
}
