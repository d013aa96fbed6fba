/** Counts the answers that are not the ones due, and types texts for the tests. */
final class Due {
    private int asked = 0;
    private int wrong = 0;

    void is(String call, long got, long want) {
        asked++;
        if (got != want) {
            wrong++;
            System.out.println(call + " answered " + got + ", due is " + want);
        }
    }

    void is(String call, String got, String want) {
        asked++;
        if (!got.equals(want)) {
            wrong++;
            System.out.println(call + " answered '" + got + "', due is '" + want + "'");
        }
    }

    /** Reads a text into a new object and asks for what read() answered. */
    void reads(String text, int days, int want) {
        is("read(" + days + ") of '" + text + "'", readInto(new SkyBulletin(), text, days), want);
    }

    /** Reads a text whose first token that can't stand is the one that the mark begins. */
    void refuses(String marked, int days) {
        int place = marked.indexOf('^');
        reads(marked.substring(0, place) + marked.substring(place + 1), days, place + 1);
    }

    /** A new object that has read a text. */
    SkyBulletin having(String text, int days) {
        SkyBulletin x = new SkyBulletin();
        is("read(" + days + ") of '" + text + "'", readInto(x, text, days), 0);
        return x;
    }

    void end(String name) {
        System.out.println(name + ": " + asked + " answers asked for, " + wrong + " wrong");
        if (wrong > 0 || asked == 0) {
            System.exit(1);
        }
    }

    static int readInto(SkyBulletin x, String text, int days) {
        put(x, text);
        return x.read(days);
    }

    static int put(SkyBulletin x, String text) {
        int answer = 0;
        for (int i = 0; i < text.length(); i += 8) {
            String piece = text.substring(i, Math.min(i + 8, text.length()));
            answer = x.type(packed(piece), piece.length());
        }
        return answer;
    }

    static long packed(String piece) {
        long characters = 0;
        for (int i = 0; i < piece.length(); i++) {
            characters = characters << 8 | piece.charAt(i);
        }
        return characters;
    }

    static String printed(SkyBulletin x) {
        int length = x.print();
        return characters(x, length);
    }

    static String characters(SkyBulletin x, int length) {
        StringBuilder text = new StringBuilder();
        for (int i = 0; i < length; i++) {
            text.append((char) x.character(i));
        }
        return text.toString();
    }
}
