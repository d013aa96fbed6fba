/** Counts the answers that are not the ones due. */
final class Due {
    private int asked = 0;
    private int wrong = 0;
    private String sentence = "";
    private int askedOfSentence = 1;

    void is(String call, long got, long want) {
        is(call, Long.toString(got), Long.toString(want));
    }

    void is(String call, String got, String want) {
        asked++;
        askedOfSentence++;
        if (!got.equals(want)) {
            wrong++;
            System.out.println(call + " answered " + got + ", due is " + want + sentence);
        }
    }

    /** The document's words that the answers asked for from here on are due by. */
    void sentence(String words) {
        endSentence();
        sentence = " (" + words + ")";
        askedOfSentence = 0;
    }

    private void endSentence() {
        if (askedOfSentence == 0) {
            wrong++;
            System.out.println("nothing was asked for" + sentence);
        }
    }

    /** Reads a text into a new object and asks for what read() answered. */
    void reads(String text, int days, int want) {
        is("read(" + days + ") of '" + text + "'", new Sky().readText(text, days), want);
    }

    /** Reads a text that can stand. */
    void stands(String text, int days) {
        reads(text, days, 0);
    }

    /** Reads a text that ends too early. */
    void endsTooEarly(String text, int days) {
        reads(text, days, text.length() + 1);
    }

    /** Reads a text whose first token that can't stand is the one that the mark begins. */
    void refuses(String marked, int days) {
        int place = marked.indexOf('^');
        reads(marked.substring(0, place) + marked.substring(place + 1), days, place + 1);
    }

    /** A new object that has read a text. */
    Sky having(String text, int days) {
        Sky x = new Sky();
        is("read(" + days + ") of '" + text + "'", x.readText(text, days), 0);
        return x;
    }

    void end(String name) {
        endSentence();
        System.out.println(name + ": " + asked + " answers asked for, " + wrong + " wrong");
        if (wrong > 0 || asked == 0) {
            System.exit(1);
        }
    }
}
