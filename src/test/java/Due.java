/** What the tests share: answers that are due, the sentence that asks for them, and texts for the pad. */
final class Due {
    private static int wrong = 0;
    private static int asked = 0;
    private static String sentence = "";

    private Due() {
    }

    /** Names the sentence of the document that the calls behind it test: its section, ": " and its words. */
    static void sentence(String words) {
        sentence = words;
    }

    static void is(String call, long got, long want) {
        asked++;
        if (got != want) {
            tellWrong(call + " answered " + got + ", due is " + want);
        }
    }

    /** Compares two lists of answers, line by line. */
    static void same(String when, String got, String want) {
        asked++;
        if (!got.equals(want)) {
            String[] gotLines = got.split("\n");
            String[] wantLines = want.split("\n");
            int line = 0;
            while (line < gotLines.length - 1 && line < wantLines.length - 1 && gotLines[line].equals(wantLines[line])) {
                line++;
            }
            tellWrong(when + " told " + gotLines[line] + ", due is " + wantLines[line]);
        }
    }

    private static void tellWrong(String what) {
        wrong++;
        System.out.println(what + (sentence.isEmpty() ? "" : "   [" + sentence + "]"));
    }

    /** The number that puts a text of at most 8 characters. */
    static long coded(String text) {
        long number = 0;
        for (int i = 0; i < text.length(); i++) {
            number = number << 8 | text.charAt(i);
        }
        return number;
    }

    /** Puts a text, behind what the pad holds, and returns the last answer. */
    static int write(DomeLamps x, String text) {
        int length = 0;
        for (int from = 0; from < text.length(); from += 8) {
            length = x.put(coded(text.substring(from, Math.min(text.length(), from + 8))));
        }
        return length;
    }

    /** Tells a show, which has to last so long. */
    static void told(DomeLamps x, int show, String text, int minutes) {
        write(x, text);
        is("tell(" + show + ") of " + text, x.tell(show), minutes);
    }

    /** A new object to which these shows were told, from show 0 on. */
    static DomeLamps withShows(String... texts) {
        DomeLamps x = new DomeLamps();
        for (int show = 0; show < texts.length; show++) {
            write(x, texts[show]);
            is("fault() of " + texts[show], x.fault(), DomeLamps.NONE);
            x.tell(show);
        }
        return x;
    }

    static void faultOf(String text, int want) {
        DomeLamps x = new DomeLamps();
        write(x, text);
        is("fault() of '" + text + "'", x.fault(), want);
    }

    static void end(String test) {
        System.out.println(test + ": " + asked + " answers, " + wrong + " not as due");
        if (wrong != 0) {
            System.exit(1);
        }
    }
}
