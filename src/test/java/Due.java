/** What the tests share: answers that are due, and texts for the pad. */
final class Due {
    private static int wrong = 0;
    private static int asked = 0;

    private Due() {
    }

    static void is(String call, long got, long want) {
        asked++;
        if (got != want) {
            wrong++;
            System.out.println(call + " answered " + got + ", due is " + want);
        }
    }

    /** The number that puts a text of at most 8 characters. */
    static long coded(String text) {
        long number = 0;
        for (int i = 0; i < text.length(); i++) {
            number = number << 8 | text.charAt(i);
        }
        return number;
    }

    /** Puts a text, behind what the pad holds, and returns the last answer. */
    static int write(DomeLamps x, String text) {
        int length = 0;
        for (int from = 0; from < text.length(); from += 8) {
            length = x.put(coded(text.substring(from, Math.min(text.length(), from + 8))));
        }
        return length;
    }

    /** Tells a show, which has to last so long. */
    static void told(DomeLamps x, int show, String text, int minutes) {
        write(x, text);
        is("tell(" + show + ") of " + text, x.tell(show), minutes);
    }

    static void faultOf(String text, int want) {
        DomeLamps x = new DomeLamps();
        write(x, text);
        is("fault() of '" + text + "'", x.fault(), want);
    }

    static void end(String test) {
        System.out.println(test + ": " + asked + " answers, " + wrong + " not as due");
        if (wrong != 0) {
            System.exit(1);
        }
    }
}
