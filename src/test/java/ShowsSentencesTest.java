/** The sentences of 'Shows' and of promises 3, 8, 9 and 10. */
public final class ShowsSentencesTest {
    private static final int MIN = Integer.MIN_VALUE, MAX = Integer.MAX_VALUE;
    private static final int NO_SUCH = DomeLamps.NO_SUCH, BAD_VALUE = DomeLamps.BAD_VALUE, BAD_TEXT = DomeLamps.BAD_TEXT;
    private static final int NOT_POSSIBLE = DomeLamps.NOT_POSSIBLE;
    private static final int[] NO_SHOWS = {MIN, -1, 4, MAX};
    /** 999 minutes, in one scene for each minute. */
    private static final String ALL_SCENES = "9*(3*(4*(9*(a1)),a1))";

    public static void main(String[] args) {
        fourShows();
        sceneLightsLamps();
        letterTwice();
        minutesOfAScene();
        digitOfARepeat();
        fourDeep();
        partsOneAfterTheOther();
        atMost999Minutes();
        tellInPlaceOfAnother();
        padIsEmptied();
        tellIsAChange();
        tellReturnsMinutes();
        tellNoSuch();
        tellBadText();
        tellNotPossible();
        ofShowMinutes();
        ofShowLamps();
        ofShowScenes();
        ofShowDepth();
        ofShowRuns();
        ofShowNotTold();
        ofShowErrors();
        lit();
        litErrors();
        at();
        atErrors();
        Due.end("ShowsSentencesTest");
    }

    /** What tell(0) of a text answers on a new object. */
    private static int told(String text) {
        DomeLamps x = new DomeLamps();
        Due.write(x, text);
        return x.tell(0);
    }

    private static void tells(String text, int want) {
        Due.is("tell(0) of " + text, told(text), want);
    }

    private static void fourShows() {
        Due.sentence("Shows: There are 4 shows, 0 to 3, none of which is told at first:");
        DomeLamps x = new DomeLamps();
        Due.is("shows that are told at first", x.count(6), 0);
        for (int show = 0; show < 4; show++) {
            Due.is("oftenOf(" + show + ") at first", x.oftenOf(show), DomeLamps.NONE);
            Due.is("at(" + show + ", 0) at first", x.at(show, 0), NO_SUCH);
        }
        Due.told(x, 3, "a4", 4);
        Due.is("shows that are told", x.count(6), 8);
        Due.told(x, 0, "a1", 1);
        Due.is("shows that are told", x.count(6), 9);
        Due.told(x, 1, "a2", 2);
        Due.told(x, 2, "a3", 3);
        Due.is("shows that are told", x.count(6), 15);
        Due.write(x, "a5");
        Due.is("tell(4)", x.tell(4), NO_SUCH);
        Due.is("tell(-1)", x.tell(-1), NO_SUCH);
        for (int show = 0; show < 4; show++) {
            Due.is("each keeps its own text", x.ofShow(show, 0), show + 1);
        }
    }

    private static void sceneLightsLamps() {
        Due.sentence("Shows: A scene lights lamps (0 for \"a\" to 5 for \"f\";");
        for (int lamp = 0; lamp < 6; lamp++) {
            char letter = (char) ('a' + lamp);
            DomeLamps x = Due.withShows(letter + "7");
            Due.is("lamps of " + letter, x.ofShow(0, 1), 1 << lamp);
            for (int other = 0; other < 6; other++) {
                Due.is("lit(0, " + other + ") of " + letter, x.lit(0, other), other == lamp ? 7 : 0);
            }
        }
        tells("`1", BAD_TEXT);
        tells("g1", BAD_TEXT);
        tells("A1", BAD_TEXT);
        Due.is("all six", Due.withShows("abcdef1").at(0, 0), 63);
        Due.is("all six, backwards", Due.withShows("fedcba1").at(0, 0), 63);
    }

    private static void letterTwice() {
        Due.sentence("Shows: a letter that is told twice counts once)");
        DomeLamps x = Due.withShows("aa5", "fabaf3");
        Due.is("minutes of aa5", x.ofShow(0, 0), 5);
        Due.is("lamps of aa5", x.ofShow(0, 1), 1);
        Due.is("lit(0, 0) of aa5", x.lit(0, 0), 5);
        Due.is("scenes of aa5", x.ofShow(0, 2), 1);
        Due.is("lamps of fabaf3", x.at(1, 2), 32 + 1 + 2);
        Due.is("lit(1, 5) of fabaf3", x.lit(1, 5), 3);
    }

    private static void minutesOfAScene() {
        Due.sentence("Shows: for so many minutes (1 to 99);");
        tells("a0", BAD_TEXT);
        tells("a1", 1);
        tells("a2", 2);
        tells("a9", 9);
        tells("a10", 10);
        tells("a98", 98);
        tells("a99", 99);
        tells("a100", BAD_TEXT);
        tells("a", BAD_TEXT);
    }

    private static void digitOfARepeat() {
        Due.sentence("Shows: a repeat runs what is in it so often (the digit 2 to 9).");
        tells("0*(a3)", BAD_TEXT);
        tells("1*(a3)", BAD_TEXT);
        for (int digit = 2; digit <= 9; digit++) {
            String text = digit + "*(a3,b1)";
            tells(text, 4 * digit);
            Due.is("scenes of " + text, Due.withShows(text).ofShow(0, 2), 2 * digit);
            Due.is("lit(0, 0) of " + text, Due.withShows(text).lit(0, 0), 3 * digit);
        }
        tells("10*(a3)", BAD_TEXT);
        tells("22*(a3)", BAD_TEXT);
        tells(":*(a3)", BAD_TEXT);
    }

    private static void fourDeep() {
        Due.sentence("Shows: Repeats are at most 4 deep.");
        tells("2*(a1)", 2);
        tells("2*(2*(2*(a1)))", 8);
        tells("2*(2*(2*(2*(a1))))", 16);
        tells("2*(2*(2*(2*(2*(a1)))))", BAD_TEXT);
        tells("2*(2*(2*(2*(a1,2*(a1)))))", BAD_TEXT);
        tells("2*(2*(2*(2*(a1)),2*(b1)))", 32 - 8);
        tells("2*(2*(2*(2*(a1),2*(b1))))", 32);
        tells("2*(2*(2*(2*(a1)))),2*(2*(2*(2*(b1))))", 32);
        tells("2*(2*(2*(a1))),2*(2*(2*(2*(2*(b1)))))", BAD_TEXT);
    }

    private static void partsOneAfterTheOther() {
        Due.sentence("Shows: A show runs its parts one after the other.");
        DomeLamps x = Due.withShows("a2,3*(b1,c2),ad1");
        int[] want = {1, 1, 2, 4, 4, 2, 4, 4, 2, 4, 4, 9};
        for (int minute = 0; minute < want.length; minute++) {
            Due.is("at(0, " + minute + ")", x.at(0, minute), want[minute]);
        }
        Due.is("at(0, 12)", x.at(0, 12), NO_SUCH);
    }

    private static void atMost999Minutes() {
        Due.sentence("Shows: It lasts at most 999 minutes.");
        tells("9*(a99),b99,c8", 998);
        tells("9*(a99),b99,c9", 999);
        tells("9*(a99),b99,c10", NOT_POSSIBLE);
        tells("9*(a99),b99,c11", NOT_POSSIBLE);
        tells("9*(3*(a37))", 999);
        tells("8*(5*(5*(a5)))", NOT_POSSIBLE);
        tells("2*(5*(a99),b4),a1", 999);
        tells("2*(5*(a99),b4),a2", NOT_POSSIBLE);
        tells("2*(5*(a99),b5)", NOT_POSSIBLE);
        tells("a1,2*(5*(a99),b4)", 999);
        tells("a2,2*(5*(a99),b4)", NOT_POSSIBLE);
        tells(ALL_SCENES, 999);
        tells("9*(9*(9*(9*(a99))))", NOT_POSSIBLE);
        tells("9*(9*(9*(9*(a99" + ",b99".repeat(15) + "))))", NOT_POSSIBLE);
        DomeLamps x = Due.withShows("9*(a99),b99,c9");
        Due.is("at(0, 998)", x.at(0, 998), 4);
        Due.is("at(0, 999)", x.at(0, 999), NO_SUCH);
    }

    private static void tellInPlaceOfAnother() {
        Due.sentence("Promise 3: The text of the pad becomes a show, in place of what it was;");
        DomeLamps x = Due.withShows("9*(a99),b99,c9", "4*(3*(2*(2*(f1))))");
        Due.told(x, 0, "d1", 1);
        Due.told(x, 1, "9*(e2)", 18);
        int[] want = {1, 8, 1, 0, 0, 18, 16, 9, 1, 0};
        for (int what = 0; what < 5; what++) {
            Due.is("ofShow(0, " + what + ")", x.ofShow(0, what), want[what]);
            Due.is("ofShow(1, " + what + ")", x.ofShow(1, what), want[5 + what]);
        }
        Due.is("at(0, 0)", x.at(0, 0), 8);
        Due.is("at(0, 1)", x.at(0, 1), NO_SUCH);
        Due.is("lit(0, 0)", x.lit(0, 0), 0);
        Due.is("lit(1, 5)", x.lit(1, 5), 0);
        Due.is("the other shows", x.count(6), 3);
    }

    private static void padIsEmptied() {
        Due.sentence("Promise 3: the pad is emptied.");
        DomeLamps x = new DomeLamps();
        String full = "abc1" + ",d2".repeat(25) + "0";
        Due.is("length of a full text", full.length(), 80);
        Due.is("a full pad", Due.write(x, full), 80);
        Due.is("tell(2) of it", x.tell(2), 1 + 48 + 20);
        Due.is("the length of the pad", x.count(13), 0);
        Due.is("the fault of the pad", x.fault(), 0);
        Due.is("tell(2) once more", x.tell(2), BAD_TEXT);
        Due.is("put behind it", x.put('a'), 1);
    }

    private static void tellIsAChange() {
        Due.sentence("Promise 3: This is a change.");
        DomeLamps x = Due.withShows("a1,b2", "c3");
        Due.write(x, "4*(d1)");
        Change.by("tell(1) in place of another", x, y -> y.tell(1), 4);
        Due.write(x, "4*(d1)");
        Change.by("tell(3) for the first time", x, y -> y.tell(3), 4);
        x = Due.withShows("a1,b2");
        Due.write(x, "a1,b2");
        Change.by("tell(0) of the same", x, y -> y.tell(0), 3);
        Due.is("the pad behind undo", x.count(13), 0);
    }

    private static void tellReturnsMinutes() {
        Due.sentence("Promise 3: Returns how many minutes it lasts;");
        tells("f1", 1);
        tells("a1,a1", 2);
        tells("2*(a1),3*(b1)", 5);
        tells("9*(9*(f12)),a27", 999);
    }

    private static void tellNoSuch() {
        Due.sentence("Promise 3: NO_SUCH if there is no such show;");
        DomeLamps x = new DomeLamps();
        Due.write(x, "a1");
        for (int show : NO_SHOWS) {
            Due.is("tell(" + show + ")", x.tell(show), NO_SUCH);
        }
        Due.is("the pad behind errors", x.count(13), 2);
        Due.is("tell(3), the last one", x.tell(3), 1);
        Due.write(x, "a1");
        Due.is("tell(0), the first one", x.tell(0), 1);
    }

    private static void tellBadText() {
        Due.sentence("Promise 3: BAD_TEXT if the pad has a fault;");
        DomeLamps x = Due.withShows("a1");
        String[] texts = {"", "a", "a1,", "2", "2*", "2*(", "2*(a1", "1", "a1)", "a100", "9*(9*(9*(9*(9*(a1)))))", "9*(9*(9*(a99)))a"};
        for (String text : texts) {
            Due.write(x, text);
            Due.is("tell(0) of '" + text + "'", x.tell(0), BAD_TEXT);
            Due.is("the show behind '" + text + "'", x.ofShow(0, 0), 1);
            Due.is("changes behind '" + text + "'", x.count(14), 1);
            Due.is("the pad behind '" + text + "'", x.wipe(), text.length());
            Due.told(x, 0, "f1", 1);
            Due.is("nothing is left of '" + text + "'", x.at(0, 0), 32);
            Due.is("no repeat is left of '" + text + "'", x.ofShow(0, 3), 0);
            x.undo();
        }
        String full = "a1,".repeat(26) + "a1";
        Due.is("length of a full text", full.length(), 80);
        Due.write(x, full);
        Due.is("tell(0) of a full pad", x.tell(0), 27);
        Due.write(x, full.substring(0, 79) + ",");
        Due.is("tell(0) of a full pad with a fault at its end", x.tell(0), BAD_TEXT);
        x.wipe();
        Due.write(x, full.substring(0, 77) + "b10");
        Due.is("tell(0) of a full pad that lacks a comma", x.tell(0), BAD_TEXT);
    }

    private static void tellNotPossible() {
        Due.sentence("Promise 3: NOT_POSSIBLE if it would last more than 999 minutes.");
        DomeLamps x = Due.withShows("a1");
        Due.write(x, "9*(a99),b99,c10");
        Due.is("fault() of 1000 minutes", x.fault(), DomeLamps.NONE);
        Due.is("tell(0) of 1000 minutes", x.tell(0), NOT_POSSIBLE);
        Due.is("tell(1) of 1000 minutes", x.tell(1), NOT_POSSIBLE);
        Due.is("the show behind it", x.ofShow(0, 0), 1);
        Due.is("shows that are told behind it", x.count(6), 1);
        Due.is("the pad behind it", x.count(13), 15);
        x.wipe();
        Due.told(x, 0, "9*(a99),b99,c9", 999);
    }

    private static void ofShowIs(String text, int what, int want) {
        Due.is("ofShow(0, " + what + ") of " + text, Due.withShows(text).ofShow(0, what), want);
    }

    private static void ofShowMinutes() {
        Due.sentence("Promise 8: 0 the minutes that it lasts,");
        ofShowIs("a1", 0, 1);
        ofShowIs("9*(a99),b99,c9", 0, 999);
        ofShowIs("a1,2*(b2,3*(c3))", 0, 23);
    }

    private static void ofShowLamps() {
        Due.sentence("Promise 8: 1 its lamps, as a set,");
        ofShowIs("a1", 1, 1);
        ofShowIs("f1", 1, 32);
        ofShowIs("a1,b1,c1,d1,e1,f1", 1, 63);
        ofShowIs("a1,2*(c1,a1)", 1, 5);
        ofShowIs("bdf9", 1, 2 + 8 + 32);
    }

    private static void ofShowScenes() {
        Due.sentence("Promise 8: 2 its scenes as they run, each repeat counted,");
        ofShowIs("a99", 2, 1);
        ofShowIs("2*(a1)", 2, 2);
        ofShowIs("2*(a1,b1,b1)", 2, 6);
        ofShowIs("a1,9*(a1,2*(b1),c1)", 2, 1 + 9 * 4);
        ofShowIs(ALL_SCENES, 2, 999);
        ofShowIs("2*(2*(2*(2*(a1),b1),c1),d1),e1", 2, 31);
    }

    private static void ofShowDepth() {
        Due.sentence("Promise 8: 3 how deep its deepest repeat is");
        ofShowIs("a1", 3, 0);
        ofShowIs("a1,b1", 3, 0);
        ofShowIs("2*(a1)", 3, 1);
        ofShowIs("2*(a1),2*(b1),2*(c1),2*(d1),2*(e1)", 3, 1);
        ofShowIs("2*(2*(a1)),2*(b1)", 3, 2);
        ofShowIs("2*(b1),2*(2*(2*(a1)))", 3, 3);
        ofShowIs("2*(2*(2*(2*(a1)))),a1", 3, 4);
    }

    private static void ofShowRuns() {
        Due.sentence("Promise 8: 4 runs of the show with this number so far (whatever its text was then)");
        DomeLamps x = Due.withShows("a1", "b1");
        Due.is("ofShow(0, 4)", x.ofShow(0, 4), 0);
        x.group(1, 0, 0);
        x.group(1, 1, 1);
        x.run();
        Due.is("ofShow(0, 4) behind a run", x.ofShow(0, 4), 1);
        Due.is("ofShow(1, 4) behind it", x.ofShow(1, 4), 0);
        Due.told(x, 0, "c1", 1);
        Due.is("ofShow(0, 4) of another text", x.ofShow(0, 4), 1);
        x.run();
        Due.is("ofShow(1, 4) behind its run", x.ofShow(1, 4), 1);
        x.group(1, 0, 0);
        Due.is("ofShow(0, 4) before the run", x.ofShow(0, 4), 1);
        x.run();
        Due.is("ofShow(0, 4) behind two runs", x.ofShow(0, 4), 2);
        x.set(DomeLamps.LIFE, 1);
        x.group(1, 0, 0);
        x.run();
        Due.is("ofShow(0, 4) behind a run that cannot be", x.ofShow(0, 4), 2);
        x.undo();
        x.undo();
        x.undo();
        Due.is("ofShow(0, 4) behind undo", x.ofShow(0, 4), 1);
    }

    private static void ofShowNotTold() {
        Due.sentence("Promise 8: (0 for 0 to 3 if it is not told),");
        DomeLamps x = Due.withShows("2*(a1)");
        x.group(1, 2, 0);
        x.run();
        for (int show = 1; show < 4; show++) {
            for (int what = 0; what < 5; what++) {
                Due.is("ofShow(" + show + ", " + what + ")", x.ofShow(show, what), 0);
            }
        }
        x.undo();
        x.undo();
        for (int what = 0; what < 5; what++) {
            Due.is("ofShow(0, " + what + ") behind undo of tell", x.ofShow(0, what), 0);
        }
    }

    private static void ofShowErrors() {
        DomeLamps x = Due.withShows("a1");
        int[] noWhats = {MIN, -1, 5, MAX};
        Due.sentence("Promise 8: NO_SUCH if there is no such show;");
        for (int show : NO_SHOWS) {
            for (int what = 0; what < 5; what++) {
                Due.is("ofShow(" + show + ", " + what + ")", x.ofShow(show, what), NO_SUCH);
            }
            Due.is("ofShow(" + show + ", -1)", x.ofShow(show, -1), NO_SUCH);
        }
        Due.sentence("Promise 8: BAD_VALUE if what is out of range.");
        for (int what : noWhats) {
            Due.is("ofShow(0, " + what + ")", x.ofShow(0, what), BAD_VALUE);
            Due.is("ofShow(3, " + what + ") of none", x.ofShow(3, what), BAD_VALUE);
        }
    }

    private static void lit() {
        Due.sentence("Promise 9: Returns how many minutes of a show a lamp is lit. Returns the minutes;");
        DomeLamps x = Due.withShows("a1,9*(bb99),b99,bc8", ALL_SCENES, "f1,2*(a1,3*(f2,af1))");
        int[] want = {1, 998, 8, 0, 0, 0};
        for (int lamp = 0; lamp < 6; lamp++) {
            Due.is("lit(0, " + lamp + ")", x.lit(0, lamp), want[lamp]);
            Due.is("lit(3, " + lamp + ") of none", x.lit(3, lamp), 0);
        }
        Due.is("lit(1, 0), every minute", x.lit(1, 0), 999);
        Due.is("lit(2, 0)", x.lit(2, 0), 2 + 6);
        Due.is("lit(2, 5)", x.lit(2, 5), 1 + 18);
    }

    private static void litErrors() {
        Due.sentence("Promise 9: NO_SUCH if there is no such show or lamp.");
        DomeLamps x = Due.withShows("abcdef1");
        int[] noLamps = {MIN, -1, 6, MAX};
        for (int show : NO_SHOWS) {
            Due.is("lit(" + show + ", 0)", x.lit(show, 0), NO_SUCH);
            Due.is("lit(" + show + ", 5)", x.lit(show, 5), NO_SUCH);
            Due.is("lit(" + show + ", 6)", x.lit(show, 6), NO_SUCH);
        }
        for (int lamp : noLamps) {
            Due.is("lit(0, " + lamp + ")", x.lit(0, lamp), NO_SUCH);
            Due.is("lit(3, " + lamp + ") of none", x.lit(3, lamp), NO_SUCH);
        }
        Due.is("lit(0, 5)", x.lit(0, 5), 1);
    }

    private static void at() {
        Due.sentence("Promise 10: Returns the lamps that are lit in a minute of a show. - `minute`: 0 for the first one");
        DomeLamps x = Due.withShows("a1,bf98,9*(c99),acdf9", "f1");
        int[] minutes = {0, 1, 98, 99, 100, 989, 990, 998};
        int[] want = {1, 34, 34, 4, 4, 4, 45, 45};
        for (int i = 0; i < minutes.length; i++) {
            Due.is("at(0, " + minutes[i] + ")", x.at(0, minutes[i]), want[i]);
        }
        Due.is("at(1, 0)", x.at(1, 0), 32);
    }

    private static void atErrors() {
        Due.sentence("Promise 10: NO_SUCH if there is no such show, or it does not last so long.");
        DomeLamps x = Due.withShows("9*(a99),b99,c9", "f1");
        for (int show : NO_SHOWS) {
            Due.is("at(" + show + ", 0)", x.at(show, 0), NO_SUCH);
        }
        int[] behindAll = {MIN, -1, 999, 1000, MAX};
        for (int minute : behindAll) {
            Due.is("at(0, " + minute + ")", x.at(0, minute), NO_SUCH);
            Due.is("at(1, " + minute + ")", x.at(1, minute), NO_SUCH);
        }
        Due.is("at(1, 1) of 1 minute", x.at(1, 1), NO_SUCH);
        Due.is("at(2, 0) of none", x.at(2, 0), NO_SUCH);
    }
}
