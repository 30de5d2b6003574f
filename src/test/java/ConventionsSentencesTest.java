/** The sentences of the conventions, and those of the constants and of promise 1. */
public final class ConventionsSentencesTest {
    private static final int NO_SUCH = DomeLamps.NO_SUCH, BAD_VALUE = DomeLamps.BAD_VALUE, BAD_TEXT = DomeLamps.BAD_TEXT;
    private static final int TOO_MANY = DomeLamps.TOO_MANY, NOT_POSSIBLE = DomeLamps.NOT_POSSIBLE, NONE = DomeLamps.NONE;

    public static void main(String[] args) {
        codes();
        orderOfChanges();
        orderOfQuestions();
        orderOfTexts();
        orderOfSlots();
        noneIsNoError();
        numberedFrom0();
        bitMasks();
        roundedDown();
        minutes();
        constants();
        newObject();
        atMost512Calls();
        Due.end("ConventionsSentencesTest");
    }

    private static void codes() {
        Due.sentence("Conventions: A method that fails returns one of the error codes NO_SUCH (-1), BAD_VALUE (-2), BAD_TEXT (-3),"
            + " TOO_MANY (-4) and NOT_POSSIBLE (-5);");
        DomeLamps x = new DomeLamps();
        Due.is("lamp(6)", x.lamp(6), -1);
        Due.is("set(0, 0)", x.set(0, 0), -2);
        Due.is("tell(0) of nothing", x.tell(0), -3);
        for (int group = 0; group < 20; group++) {
            x.group(1, 0, 0);
        }
        Due.is("group(1, 0, 0) of 20", x.group(1, 0, 0), -4);
        Due.is("run() of a show that is not told", x.run(), -5);
        Due.is("oftenOf(0) of none", x.oftenOf(0), -6);
    }

    private static void orderOfChanges() {
        Due.sentence("Conventions: it names its errors in the order in which they are checked, and the first one that applies is returned.");
        DomeLamps x = new DomeLamps();
        Due.is("tell: no such show, and a fault", x.tell(4), NO_SUCH);
        Due.write(x, "9*(a99),b99,c10");
        Due.is("tell: no such show, and too long", x.tell(-1), NO_SUCH);
        Due.is("tell: too long", x.tell(0), NOT_POSSIBLE);
        x.put(',');
        Due.is("tell: a fault, and too long", x.tell(0), BAD_TEXT);
        Due.is("tell: no such show, a fault, and too long", x.tell(4), NO_SUCH);
        Due.is("group: no such show, and no persons", x.group(0, 4, 0), NO_SUCH);
        Due.is("group: no such show, and no time", x.group(1, -1, -1), NO_SUCH);
        for (int group = 0; group < 20; group++) {
            x.group(1, 0, 0);
        }
        Due.is("group: no such show, of 20", x.group(1, 4, 0), NO_SUCH);
        Due.is("group: no persons, of 20", x.group(0, 0, 0), BAD_VALUE);
        Due.is("group: too many persons, of 20", x.group(61, 0, 0), BAD_VALUE);
        Due.is("group: no time, of 20", x.group(1, 0, 10000), BAD_VALUE);
        Due.is("group: all three", x.group(0, 4, -1), NO_SUCH);
        Due.is("group: of 20", x.group(1, 0, 0), TOO_MANY);
        Due.is("set: no such setting, and no value", x.set(6, -1), BAD_VALUE);
    }

    private static void orderOfQuestions() {
        DomeLamps x = new DomeLamps();
        Due.is("ofShow: no such show, and no what", x.ofShow(4, 5), NO_SUCH);
        Due.is("ofShow: no what, of none", x.ofShow(0, 5), BAD_VALUE);
        Due.is("lit: no such show, and no such lamp", x.lit(4, 6), NO_SUCH);
        Due.is("at: no such show, and no minute", x.at(4, -1), NO_SUCH);
        Due.is("ofLamp: no such lamp, and no what", x.ofLamp(6, 4), NO_SUCH);
        Due.is("ofLamp: no what", x.ofLamp(5, 4), BAD_VALUE);
        Due.is("ofGroup: no such group, and no what", x.ofGroup(0, 5), NO_SUCH);
        x.group(1, 0, 0);
        Due.is("ofGroup: no what", x.ofGroup(0, 5), BAD_VALUE);
        Due.is("next: no what, and not possible", x.next(4), BAD_VALUE);
        Due.is("next: not possible", x.next(3), NOT_POSSIBLE);
        Due.is("oftenOf: no such show", x.oftenOf(4), NO_SUCH);
        Due.is("oftenOf: not told", x.oftenOf(3), NONE);
    }

    private static void orderOfTexts() {
        DomeLamps x = new DomeLamps();
        Due.write(x, "a1,".repeat(26) + "a1");
        Due.is("put: a bad code, and too many", x.put(32), BAD_VALUE);
        Due.is("put: none, and too many", x.put(0), BAD_VALUE);
        Due.is("put: a bit above, and too many", x.put(0x10061L), BAD_VALUE);
        Due.is("put: too many", x.put('a'), TOO_MANY);
    }

    private static void orderOfSlots() {
        DomeLamps x = new DomeLamps();
        Due.is("restore: no such slot, in which nothing is", x.restore(2), BAD_VALUE);
        Due.is("restore: nothing is in it", x.restore(1), NOT_POSSIBLE);
    }

    private static void noneIsNoError() {
        Due.sentence("Conventions: NONE (-6) is not an error; it is returned only if no error applies.");
        DomeLamps x = Due.withShows("a1");
        Due.is("oftenOf(1) of none", x.oftenOf(1), -6);
        Due.is("oftenOf(-1)", x.oftenOf(-1), NO_SUCH);
        Due.is("oftenOf(4)", x.oftenOf(4), NO_SUCH);
        Due.is("fault() of nothing", x.fault(), 0);
        x.put(Due.coded("a1"));
        Due.is("fault() of a1", x.fault(), -6);
    }

    private static void numberedFrom0() {
        Due.sentence("Conventions: Everything is numbered from 0.");
        DomeLamps x = Due.withShows("a1,f1", "b1", "c1", "d1");
        Due.is("set(0, 9), the first setting", x.set(0, 9), 600);
        Due.is("set(5, 9), the last setting", x.set(5, 9), 10);
        Due.is("lit(0, 0), the first show and lamp", x.lit(0, 0), 1);
        Due.is("lit(0, 5), the last lamp", x.lit(0, 5), 1);
        Due.is("lit(3, 3), the last show", x.lit(3, 3), 1);
        Due.is("at(0, 0), the first minute", x.at(0, 0), 1);
        Due.is("at(0, 1), the last minute", x.at(0, 1), 32);
        Due.is("group, the first", x.group(1, 0, 0), 0);
        Due.is("group, the second", x.group(1, 0, 0), 1);
        Due.is("save(0), the first slot", x.save(0), 2);
        Due.is("save(1), the last slot", x.save(1), 2);
        x.put('!');
        Due.is("fault() of the first character", x.fault(), 0);
    }

    private static void bitMasks() {
        Due.sentence("Conventions: Sets of lamps and groups are bit masks.");
        DomeLamps x = Due.withShows("a1,bc1,f1");
        Due.is("lamps of a show", x.ofShow(0, 1), 1 + 2 + 4 + 32);
        Due.is("lamps of a minute", x.at(0, 1), 2 + 4);
        for (int group = 0; group < 20; group++) {
            x.group(group % 19 == 0 ? 20 : 50, 0, 0);
        }
        Due.is("groups that wait", x.count(2), 1048575);
        Due.is("groups of the next run", x.next(1), 1 + 524288);
        x.run();
        Due.is("groups that wait behind it", x.count(2), 1048575 - 1 - 524288);
    }

    private static void roundedDown() {
        Due.sentence("Conventions: Divisions are rounded down.");
        DomeLamps x = Due.withShows("a13");
        x.set(DomeLamps.LIFE, 38);
        Due.is("oftenOf(0) of 38 by 13", x.oftenOf(0), 2);
        x.set(DomeLamps.LIFE, 39);
        Due.is("oftenOf(0) of 39 by 13", x.oftenOf(0), 3);
        x.set(DomeLamps.FOG, 3);
        x.set(DomeLamps.DIM, 4);
        x.group(1, 0, 0);
        x.run();
        x.group(1, 0, 0);
        Due.is("fog", x.ofLamp(0, 2), 39);
        Due.is("next(3) of 3.9 with DIM 4", x.next(3), 0);
        x.set(DomeLamps.DIM, 3);
        Due.is("next(3) of 3.9 with DIM 3", x.next(3), 1);
    }

    private static void minutes() {
        Due.sentence("Conventions: Times are told in minutes.");
        DomeLamps x = Due.withShows("a61");
        x.group(1, 0, 60);
        Due.is("next(2)", x.next(2), 60);
        x.run();
        Due.is("count(0)", x.count(0), 121);
        Due.is("ofLamp(0, 0)", x.ofLamp(0, 0), 61);
    }

    private static void constants() {
        Due.sentence("Terms: `NO_SUCH = -1, BAD_VALUE = -2, BAD_TEXT = -3, TOO_MANY = -4, NOT_POSSIBLE = -5, NONE = -6`: Error codes,"
            + " and NONE: there is none.");
        int[] codes = {NO_SUCH, BAD_VALUE, BAD_TEXT, TOO_MANY, NOT_POSSIBLE, NONE};
        for (int i = 0; i < codes.length; i++) {
            Due.is("code " + i, codes[i], -1 - i);
        }
        Due.sentence("Terms: `LIFE = 0, FOG = 1, DIM = 2, SEATS = 3, PRICE = 4, WAIT = 5`: Settings.");
        int[] settings = {DomeLamps.LIFE, DomeLamps.FOG, DomeLamps.DIM, DomeLamps.SEATS, DomeLamps.PRICE, DomeLamps.WAIT};
        for (int i = 0; i < settings.length; i++) {
            Due.is("setting " + i, settings[i], i);
        }
    }

    private static void newObject() {
        Due.sentence("Promise 1: `DomeLamps()`: Creates a dome without shows and groups.");
        DomeLamps x = new DomeLamps();
        Due.is("shows", x.count(6), 0);
        Due.is("groups", x.count(1), 0);
        Due.is("groups that wait", x.count(2), 0);
        Due.is("ofGroup(0, 0)", x.ofGroup(0, 0), NO_SUCH);
        Due.is("why()", x.why(), 1);
        Due.is("the pad", x.count(13), 0);
        Due.is("changes", x.count(14), 0);
        Due.is("restore(0)", x.restore(0), NOT_POSSIBLE);
        Due.is("restore(1)", x.restore(1), NOT_POSSIBLE);
        DomeLamps y = new DomeLamps();
        Unchanged.busy(y);
        Due.same("a new object beside a busy one", Answers.of(new DomeLamps()), Answers.of(x));
    }

    private static void atMost512Calls() {
        Due.sentence("What it is: An object is used for at most 512 calls after it has been made;");
        DomeLamps x = new DomeLamps();
        for (int lamp = 1; lamp <= 510; lamp++) {
            Due.is("lamp(3), call " + lamp, x.lamp(3), 0);
        }
        Due.is("ofLamp(3, 3), call 511", x.ofLamp(3, 3), 510);
        Due.is("undo(), call 512", x.undo(), 5);
        x = new DomeLamps();
        x.put(Due.coded("9*(a99),"));
        x.put(Due.coded("b99,c9"));
        x.tell(3);
        x.save(1);
        for (int call = 5; call <= 511; call++) {
            Due.is("restore(1), call " + call, x.restore(1), 0);
        }
        Due.is("ofShow(3, 0), call 512", x.ofShow(3, 0), 999);
        x = new DomeLamps();
        for (int call = 1; call <= 512; call += 3) {
            Due.is("put, call " + call, x.put(Due.coded("9*(f99)")), 7);
            Due.is("tell, call " + (call + 1), x.tell(call % 4), 891);
            if (call < 510) {
                Due.is("lit, call " + (call + 2), x.lit(call % 4, 5), 891);
            }
        }
    }
}
