/** The sentences of 'Settings' and of promise 2, with the first and the last value of each setting. */
public final class SettingsSentencesTest {
    private static final int MIN = Integer.MIN_VALUE, MAX = Integer.MAX_VALUE, BAD_VALUE = DomeLamps.BAD_VALUE;
    private static final int[] LEAST = {1, 0, 1, 1, 0, 0};
    private static final int[] MOST = {9999, 50, 100, 99, 99, 99};
    private static final int[] FIRST = {600, 5, 50, 40, 5, 10};

    public static void main(String[] args) {
        rangesAndFirstValues();
        life();
        fog();
        dim();
        seats();
        price();
        wait99();
        changesASetting();
        returnsThePreviousValue();
        badValue();
        Due.end("SettingsSentencesTest");
    }

    private static void rangesAndFirstValues() {
        Due.sentence("Settings: (In parentheses: range; first value.)");
        for (int setting = 0; setting < 6; setting++) {
            DomeLamps x = new DomeLamps();
            String set = "set(" + setting + ", ..)";
            Due.is(set + " first value", x.count(7 + setting), FIRST[setting]);
            Due.is(set + " below the least", x.set(setting, LEAST[setting] - 1), BAD_VALUE);
            Due.is(set + " unchanged", x.count(7 + setting), FIRST[setting]);
            Due.is(set + " the least", x.set(setting, LEAST[setting]), FIRST[setting]);
            Due.is(set + " is the least", x.count(7 + setting), LEAST[setting]);
            Due.is(set + " one above the least", x.set(setting, LEAST[setting] + 1), LEAST[setting]);
            Due.is(set + " one below the most", x.set(setting, MOST[setting] - 1), LEAST[setting] + 1);
            Due.is(set + " the most", x.set(setting, MOST[setting]), MOST[setting] - 1);
            Due.is(set + " is the most", x.count(7 + setting), MOST[setting]);
            Due.is(set + " above the most", x.set(setting, MOST[setting] + 1), BAD_VALUE);
            Due.is(set + " unchanged", x.count(7 + setting), MOST[setting]);
        }
    }

    private static void life() {
        Due.sentence("Settings: LIFE (1 to 9999; 600): minutes that a lamp may burn;");
        DomeLamps x = Due.withShows("5*(a99),a99,a6", "5*(b99),b99,b7", "c1", "d2");
        x.group(1, 0, 0);
        Due.is("why() of 600 minutes at first", x.why(), 0);
        x.undo();
        x.group(1, 1, 0);
        Due.is("why() of 601 minutes at first", x.why(), 4);
        x.undo();
        x.set(DomeLamps.LIFE, 1);
        x.group(1, 2, 0);
        Due.is("why() of 1 minute with LIFE 1", x.why(), 0);
        Due.is("run() with LIFE 1", x.run(), 1);
        x.group(1, 2, 0);
        Due.is("why() of a second minute with LIFE 1", x.why(), 4);
        x.undo();
        x.group(1, 3, 0);
        Due.is("why() of 2 minutes with LIFE 1", x.why(), 4);
        x.set(DomeLamps.LIFE, 2);
        Due.is("why() of 2 minutes with LIFE 2", x.why(), 0);
        x.set(DomeLamps.LIFE, 9999);
        Due.is("oftenOf(3) with LIFE 9999", x.oftenOf(3), 4999);
        Due.is("minutes left of 9999", x.ofLamp(5, 1), 9999);
    }

    private static void fog() {
        Due.sentence("Settings: FOG (0 to 50; 5): tenths of a hundredth by which a lens fogs in a minute of its lamp;");
        DomeLamps x = Due.withShows("a1", "b99", "c1,d20");
        x.group(1, 0, 0);
        x.run();
        Due.is("fog of a minute at first", x.ofLamp(0, 2), 5);
        x.set(DomeLamps.FOG, 0);
        x.group(1, 1, 0);
        x.run();
        Due.is("fog of 99 minutes with FOG 0", x.ofLamp(1, 2), 0);
        x.set(DomeLamps.FOG, 50);
        x.group(1, 2, 0);
        x.run();
        Due.is("fog of a minute with FOG 50", x.ofLamp(2, 2), 50);
        Due.is("fog of 20 minutes with FOG 50", x.ofLamp(3, 2), 1000);
        Due.is("the lens of a lamp that was not lit", x.ofLamp(4, 2), 0);
    }

    private static void dim() {
        Due.sentence("Settings: DIM (1 to 100; 50): fog with which a show is foggy;");
        DomeLamps x = Due.withShows("5*(a99),a4", "a1");
        x.set(DomeLamps.FOG, 1);
        x.set(DomeLamps.LIFE, 9999);
        x.group(1, 0, 0);
        x.run();
        x.group(1, 1, 0);
        Due.is("fog", x.ofLamp(0, 2), 499);
        Due.is("foggy at 499 with the first DIM", x.next(3), 0);
        x.run();
        x.group(1, 1, 0);
        Due.is("fog", x.ofLamp(0, 2), 500);
        Due.is("foggy at 500 with the first DIM", x.next(3), 1);

        x = Due.withShows("9*(a99),a99,a9", "a1");
        x.set(DomeLamps.FOG, 1);
        x.set(DomeLamps.LIFE, 9999);
        x.set(DomeLamps.DIM, 100);
        x.group(1, 0, 0);
        x.run();
        x.group(1, 1, 0);
        Due.is("fog", x.ofLamp(0, 2), 999);
        Due.is("foggy at 999 with DIM 100", x.next(3), 0);
        x.run();
        x.group(1, 1, 0);
        Due.is("fog", x.ofLamp(0, 2), 1000);
        Due.is("foggy at 1000 with DIM 100", x.next(3), 1);

        x = Due.withShows("a9", "a1");
        x.set(DomeLamps.FOG, 1);
        x.set(DomeLamps.DIM, 1);
        x.group(1, 0, 0);
        Due.is("foggy at 0 with DIM 1", x.next(3), 0);
        x.run();
        x.group(1, 1, 0);
        Due.is("foggy at 9 with DIM 1", x.next(3), 0);
        x.run();
        x.group(1, 1, 0);
        Due.is("foggy at 10 with DIM 1", x.next(3), 1);
    }

    private static void seats() {
        Due.sentence("Settings: SEATS (1 to 99; 40);");
        DomeLamps x = Due.withShows("a1");
        x.group(40, 0, 0);
        Due.is("why() of 40 at first", x.why(), 0);
        x.undo();
        x.group(41, 0, 0);
        Due.is("why() of 41 at first", x.why(), 3);
        x.undo();
        x.set(DomeLamps.SEATS, 1);
        x.group(1, 0, 0);
        x.group(1, 0, 0);
        Due.is("next(1) of two with SEATS 1", x.next(1), 1);
        Due.is("run() with SEATS 1", x.run(), 1);
        x.run();
        x.group(2, 0, 0);
        Due.is("why() of 2 with SEATS 1", x.why(), 3);
        x.set(DomeLamps.SEATS, 99);
        x.group(37, 0, 0);
        x.group(60, 0, 0);
        Due.is("run() of 99 with SEATS 99", x.run(), 99);
        x.group(60, 0, 0);
        x.group(40, 0, 0);
        Due.is("run() of 60 and 40 with SEATS 99", x.run(), 60);
    }

    private static void price() {
        Due.sentence("Settings: PRICE (0 to 99; 5): coins of a person;");
        DomeLamps x = Due.withShows("a1");
        x.group(1, 0, 0);
        x.run();
        Due.is("coins of a person at first", x.count(3), 5);
        x.set(DomeLamps.PRICE, 0);
        x.group(40, 0, 0);
        x.run();
        Due.is("coins of 40 persons with PRICE 0", x.count(3), 5);
        x.set(DomeLamps.PRICE, 99);
        x.set(DomeLamps.SEATS, 60);
        x.group(60, 0, 0);
        x.run();
        Due.is("coins of 60 persons with PRICE 99", x.count(3), 5 + 5940);
    }

    private static void wait99() {
        Due.sentence("Settings: WAIT (0 to 99; 10): minutes between a foggy run and when its groups come once more.");
        int[] waits = {10, 0, 1, 99};
        for (int wait : waits) {
            DomeLamps x = Due.withShows("a10");
            if (wait != 10) {
                x.set(DomeLamps.WAIT, wait);
            }
            x.set(DomeLamps.DIM, 5);
            x.group(1, 0, 0);
            x.run();
            x.group(1, 0, 0);
            x.run();
            Due.is("foggy ones with WAIT " + wait, x.count(5), 1);
            Due.is("its group waits from, with WAIT " + wait, x.ofGroup(1, 2), 20 + wait);
            Due.is("next(2) with WAIT " + wait, x.next(2), 20 + wait);
        }
    }

    private static void changesASetting() {
        Due.sentence("Promise 2: Changes a setting. This is a change.");
        DomeLamps x = new DomeLamps();
        Change.by("set(0, 1)", x, y -> y.set(0, 1), 600);
        Change.by("set(0, 600), as it was", x, y -> y.set(0, 600), 600);
        x.set(5, 99);
        for (int setting = 0; setting < 6; setting++) {
            Due.is("count of setting " + setting, x.count(7 + setting), setting == 5 ? 99 : FIRST[setting]);
        }
    }

    private static void returnsThePreviousValue() {
        Due.sentence("Promise 2: Returns the previous value;");
        DomeLamps x = new DomeLamps();
        for (int setting = 0; setting < 6; setting++) {
            Due.is("set of " + setting, x.set(setting, LEAST[setting]), FIRST[setting]);
            Due.is("set of " + setting + ", the same", x.set(setting, LEAST[setting]), LEAST[setting]);
            Due.is("set of " + setting + ", the most", x.set(setting, MOST[setting]), LEAST[setting]);
            Due.is("set of " + setting + ", from the most", x.set(setting, LEAST[setting]), MOST[setting]);
        }
    }

    private static void badValue() {
        Due.sentence("Promise 2: BAD_VALUE if there is no such setting, or the value is out of its range.");
        DomeLamps x = new DomeLamps();
        int[] none = {MIN, -1, 6, MAX};
        for (int setting : none) {
            Due.is("set(" + setting + ", 1)", x.set(setting, 1), BAD_VALUE);
            Due.is("set(" + setting + ", MIN)", x.set(setting, MIN), BAD_VALUE);
        }
        for (int setting = 0; setting < 6; setting++) {
            int[] values = {MIN, LEAST[setting] - 1, MOST[setting] + 1, MAX};
            for (int value : values) {
                Due.is("set(" + setting + ", " + value + ")", x.set(setting, value), BAD_VALUE);
            }
            Due.is("count of setting " + setting, x.count(7 + setting), FIRST[setting]);
        }
        Due.is("changes behind errors", x.count(14), 0);
    }
}
