/** The sentences of 'Lamps, groups' and of promises 4, 5, 6, 11 and 12. */
public final class LampsAndGroupsSentencesTest {
    private static final int MIN = Integer.MIN_VALUE, MAX = Integer.MAX_VALUE;
    private static final int NO_SUCH = DomeLamps.NO_SUCH, BAD_VALUE = DomeLamps.BAD_VALUE, TOO_MANY = DomeLamps.TOO_MANY;
    private static final int[] NO_SHOWS = {MIN, -1, 4, MAX};
    private static final int[] NO_LAMPS = {MIN, -1, 6, MAX};

    public static void main(String[] args) {
        sixLamps();
        fogHasBounds();
        twentyGroups();
        personsOfAGroup();
        waitsOrHasSeen();
        groupIsAChange();
        groupTime();
        groupReturnsItsNumber();
        groupNoSuch();
        groupBadValue();
        groupTooMany();
        lampBurnedNothingThen();
        lampIsAChange();
        lampReturns();
        lampNoSuch();
        lensFogIsNothing();
        lensIsAChange();
        lensReturns();
        lensNoSuch();
        ofLampWhats();
        ofLampMinutesLeft();
        ofLampChanges();
        ofLampErrors();
        ofGroupWhats();
        ofGroupTime();
        ofGroupRuns();
        ofGroupErrors();
        Due.end("LampsAndGroupsSentencesTest");
    }

    /** Lets one run of a show be, with a group of one. */
    private static void once(DomeLamps x, int show) {
        x.group(1, show, 0);
        Due.is("run() of show " + show, x.run(), 1);
    }

    private static DomeLamps withAllGroups() {
        DomeLamps x = Due.withShows("a1");
        for (int group = 0; group < 20; group++) {
            Due.is("group " + group, x.group(2, 0, 0), group);
        }
        return x;
    }

    private static void sixLamps() {
        Due.sentence("Lamps, groups: There are 6 lamps, each with minutes that it burned, and the fog of its lens in tenths of"
            + " hundredths (0 to 1000), both 0 at first.");
        DomeLamps x = new DomeLamps();
        for (int lamp = 0; lamp < 6; lamp++) {
            Due.is("minutes of lamp " + lamp + " at first", x.ofLamp(lamp, 0), 0);
            Due.is("fog of lamp " + lamp + " at first", x.ofLamp(lamp, 2), 0);
        }
        Due.is("ofLamp(6, 0)", x.ofLamp(6, 0), NO_SUCH);
        Due.is("ofLamp(-1, 0)", x.ofLamp(-1, 0), NO_SUCH);
        x = Due.withShows("a1,b2,c3,d4,e5,f6");
        once(x, 0);
        for (int lamp = 0; lamp < 6; lamp++) {
            Due.is("minutes of lamp " + lamp, x.ofLamp(lamp, 0), lamp + 1);
            Due.is("fog of lamp " + lamp, x.ofLamp(lamp, 2), 5 * (lamp + 1));
        }
    }

    private static void fogHasBounds() {
        Due.sentence("Lamps, groups: the fog of its lens in tenths of hundredths (0 to 1000)");
        DomeLamps x = Due.withShows("a19,b20,c21,d99", "abcd1");
        x.set(DomeLamps.FOG, 50);
        once(x, 0);
        int[] first = {950, 1000, 1000, 1000, 0, 0};
        for (int lamp = 0; lamp < 6; lamp++) {
            Due.is("fog of lamp " + lamp, x.ofLamp(lamp, 2), first[lamp]);
        }
        x.set(DomeLamps.FOG, 49);
        once(x, 1);
        Due.is("fog up to 999", x.ofLamp(0, 2), 999);
        Due.is("fog from 1000", x.ofLamp(1, 2), 1000);
        x.set(DomeLamps.FOG, 1);
        x.set(DomeLamps.DIM, 100);
        x.lens(1);
        x.lens(2);
        x.lens(3);
        once(x, 1);
        Due.is("fog up to 1000", x.ofLamp(0, 2), 1000);
        Due.is("fog from 0", x.ofLamp(1, 2), 1);
    }

    private static void twentyGroups() {
        Due.sentence("Lamps, groups: There are up to 20 groups, numbered in the order in which they came:");
        DomeLamps x = new DomeLamps();
        Due.is("groups at first", x.count(1), 0);
        Due.is("ofGroup(0, 0) of none", x.ofGroup(0, 0), NO_SUCH);
        for (int group = 0; group < 20; group++) {
            Due.is("group " + group, x.group(60 - group, 0, 100 - group), group);
            Due.is("groups", x.count(1), group + 1);
        }
        Due.is("group 20", x.group(1, 0, 0), TOO_MANY);
        for (int group = 0; group < 20; group++) {
            Due.is("persons of group " + group, x.ofGroup(group, 0), 60 - group);
        }
        Due.is("ofGroup(20, 0)", x.ofGroup(20, 0), NO_SUCH);
    }

    private static void personsOfAGroup() {
        Due.sentence("Lamps, groups: each of 1 to 60 persons, for a show, with the time from which it waits.");
        DomeLamps x = new DomeLamps();
        Due.is("group of 0", x.group(0, 0, 0), BAD_VALUE);
        Due.is("group of 1", x.group(1, 0, 0), 0);
        Due.is("group of 60", x.group(60, 3, 9999), 1);
        Due.is("group of 61", x.group(61, 0, 0), BAD_VALUE);
        int[] want = {1, 0, 0, 60, 3, 9999};
        for (int what = 0; what < 3; what++) {
            Due.is("ofGroup(0, " + what + ")", x.ofGroup(0, what), want[what]);
            Due.is("ofGroup(1, " + what + ")", x.ofGroup(1, what), want[3 + what]);
        }
    }

    private static void waitsOrHasSeen() {
        Due.sentence("Lamps, groups: A group waits (0), or has seen its show (1).");
        DomeLamps x = Due.withShows("a1");
        x.group(1, 0, 0);
        x.group(1, 0, 1);
        Due.is("ofGroup(0, 3) before its run", x.ofGroup(0, 3), 0);
        x.run();
        Due.is("ofGroup(0, 3) behind its run", x.ofGroup(0, 3), 1);
        Due.is("ofGroup(1, 3) of the other", x.ofGroup(1, 3), 0);
        Due.is("groups that wait", x.count(2), 2);
        x.set(DomeLamps.FOG, 50);
        x.set(DomeLamps.DIM, 1);
        x.run();
        x.group(1, 0, 0);
        x.run();
        Due.is("ofGroup(2, 3) behind a foggy run", x.ofGroup(2, 3), 0);
        Due.is("groups that wait", x.count(2), 4);
    }

    private static void groupIsAChange() {
        Due.sentence("Promise 4: A group comes. This is a change.");
        DomeLamps x = new DomeLamps();
        Change.by("group(1, 0, 0), the first", x, y -> y.group(1, 0, 0), 0);
        x = new DomeLamps();
        for (int group = 0; group < 19; group++) {
            x.group(1, 0, 0);
        }
        Change.by("group(60, 3, 9999), the last", x, y -> y.group(60, 3, 9999), 19);
        x.group(5, 2, 7);
        int[] want = {5, 2, 7, 0, 0};
        for (int what = 0; what < 5; what++) {
            Due.is("ofGroup(19, " + what + ") in place of what was undone", x.ofGroup(19, what), want[what]);
        }
    }

    private static void groupTime() {
        Due.sentence("Promise 4: - `persons`: 1 to 60 - `time`: 0 to 9999");
        DomeLamps x = new DomeLamps();
        int[] bad = {MIN, -1, 10000, 10001, MAX};
        for (int time : bad) {
            Due.is("group(1, 0, " + time + ")", x.group(1, 0, time), BAD_VALUE);
        }
        int[] good = {0, 1, 9998, 9999};
        for (int i = 0; i < good.length; i++) {
            Due.is("group(1, 0, " + good[i] + ")", x.group(1, 0, good[i]), i);
            Due.is("ofGroup(" + i + ", 2)", x.ofGroup(i, 2), good[i]);
        }
        int[] noPersons = {MIN, -1, 0, 61, 62, MAX};
        for (int persons : noPersons) {
            Due.is("group(" + persons + ", 0, 0)", x.group(persons, 0, 0), BAD_VALUE);
        }
        int[] persons = {1, 2, 59, 60};
        for (int i = 0; i < persons.length; i++) {
            Due.is("group(" + persons[i] + ", 0, 0)", x.group(persons[i], 0, 0), 4 + i);
            Due.is("ofGroup(" + (4 + i) + ", 0)", x.ofGroup(4 + i, 0), persons[i]);
        }
    }

    private static void groupReturnsItsNumber() {
        Due.sentence("Promise 4: Returns its number;");
        DomeLamps x = Due.withShows("a1");
        Due.is("the first one", x.group(1, 0, 50), 0);
        Due.is("an earlier one", x.group(1, 0, 10), 1);
        x.run();
        Due.is("one behind a run", x.group(1, 0, 0), 2);
        x.undo();
        Due.is("one behind undo", x.group(1, 0, 0), 2);
    }

    private static void groupNoSuch() {
        Due.sentence("Promise 4: NO_SUCH if there is no such show (0 to 3; it need not be told yet);");
        DomeLamps x = new DomeLamps();
        for (int show : NO_SHOWS) {
            Due.is("group(1, " + show + ", 0)", x.group(1, show, 0), NO_SUCH);
        }
        for (int show = 0; show < 4; show++) {
            Due.is("group(1, " + show + ", 0)", x.group(1, show, 0), show);
            Due.is("ofGroup(" + show + ", 1)", x.ofGroup(show, 1), show);
        }
        Due.is("changes", x.count(14), 4);
    }

    private static void groupBadValue() {
        Due.sentence("Promise 4: BAD_VALUE if another argument is out of range;");
        DomeLamps x = new DomeLamps();
        Due.is("group(0, 0, 9999)", x.group(0, 0, 9999), BAD_VALUE);
        Due.is("group(61, 0, 0)", x.group(61, 0, 0), BAD_VALUE);
        Due.is("group(60, 0, -1)", x.group(60, 0, -1), BAD_VALUE);
        Due.is("group(1, 0, 10000)", x.group(1, 0, 10000), BAD_VALUE);
        Due.is("group(0, 0, -1)", x.group(0, 0, -1), BAD_VALUE);
        Due.is("groups", x.count(1), 0);
        Due.is("group(60, 0, 9999)", x.group(60, 0, 9999), 0);
    }

    private static void groupTooMany() {
        Due.sentence("Promise 4: TOO_MANY if there are 20 groups.");
        DomeLamps x = withAllGroups();
        Due.is("a group when there are 20", x.group(1, 0, 0), TOO_MANY);
        Due.is("groups", x.count(1), 20);
        Due.is("groups that wait", x.count(2), (1 << 20) - 1);
        Due.is("run() of all", x.run(), 40);
        Due.is("groups that wait", x.count(2), 0);
        Due.is("a group when all 20 have seen their show", x.group(1, 0, 0), TOO_MANY);
        Due.is("undo() of the run", x.undo(), 5);
        Due.is("a group when 20 wait again", x.group(1, 0, 0), TOO_MANY);
        Due.is("undo() of the last group", x.undo(), 4);
        Due.is("a group when there are 19", x.group(1, 0, 0), 19);
        Due.is("a group when there are 20", x.group(1, 0, 0), TOO_MANY);
    }

    private static void lampBurnedNothingThen() {
        Due.sentence("Promise 5: Changes a lamp: it burned 0 minutes then.");
        DomeLamps x = Due.withShows("abcdef9");
        once(x, 0);
        for (int lamp = 0; lamp < 6; lamp++) {
            x.lamp(lamp);
            for (int other = 0; other < 6; other++) {
                Due.is("ofLamp(" + other + ", 0) behind lamp(" + lamp + ")", x.ofLamp(other, 0), other <= lamp ? 0 : 9);
                Due.is("ofLamp(" + other + ", 2) behind lamp(" + lamp + ")", x.ofLamp(other, 2), 45);
            }
        }
    }

    private static void lampIsAChange() {
        Due.sentence("Promise 5: This is a change.");
        DomeLamps x = Due.withShows("af9");
        once(x, 0);
        Change.by("lamp(5)", x, y -> y.lamp(5), 9);
        Change.by("lamp(1) that burned nothing", x, y -> y.lamp(1), 0);
    }

    private static void lampReturns() {
        Due.sentence("Promise 5: Returns how many it had burned;");
        DomeLamps x = Due.withShows("5*(a99),a99,a6", "b1");
        once(x, 0);
        once(x, 1);
        x.set(DomeLamps.LIFE, 1);
        Due.is("lamp(0) that burned longer than LIFE", x.lamp(0), 600);
        Due.is("lamp(1) that burned 1 minute", x.lamp(1), 1);
        Due.is("lamp(2) that burned nothing", x.lamp(2), 0);
        Due.is("lamp(0) once more", x.lamp(0), 0);
    }

    private static void lampNoSuch() {
        Due.sentence("Promise 5: NO_SUCH if there is no such lamp.");
        DomeLamps x = new DomeLamps();
        for (int lamp : NO_LAMPS) {
            Due.is("lamp(" + lamp + ")", x.lamp(lamp), NO_SUCH);
        }
        Due.is("changes", x.count(14), 0);
        Due.is("lamp(0)", x.lamp(0), 0);
        Due.is("lamp(5)", x.lamp(5), 0);
    }

    private static void lensFogIsNothing() {
        Due.sentence("Promise 6: Wipes a lens: its fog is 0.");
        DomeLamps x = Due.withShows("abcdef9");
        once(x, 0);
        for (int lamp = 0; lamp < 6; lamp++) {
            x.lens(lamp);
            for (int other = 0; other < 6; other++) {
                Due.is("ofLamp(" + other + ", 2) behind lens(" + lamp + ")", x.ofLamp(other, 2), other <= lamp ? 0 : 45);
                Due.is("ofLamp(" + other + ", 0) behind lens(" + lamp + ")", x.ofLamp(other, 0), 9);
                Due.is("ofLamp(" + other + ", 3) behind lens(" + lamp + ")", x.ofLamp(other, 3), 0);
            }
        }
    }

    private static void lensIsAChange() {
        Due.sentence("Promise 6: This is a change.");
        DomeLamps x = Due.withShows("af9");
        once(x, 0);
        Change.by("lens(5)", x, y -> y.lens(5), 45);
        Change.by("lens(1) without fog", x, y -> y.lens(1), 0);
    }

    private static void lensReturns() {
        Due.sentence("Promise 6: Returns the fog that it had;");
        DomeLamps x = Due.withShows("a99,b1", "c1");
        x.set(DomeLamps.FOG, 50);
        once(x, 0);
        x.set(DomeLamps.FOG, 1);
        once(x, 1);
        Due.is("lens(0), as foggy as can be", x.lens(0), 1000);
        Due.is("lens(1)", x.lens(1), 50);
        Due.is("lens(2), as little as can be", x.lens(2), 1);
        Due.is("lens(3) without fog", x.lens(3), 0);
        Due.is("lens(0) once more", x.lens(0), 0);
    }

    private static void lensNoSuch() {
        Due.sentence("Promise 6: NO_SUCH if there is no such lamp.");
        DomeLamps x = new DomeLamps();
        for (int lamp : NO_LAMPS) {
            Due.is("lens(" + lamp + ")", x.lens(lamp), NO_SUCH);
        }
        Due.is("changes", x.count(14), 0);
        Due.is("lens(0)", x.lens(0), 0);
        Due.is("lens(5)", x.lens(5), 0);
    }

    private static void ofLampWhats() {
        Due.sentence("Promise 11: - `what`: 0 the minutes that it burned, 1 those that it may burn yet (0 if there are none), 2 its fog,"
            + " 3 how often it was changed so far");
        DomeLamps x = Due.withShows("b7,bf3");
        once(x, 0);
        x.lamp(5);
        int[][] want = {{0, 600, 0, 0}, {10, 590, 50, 0}, {0, 600, 0, 0}, {0, 600, 0, 0}, {0, 600, 0, 0}, {0, 600, 15, 1}};
        for (int lamp = 0; lamp < 6; lamp++) {
            for (int what = 0; what < 4; what++) {
                Due.is("ofLamp(" + lamp + ", " + what + ")", x.ofLamp(lamp, what), want[lamp][what]);
            }
        }
    }

    private static void ofLampMinutesLeft() {
        Due.sentence("Promise 11: 1 those that it may burn yet (0 if there are none)");
        DomeLamps x = Due.withShows("d10");
        once(x, 0);
        int[] lives = {9999, 12, 11, 10, 9, 8, 1};
        int[] left = {9989, 2, 1, 0, 0, 0, 0};
        for (int i = 0; i < lives.length; i++) {
            x.set(DomeLamps.LIFE, lives[i]);
            Due.is("ofLamp(3, 1) with LIFE " + lives[i], x.ofLamp(3, 1), left[i]);
            Due.is("ofLamp(2, 1) with LIFE " + lives[i], x.ofLamp(2, 1), lives[i]);
            Due.is("ofLamp(3, 0) with LIFE " + lives[i], x.ofLamp(3, 0), 10);
        }
    }

    private static void ofLampChanges() {
        Due.sentence("Promise 11: 3 how often it was changed so far");
        DomeLamps x = new DomeLamps();
        for (int many = 1; many <= 20; many++) {
            x.lamp(4);
            Due.is("ofLamp(4, 3) behind " + many, x.ofLamp(4, 3), many);
        }
        x.lens(4);
        x.lamp(-1);
        x.lamp(6);
        Due.is("ofLamp(4, 3) behind lens(4)", x.ofLamp(4, 3), 20);
        Due.is("ofLamp(5, 3)", x.ofLamp(5, 3), 0);
        x.undo();
        x.undo();
        Due.is("ofLamp(4, 3) behind undo", x.ofLamp(4, 3), 19);
    }

    private static void ofLampErrors() {
        DomeLamps x = new DomeLamps();
        int[] noWhats = {MIN, -1, 4, MAX};
        Due.sentence("Promise 11: NO_SUCH if there is no such lamp;");
        for (int lamp : NO_LAMPS) {
            for (int what = -1; what <= 4; what++) {
                Due.is("ofLamp(" + lamp + ", " + what + ")", x.ofLamp(lamp, what), NO_SUCH);
            }
        }
        Due.sentence("Promise 11: BAD_VALUE if what is out of range.");
        for (int what : noWhats) {
            Due.is("ofLamp(0, " + what + ")", x.ofLamp(0, what), BAD_VALUE);
            Due.is("ofLamp(5, " + what + ")", x.ofLamp(5, what), BAD_VALUE);
        }
    }

    private static void ofGroupWhats() {
        Due.sentence("Promise 12: - `what`: 0 its persons, 1 its show, 2 the time from which it waits, or waited last,"
            + " 3 how it is, 0 or 1, 4 runs in which it was so far");
        DomeLamps x = Due.withShows("a1", "b1");
        x.group(60, 3, 9999);
        x.group(1, 1, 0);
        x.run();
        int[] want = {60, 3, 9999, 0, 0, 1, 1, 0, 1, 1};
        for (int what = 0; what < 5; what++) {
            Due.is("ofGroup(0, " + what + ")", x.ofGroup(0, what), want[what]);
            Due.is("ofGroup(1, " + what + ")", x.ofGroup(1, what), want[5 + what]);
        }
    }

    private static void ofGroupTime() {
        Due.sentence("Promise 12: 2 the time from which it waits, or waited last,");
        DomeLamps x = Due.withShows("a10");
        x.group(1, 0, 7);
        x.run();
        Due.is("it waited last from", x.ofGroup(0, 2), 7);
        x.set(DomeLamps.DIM, 5);
        x.group(1, 0, 9);
        Due.is("it waits from", x.ofGroup(1, 2), 9);
        x.run();
        Due.is("it waits from, behind a foggy run", x.ofGroup(1, 2), 37);
        x.lens(0);
        x.run();
        Due.is("it waited last from", x.ofGroup(1, 2), 37);
        Due.is("it has seen its show", x.ofGroup(1, 3), 1);
    }

    private static void ofGroupRuns() {
        Due.sentence("Promise 12: 4 runs in which it was so far");
        DomeLamps x = Due.withShows("a10");
        x.set(DomeLamps.DIM, 5);
        x.set(DomeLamps.WAIT, 0);
        x.group(1, 0, 0);
        x.run();
        x.group(40, 0, 0);
        x.group(1, 0, 1);
        Due.is("ofGroup(1, 4) before its run", x.ofGroup(1, 4), 0);
        for (int many = 1; many <= 5; many++) {
            x.run();
            x.run();
            Due.is("ofGroup(0, 4)", x.ofGroup(0, 4), 1);
            Due.is("ofGroup(1, 4) behind " + many, x.ofGroup(1, 4), many);
            Due.is("ofGroup(2, 4) behind " + many, x.ofGroup(2, 4), many);
        }
    }

    private static void ofGroupErrors() {
        DomeLamps x = withAllGroups();
        int[] noGroups = {MIN, -1, 20, MAX};
        int[] noWhats = {MIN, -1, 5, MAX};
        Due.sentence("Promise 12: NO_SUCH if there is no such group;");
        for (int group : noGroups) {
            for (int what = -1; what <= 5; what++) {
                Due.is("ofGroup(" + group + ", " + what + ")", x.ofGroup(group, what), NO_SUCH);
            }
        }
        Due.is("ofGroup(19, 0), the last one", x.ofGroup(19, 0), 2);
        x.undo();
        Due.is("ofGroup(19, 0) of 19 groups", x.ofGroup(19, 0), NO_SUCH);
        Due.is("ofGroup(18, 0) of 19 groups", x.ofGroup(18, 0), 2);
        Due.is("ofGroup(0, 0) of no group", new DomeLamps().ofGroup(0, 0), NO_SUCH);
        Due.sentence("Promise 12: BAD_VALUE if what is out of range.");
        for (int what : noWhats) {
            Due.is("ofGroup(0, " + what + ")", x.ofGroup(0, what), BAD_VALUE);
            Due.is("ofGroup(18, " + what + ")", x.ofGroup(18, what), BAD_VALUE);
        }
    }
}
