/** The sentences of 'A run' and of promise 7. */
public final class RunSentencesTest {
    private static final int NOT_POSSIBLE = DomeLamps.NOT_POSSIBLE;

    public static void main(String[] args) {
        firstGroup();
        firstGroupWaits();
        othersOfTheSameShow();
        noLaterThanTheBeginning();
        byTimeAndThenNumber();
        thoseThatFindSeats();
        othersBehindMayFindSome();
        firstGroupHasSeatsAlways();
        beginning();
        withoutAGroup();
        showNotTold();
        moreThanSeats();
        lampBurnsTooLong();
        foggyAtDim();
        foggyByOneOfItsLamps();
        foggyAsItBegins();
        burned();
        fogAtMost1000();
        nowIsTheEnd();
        paysOnce();
        foggyGroupsWaitOn();
        foggyGroups0And19();
        otherwiseTheyHaveSeenIt();
        runIsAChange();
        runReturnsPersons();
        runNotPossible();
        runNotAbove99999();
        Due.end("RunSentencesTest");
    }

    /** Lets one run of a show be, with a group of one that waits from 0. */
    private static void once(DomeLamps x, int show) {
        x.group(1, show, 0);
        Due.is("run() of show " + show, x.run(), 1);
    }

    private static void firstGroup() {
        Due.sentence("A run: The first group is the one that waits and has the earliest time, of several the lowest one.");
        DomeLamps x = Due.withShows("a1", "b1", "c1", "d1");
        x.group(1, 0, 10);
        x.group(1, 1, 9);
        x.group(1, 2, 9);
        x.group(1, 3, 9999);
        Due.is("next(0) of times 10, 9, 9, 9999", x.next(0), 1);
        Due.is("next(2)", x.next(2), 9);
        x.group(1, 3, 8);
        Due.is("next(0) with one at 8", x.next(0), 3);
        x.group(1, 0, 0);
        Due.is("next(0) with one at 0", x.next(0), 0);
        x.group(1, 1, 0);
        Due.is("next(0) with two at 0", x.next(0), 0);
        Due.is("next(1) with two at 0", x.next(1), 32);
        x = Due.withShows("a1", "b1");
        x.group(1, 1, 9999);
        x.group(1, 0, 9999);
        Due.is("next(0) of two at 9999", x.next(0), 1);
    }

    private static void firstGroupWaits() {
        Due.sentence("A run: The first group is the one that waits");
        DomeLamps x = Due.withShows("a1", "b1");
        x.group(1, 0, 0);
        x.group(1, 1, 50);
        x.group(1, 1, 49);
        x.run();
        Due.is("next(0) behind the run of the earliest", x.next(0), 1);
        Due.is("next(1) behind it", x.next(1), 4);
        Due.is("next(2) behind it", x.next(2), 49);
    }

    private static void othersOfTheSameShow() {
        Due.sentence("A run: It runs its show: it, and of the others that wait for the same show");
        DomeLamps x = Due.withShows("a1", "b1");
        once(x, 0);
        x.group(1, 1, 0);
        x.group(1, 0, 0);
        x.group(1, 1, 1);
        x.group(1, 2, 0);
        Due.is("next(1) of show 1", x.next(1), 2 + 8);
        Due.is("run() of show 1", x.run(), 2);
        Due.is("next(1) of show 0, without those that have seen it", x.next(1), 4);
    }

    private static void noLaterThanTheBeginning() {
        Due.sentence("A run: and whose time is no later than the beginning,");
        DomeLamps x = Due.withShows("a20");
        x.group(1, 0, 5);
        x.group(1, 0, 4);
        x.group(1, 0, 4);
        Due.is("next(1) that begins at 4", x.next(1), 2 + 4);
        x.run();
        Due.is("now", x.count(0), 24);
        x.group(1, 0, 23);
        x.group(1, 0, 24);
        x.group(1, 0, 25);
        Due.is("next(1) that begins at 24", x.next(1), 1 + 8 + 16);
        Due.is("run() that begins at 24", x.run(), 3);
        Due.is("group 5 waits on", x.ofGroup(5, 3), 0);
    }

    private static void byTimeAndThenNumber() {
        Due.sentence("A run: by time and then number, those that find seats");
        DomeLamps x = Due.withShows("a20");
        x.set(DomeLamps.SEATS, 10);
        once(x, 0);
        x.group(4, 0, 20);
        x.group(3, 0, 19);
        x.group(5, 0, 18);
        Due.is("next(1): 5 at 18, 3 at 19, none for 4 at 20", x.next(1), 4 + 8);
        x.undo();
        x.group(5, 0, 20);
        x.group(2, 0, 20);
        Due.is("next(1): 3 at 19, 4 and 2 at 20, none for 5 at 20", x.next(1), 2 + 4 + 16);
        x.undo();
        x.undo();
        x.group(3, 0, 20);
        x.group(3, 0, 20);
        Due.is("next(1): 3 at 19, 4 at 20, the lower one of 3 at 20", x.next(1), 2 + 4 + 8);
    }

    private static void thoseThatFindSeats() {
        Due.sentence("A run: those that find seats");
        DomeLamps x = Due.withShows("a1");
        x.group(39, 0, 0);
        x.group(1, 0, 0);
        Due.is("next(1) to the last seat", x.next(1), 3);
        x.undo();
        x.group(2, 0, 0);
        Due.is("next(1) with one seat too few", x.next(1), 1);
        x.set(DomeLamps.SEATS, 41);
        Due.is("next(1) with one seat more", x.next(1), 3);
        x.group(1, 0, 0);
        Due.is("next(1) without a seat left", x.next(1), 3);
        Due.is("run() without a seat left", x.run(), 41);
        x = Due.withShows("a1");
        x.set(DomeLamps.SEATS, 20);
        for (int group = 0; group < 20; group++) {
            x.group(1, 0, 0);
        }
        Due.is("next(1) of 20 groups of one", x.next(1), (1 << 20) - 1);
        x.set(DomeLamps.SEATS, 19);
        Due.is("next(1) of 20 groups of one, 19 seats", x.next(1), (1 << 19) - 1);
    }

    private static void othersBehindMayFindSome() {
        Due.sentence("A run: (one that does not find them waits on, others behind it may find some);");
        DomeLamps x = Due.withShows("a10");
        x.group(38, 0, 0);
        x.group(3, 0, 0);
        x.group(2, 0, 0);
        x.group(1, 0, 0);
        Due.is("next(1)", x.next(1), 1 + 4);
        Due.is("run()", x.run(), 40);
        int[] want = {3, 0, 0, 0, 0};
        for (int what = 0; what < 5; what++) {
            Due.is("ofGroup(1, " + what + ")", x.ofGroup(1, what), want[what]);
        }
        Due.is("coins of those that found seats", x.count(3), 200);
        Due.is("run() of the others", x.run(), 4);
    }

    private static void firstGroupHasSeatsAlways() {
        Due.sentence("A run: the first group has seats always, if it has no more persons than SEATS.");
        DomeLamps x = Due.withShows("a10", "b10");
        once(x, 1);
        x.group(30, 0, 5);
        x.group(40, 0, 4);
        Due.is("next(1) of 40 that waited longer than 30", x.next(1), 4);
        x.set(DomeLamps.SEATS, 60);
        x.group(60, 0, 3);
        Due.is("next(1) of 60 with 60 seats", x.next(1), 8);
        Due.is("run() of 60 with 60 seats", x.run(), 60);
    }

    private static void beginning() {
        Due.sentence("A run: The run begins at the time of now, or at the time of the first group, whichever is later.");
        DomeLamps x = Due.withShows("a10");
        x.group(1, 0, 0);
        Due.is("next(2) of 0 at 0", x.next(2), 0);
        x.undo();
        x.group(1, 0, 1);
        Due.is("next(2) of 1 at 0", x.next(2), 1);
        x.run();
        Due.is("now", x.count(0), 11);
        int[] times = {10, 11, 12, 9999};
        int[] want = {11, 11, 12, 9999};
        for (int i = 0; i < times.length; i++) {
            x.group(1, 0, times[i]);
            Due.is("next(2) of " + times[i] + " at 11", x.next(2), want[i]);
            x.run();
            Due.is("now behind it", x.count(0), want[i] + 10);
            x.undo();
            x.undo();
        }
    }

    private static void withoutAGroup() {
        Due.sentence("A run: A run cannot be: without a group that waits (reason 1);");
        DomeLamps x = Due.withShows("a1");
        Due.is("why() without a group", x.why(), 1);
        Due.is("run() without a group", x.run(), NOT_POSSIBLE);
        once(x, 0);
        Due.is("why() of one that has seen it", x.why(), 1);
        Due.is("run() of one that has seen it", x.run(), NOT_POSSIBLE);
        x.group(1, 0, 9999);
        Due.is("why() of one that waits", x.why(), 0);
    }

    private static void showNotTold() {
        Due.sentence("A run: if its show is not told (2);");
        DomeLamps x = Due.withShows("a1", "b1", "c1");
        x.group(1, 3, 5);
        Due.is("why() of a show that is not told", x.why(), 2);
        Due.is("run() of a show that is not told", x.run(), NOT_POSSIBLE);
        x.group(1, 0, 5);
        Due.is("why() with another group behind it", x.why(), 2);
        x.group(1, 0, 4);
        Due.is("why() with another group before it", x.why(), 0);
        x.undo();
        Due.told(x, 3, "d1", 1);
        Due.is("why() of the show that was told", x.why(), 0);
        x.undo();
        Due.is("why() behind undo", x.why(), 2);
    }

    private static void moreThanSeats() {
        Due.sentence("A run: if it has more persons than SEATS (3);");
        DomeLamps x = Due.withShows("a1");
        x.group(41, 0, 5);
        Due.is("why() of 41 with 40 seats", x.why(), 3);
        Due.is("run() of 41 with 40 seats", x.run(), NOT_POSSIBLE);
        x.set(DomeLamps.SEATS, 41);
        Due.is("why() of 41 with 41 seats", x.why(), 0);
        x.set(DomeLamps.SEATS, 40);
        x.group(40, 0, 4);
        Due.is("why() of 40 before it", x.why(), 0);
        Due.is("run() of 40 before it", x.run(), 40);
        Due.is("why() of 41 then", x.why(), 3);
    }

    private static void lampBurnsTooLong() {
        Due.sentence("A run: if one of the lamps of the show would have burned more than LIFE behind it (4).");
        DomeLamps x = Due.withShows("a50,b49", "b1", "a1,b1", "c1");
        x.set(DomeLamps.LIFE, 50);
        once(x, 0);
        x.group(1, 1, 0);
        Due.is("why() of 49 and 1 minutes with LIFE 50", x.why(), 0);
        x.undo();
        x.group(1, 2, 0);
        Due.is("why() of 50 and 1 minutes with LIFE 50", x.why(), 4);
        Due.is("run() of 50 and 1 minutes with LIFE 50", x.run(), NOT_POSSIBLE);
        x.set(DomeLamps.LIFE, 51);
        Due.is("why() of 50 and 1 minutes with LIFE 51", x.why(), 0);
        x.undo();
        x.undo();
        x.set(DomeLamps.LIFE, 1);
        x.group(1, 3, 0);
        Due.is("why() while lamps of other shows burned too long", x.why(), 0);
        Due.is("run() while lamps of other shows burned too long", x.run(), 1);
        x.group(1, 3, 0);
        Due.is("why() of 1 and 1 minutes with LIFE 1", x.why(), 4);
        x.lamp(2);
        Due.is("why() of a new lamp", x.why(), 0);
    }

    private static void foggyAtDim() {
        Due.sentence("A run: in hundredths rounded down, is at least DIM as it begins.");
        DomeLamps x = Due.withShows("a19", "a1");
        x.set(DomeLamps.FOG, 1);
        once(x, 0);
        x.group(1, 1, 0);
        x.set(DomeLamps.DIM, 2);
        Due.is("next(3) at 19 with DIM 2", x.next(3), 0);
        x.set(DomeLamps.DIM, 1);
        Due.is("next(3) at 19 with DIM 1", x.next(3), 1);
        x.set(DomeLamps.DIM, 2);
        x.run();
        Due.is("foggy ones at 19 with DIM 2", x.count(5), 0);
        x.group(1, 1, 0);
        Due.is("next(3) at 20 with DIM 2", x.next(3), 1);
        x.set(DomeLamps.DIM, 3);
        Due.is("next(3) at 20 with DIM 3", x.next(3), 0);
        x.set(DomeLamps.DIM, 2);
        x.run();
        Due.is("foggy ones at 20 with DIM 2", x.count(5), 1);
    }

    private static void foggyByOneOfItsLamps() {
        Due.sentence("A run: A run is foggy if the fog of one of its lamps,");
        DomeLamps x = Due.withShows("c99,f1", "abde1", "abcde1", "f1,c1", "ef1");
        once(x, 0);
        x.set(DomeLamps.DIM, 49);
        int[] want = {1, 0, 1, 1};
        for (int show = 0; show < 4; show++) {
            x.group(1, show, 0);
            Due.is("next(3) of show " + show, x.next(3), want[show]);
            x.undo();
        }
    }

    private static void foggyAsItBegins() {
        Due.sentence("A run: as it begins.");
        DomeLamps x = Due.withShows("a99");
        x.set(DomeLamps.DIM, 1);
        x.group(1, 0, 0);
        Due.is("next(3) with a clean lens", x.next(3), 0);
        x.run();
        Due.is("foggy ones, though the lens fogged in it", x.count(5), 0);
        Due.is("its group has seen it", x.ofGroup(0, 3), 1);
        x.group(1, 0, 0);
        x.run();
        Due.is("foggy ones behind the next", x.count(5), 1);
    }

    private static void burned() {
        Due.sentence("A run: Behind a run each lamp burned as long as it is lit in the show,");
        DomeLamps x = Due.withShows("a1,2*(b3,bc2,9*(d9))", "a2,f99");
        once(x, 0);
        int[] want = {1, 10, 4, 162, 0, 0};
        for (int lamp = 0; lamp < 6; lamp++) {
            Due.is("ofLamp(" + lamp + ", 0)", x.ofLamp(lamp, 0), want[lamp]);
        }
        once(x, 1);
        want = new int[] {3, 10, 4, 162, 0, 99};
        for (int lamp = 0; lamp < 6; lamp++) {
            Due.is("ofLamp(" + lamp + ", 0) behind the second", x.ofLamp(lamp, 0), want[lamp]);
        }
    }

    private static void fogAtMost1000() {
        Due.sentence("A run: its lens has FOG more fog for each of these minutes, at most 1000;");
        DomeLamps x = Due.withShows("a99,b98,c1", "a2,b5", "a1", "b1");
        x.set(DomeLamps.FOG, 10);
        once(x, 0);
        int[] want = {990, 980, 10, 0, 0, 0};
        for (int lamp = 0; lamp < 6; lamp++) {
            Due.is("ofLamp(" + lamp + ", 2)", x.ofLamp(lamp, 2), want[lamp]);
        }
        x.set(DomeLamps.FOG, 4);
        once(x, 1);
        Due.is("990 and 8", x.ofLamp(0, 2), 998);
        Due.is("980 and 20", x.ofLamp(1, 2), 1000);
        x.set(DomeLamps.FOG, 1);
        once(x, 2);
        Due.is("998 and 1", x.ofLamp(0, 2), 999);
        x.lens(0);
        once(x, 0);
        Due.is("0 and 99", x.ofLamp(0, 2), 99);
        Due.is("1000 and 98", x.ofLamp(1, 2), 1000);
        x = Due.withShows("a99", "a1");
        x.set(DomeLamps.FOG, 10);
        once(x, 0);
        x.set(DomeLamps.FOG, 11);
        once(x, 1);
        Due.is("990 and 11", x.ofLamp(0, 2), 1000);
    }

    private static void nowIsTheEnd() {
        Due.sentence("A run: the time of now is the end of the run.");
        DomeLamps x = Due.withShows("a1", "9*(b99),c99,d9");
        Due.is("now at first", x.count(0), 0);
        x.group(1, 0, 0);
        x.run();
        Due.is("now behind 1 minute from 0", x.count(0), 1);
        x.set(DomeLamps.LIFE, 9999);
        x.group(1, 1, 9999);
        x.run();
        Due.is("now behind 999 minutes from 9999", x.count(0), 10998);
        x.group(1, 0, 9999);
        x.run();
        Due.is("now behind 1 minute more", x.count(0), 10999);
    }

    private static void paysOnce() {
        Due.sentence("A run: Each group in it that comes for the first time pays PRICE for each person.");
        DomeLamps x = Due.withShows("a10");
        x.set(DomeLamps.DIM, 5);
        x.set(DomeLamps.WAIT, 0);
        x.set(DomeLamps.PRICE, 2);
        once(x, 0);
        Due.is("coins of 1 person", x.count(3), 2);
        x.group(10, 0, 0);
        x.group(31, 0, 0);
        x.run();
        Due.is("coins behind a foggy run of 10, not of 31", x.count(3), 2 + 20);
        x.group(5, 0, 0);
        x.set(DomeLamps.SEATS, 99);
        x.set(DomeLamps.PRICE, 3);
        Due.is("run() of 31 and 5 and the 10 that paid", x.run(), 46);
        Due.is("coins then", x.count(3), 22 + 36 * 3);
        x.lens(0);
        Due.is("run() of all of them", x.run(), 46);
        Due.is("coins then, as before", x.count(3), 22 + 36 * 3);
    }

    private static void foggyGroupsWaitOn() {
        Due.sentence("A run: If the run is foggy, its groups wait on, with the time of now and WAIT together;");
        DomeLamps x = Due.withShows("a10", "b1");
        x.set(DomeLamps.DIM, 5);
        once(x, 0);
        x.group(20, 0, 0);
        x.group(21, 0, 0);
        x.group(20, 0, 3);
        x.group(1, 1, 0);
        Due.is("run() of 20 and 20", x.run(), 40);
        Due.is("groups that wait", x.count(2), 2 + 4 + 8 + 16);
        int[] times = {0, 30, 0, 30, 0};
        int[] runs = {1, 1, 0, 1, 0};
        for (int group = 0; group < 5; group++) {
            Due.is("ofGroup(" + group + ", 2)", x.ofGroup(group, 2), times[group]);
            Due.is("ofGroup(" + group + ", 4)", x.ofGroup(group, 4), runs[group]);
        }
        Due.is("now", x.count(0), 20);
        Due.is("run() of the 21 that did not find seats", x.run(), 21);
        Due.is("run() of the other show", x.run(), 1);
        Due.is("run() of the two once more", x.run(), 40);
        Due.is("now", x.count(0), 41);
    }

    /** The first and the last group that there may be are in it; group 1 fogs the lens before. */
    private static void foggyGroups0And19() {
        DomeLamps x = Due.withShows("a10");
        x.set(DomeLamps.DIM, 5);
        x.group(3, 0, 1);
        x.group(40, 0, 0);
        for (int group = 2; group < 19; group++) {
            x.group(60, 1, 9999);
        }
        Due.is("group 19", x.group(4, 0, 1), 19);
        Due.is("run() of group 1", x.run(), 40);
        Due.is("run() of groups 0 and 19", x.run(), 7);
        Due.is("coins", x.count(3), 235);
        Due.is("groups that wait", x.count(2), (1 << 20) - 1 - 2);
        int[] groups = {0, 19};
        for (int group : groups) {
            Due.is("ofGroup(" + group + ", 2)", x.ofGroup(group, 2), 30);
            Due.is("ofGroup(" + group + ", 3)", x.ofGroup(group, 3), 0);
            Due.is("ofGroup(" + group + ", 4)", x.ofGroup(group, 4), 1);
        }
        x.lens(0);
        Due.is("run() of groups 0 and 19, once more", x.run(), 7);
        Due.is("coins, as before", x.count(3), 235);
        Due.is("groups that wait", x.count(2), (1 << 19) - 4);
    }

    private static void otherwiseTheyHaveSeenIt() {
        Due.sentence("A run: otherwise they have seen their show.");
        DomeLamps x = Due.withShows("a10");
        x.group(20, 0, 0);
        x.group(21, 0, 0);
        x.group(20, 0, 0);
        x.group(1, 0, 1);
        Due.is("run() of 20 and 20", x.run(), 40);
        int[] seen = {1, 0, 1, 0};
        int[] times = {0, 0, 0, 1};
        for (int group = 0; group < 4; group++) {
            Due.is("ofGroup(" + group + ", 3)", x.ofGroup(group, 3), seen[group]);
            Due.is("ofGroup(" + group + ", 2)", x.ofGroup(group, 2), times[group]);
        }
        Due.is("foggy ones", x.count(5), 0);
    }

    private static void runIsAChange() {
        Due.sentence("Promise 7: Runs a show. This is a change.");
        DomeLamps x = Due.withShows("a1,b2", "c3");
        x.group(10, 0, 3);
        Change.by("run()", x, y -> y.run(), 10);
        x.set(DomeLamps.DIM, 1);
        x.set(DomeLamps.FOG, 50);
        x.run();
        x.group(11, 0, 3);
        Change.by("run() that is foggy", x, y -> y.run(), 11);
        x = new DomeLamps();
        Unchanged.busy(x);
        Change.by("run() of a busy dome", x, y -> y.run(), 31);
    }

    private static void runReturnsPersons() {
        Due.sentence("Promise 7: Returns how many persons are in it;");
        DomeLamps x = Due.withShows("a1");
        x.set(DomeLamps.SEATS, 99);
        x.group(1, 0, 0);
        Due.is("run() of 1", x.run(), 1);
        x.group(60, 0, 0);
        x.group(39, 0, 0);
        x.group(1, 0, 0);
        Due.is("run() of 60 and 39", x.run(), 99);
        x.set(DomeLamps.FOG, 50);
        x.set(DomeLamps.DIM, 1);
        x.lens(0);
        Due.is("run() that fogs the lens", x.run(), 1);
        x.group(5, 0, 0);
        Due.is("run() that is foggy", x.run(), 5);
        Due.is("run() of the same, once more", x.run(), 5);
    }

    private static void runNotPossible() {
        Due.sentence("Promise 7: NOT_POSSIBLE if why() is not 0,");
        DomeLamps x = new DomeLamps();
        x.set(DomeLamps.LIFE, 9);
        Due.is("why()", x.why(), 1);
        Due.is("run() for reason 1", x.run(), NOT_POSSIBLE);
        x.group(41, 0, 0);
        Due.is("why()", x.why(), 2);
        Due.is("run() for reason 2", x.run(), NOT_POSSIBLE);
        Due.told(x, 0, "a10", 10);
        Due.is("why()", x.why(), 3);
        Due.is("run() for reason 3", x.run(), NOT_POSSIBLE);
        x.set(DomeLamps.SEATS, 41);
        Due.is("why()", x.why(), 4);
        Due.is("run() for reason 4", x.run(), NOT_POSSIBLE);
        x.set(DomeLamps.LIFE, 10);
        Due.is("why()", x.why(), 0);
        Due.is("run() for no reason", x.run(), 41);
        Due.is("runs", x.count(4), 1);
    }

    private static void runNotAbove99999() {
        Due.sentence("Promise 7: or the time of now would be above 99999.");
        String[] texts = {"a89", "a90", "a91", "9*(a99)"};
        int[] want = {1, 1, NOT_POSSIBLE, NOT_POSSIBLE};
        for (int i = 0; i < texts.length; i++) {
            DomeLamps x = new DomeLamps();
            EndOfTime.go(x);
            Due.write(x, texts[i]);
            x.tell(0);
            Due.is("why() of " + texts[i], x.why(), 0);
            Due.is("run() of " + texts[i], x.run(), want[i]);
            Due.is("now behind " + texts[i], x.count(0), i < 2 ? 99998 + i : 99909);
        }
        DomeLamps x = new DomeLamps();
        EndOfTime.go(x);
        Due.told(x, 0, "a90", 90);
        x.run();
        Due.told(x, 0, "a1", 1);
        Due.is("run() at 99999", x.run(), NOT_POSSIBLE);
        x.undo();
        x.undo();
        Due.is("run() behind undo", x.run(), 1);
        Due.is("now", x.count(0), 99999);
    }
}
