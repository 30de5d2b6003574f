/** The sentences of promises 13 to 18. */
public final class WhatIfSentencesTest {
    private static final int MIN = Integer.MIN_VALUE, MAX = Integer.MAX_VALUE;
    private static final int NO_SUCH = DomeLamps.NO_SUCH, BAD_VALUE = DomeLamps.BAD_VALUE, NOT_POSSIBLE = DomeLamps.NOT_POSSIBLE;

    public static void main(String[] args) {
        countTimeAndGroups();
        countCoinsAndRuns();
        countShowsAndSettings();
        countPad();
        countChanges();
        countBadValue();
        nothingChanges();
        whyItCan();
        whyFirstReason();
        nextWhats();
        nextBadValue();
        nextNotPossible();
        oftenOf();
        oftenOfOneRunBehindTheOther();
        oftenOfNoSuch();
        oftenOfNone();
        endsFirst();
        endsFirstLowest();
        runsLeft();
        runsLeftUntilEachReason();
        runsLeftWithoutBoundOfTime();
        runsLeftAtMost50();
        Due.end("WhatIfSentencesTest");
    }

    /** Lets one run of a show be, with a group of one that waits from 0. */
    private static void once(DomeLamps x, int show) {
        x.group(1, show, 0);
        Due.is("run() of show " + show, x.run(), 1);
    }

    private static void countTimeAndGroups() {
        Due.sentence("Promise 13: 0 the time of now, 1 groups, 2 groups that wait, as a set,");
        DomeLamps x = Due.withShows("a7");
        int[] first = {0, 0, 0};
        for (int what = 0; what < 3; what++) {
            Due.is("count(" + what + ") at first", x.count(what), first[what]);
        }
        for (int group = 0; group < 20; group++) {
            x.group(39, 0, group == 0 ? 0 : 9999);
        }
        Due.is("count(1) of 20", x.count(1), 20);
        Due.is("count(2) of 20", x.count(2), 0xFFFFF);
        x.run();
        Due.is("count(0) behind a run", x.count(0), 7);
        Due.is("count(1) behind a run", x.count(1), 20);
        Due.is("count(2) behind a run", x.count(2), 0xFFFFE);
    }

    private static void countCoinsAndRuns() {
        Due.sentence("Promise 13: 3 coins so far, 4 runs so far, 5 foggy ones so far,");
        DomeLamps x = Due.withShows("a7", "b1");
        x.set(DomeLamps.DIM, 3);
        for (int what = 3; what <= 5; what++) {
            Due.is("count(" + what + ") at first", x.count(what), 0);
        }
        once(x, 0);
        int[] want = {5, 1, 0};
        for (int what = 3; what <= 5; what++) {
            Due.is("count(" + what + ") behind a run", x.count(what), want[what - 3]);
        }
        once(x, 0);
        once(x, 1);
        want = new int[] {15, 3, 1};
        for (int what = 3; what <= 5; what++) {
            Due.is("count(" + what + ") behind a foggy one and another", x.count(what), want[what - 3]);
        }
    }

    private static void countShowsAndSettings() {
        Due.sentence("Promise 13: 6 shows that are told, as a set, 7 to 12 the settings,");
        DomeLamps x = new DomeLamps();
        int[] order = {3, 0, 2, 1};
        int set = 0;
        for (int show : order) {
            Due.is("count(6)", x.count(6), set);
            Due.told(x, show, "a1", 1);
            set |= 1 << show;
        }
        Due.is("count(6) of all", x.count(6), 15);
        for (int setting = 0; setting < 6; setting++) {
            x.set(setting, 20 + setting);
        }
        for (int what = 7; what <= 12; what++) {
            Due.is("count(" + what + ")", x.count(what), 13 + what);
        }
    }

    private static void countPad() {
        Due.sentence("Promise 13: 13 the length of the pad,");
        DomeLamps x = new DomeLamps();
        for (int length = 0; length <= 80; length++) {
            Due.is("count(13)", x.count(13), length);
            Due.is("put behind " + length, x.put('a'), length == 80 ? DomeLamps.TOO_MANY : length + 1);
        }
        Due.is("count(13)", x.count(13), 80);
        x.wipe();
        Due.is("count(13)", x.count(13), 0);
    }

    private static void countChanges() {
        Due.sentence("Promise 13: 14 how many changes can be undone");
        DomeLamps x = new DomeLamps();
        int[] want = {0, 1, 2, 3, 4, 5, 6, 6, 6};
        for (int i = 0; i < want.length; i++) {
            Due.is("count(14) behind " + i, x.count(14), want[i]);
            x.lamp(0);
        }
        for (int left = 5; left >= 0; left--) {
            x.undo();
            Due.is("count(14) behind undo", x.count(14), left);
        }
    }

    private static void countBadValue() {
        Due.sentence("Promise 13: BAD_VALUE if what is out of range.");
        DomeLamps x = new DomeLamps();
        int[] bad = {MIN, -1, 15, 16, MAX};
        for (int what : bad) {
            Due.is("count(" + what + ")", x.count(what), BAD_VALUE);
        }
        Due.is("count(0)", x.count(0), 0);
        Due.is("count(14)", x.count(14), 0);
    }

    private static void nothingChanges() {
        Due.sentence("Terms: ---- what if; nothing changes.");
        Unchanged.by("why()", Unchanged::busy, x -> x.why(), 0);
        int[] next = {0, 2, 73, 1};
        for (int what = 0; what < 4; what++) {
            int asked = what;
            Unchanged.by("next(" + what + ")", Unchanged::busy, x -> x.next(asked), next[what]);
        }
        Unchanged.by("oftenOf(0)", Unchanged::busy, x -> x.oftenOf(0), (600 - 24) / 12);
        Unchanged.by("oftenOf(2) of none", Unchanged::busy, x -> x.oftenOf(2), DomeLamps.NONE);
        Unchanged.by("endsFirst()", Unchanged::busy, x -> x.endsFirst(), 2);
        Unchanged.by("runsLeft()", Unchanged::busy, x -> x.runsLeft(), 50);
        Unchanged.by("runsLeft() of 1", x -> {
            Due.write(x, "ab9");
            x.tell(2);
            x.group(40, 2, 3);
        }, x -> x.runsLeft(), 1);
    }

    private static void whyItCan() {
        Due.sentence("Promise 14: Returns 0: it can;");
        DomeLamps x = Due.withShows("a1");
        Due.is("why() without a group", x.why(), 1);
        x.group(40, 0, 9999);
        Due.is("why() of 40 from 9999", x.why(), 0);
        x.run();
        Due.is("why() behind the run", x.why(), 1);
        x.undo();
        Due.is("why() behind undo", x.why(), 0);
    }

    private static void whyFirstReason() {
        Due.sentence("Promise 14: otherwise the reason, 1 to 4, the first one that is so.");
        DomeLamps x = new DomeLamps();
        x.set(DomeLamps.LIFE, 1);
        x.set(DomeLamps.SEATS, 1);
        Due.is("why() without a group", x.why(), 1);
        x.group(2, 0, 0);
        Due.is("why() of 2, 3", x.why(), 2);
        Due.told(x, 0, "a2", 2);
        Due.is("why() of 3, 4", x.why(), 3);
        x.set(DomeLamps.SEATS, 2);
        Due.is("why() of 4", x.why(), 4);
        x.set(DomeLamps.LIFE, 2);
        Due.is("why() of nothing", x.why(), 0);
        x.set(DomeLamps.SEATS, 1);
        Due.is("why() of 3", x.why(), 3);
    }

    private static void nextWhats() {
        Due.sentence("Promise 15: - `what`: 0 its show, 1 the groups in it, as a set, 2 when it begins, 3 whether it is foggy (1 or 0)");
        DomeLamps x = Due.withShows("a1", "b1", "c1", "d99");
        once(x, 3);
        x.group(1, 3, 0);
        x.set(DomeLamps.DIM, 49);
        int[] want = {3, 2, 99, 1};
        for (int what = 0; what < 4; what++) {
            Due.is("next(" + what + ")", x.next(what), want[what]);
        }
        x.lens(3);
        Due.is("next(3) with a clean lens", x.next(3), 0);
        x.run();
        for (int group = 2; group < 20; group++) {
            x.group(2, 0, 9999);
        }
        want = new int[] {0, 0xFFFFC, 9999, 0};
        for (int what = 0; what < 4; what++) {
            Due.is("next(" + what + ") of 18 groups", x.next(what), want[what]);
        }
    }

    private static void nextBadValue() {
        Due.sentence("Promise 15: BAD_VALUE if what is out of range;");
        int[] bad = {MIN, -1, 4, MAX};
        DomeLamps x = new DomeLamps();
        DomeLamps y = Due.withShows("a1");
        y.group(1, 0, 0);
        for (int what : bad) {
            Due.is("next(" + what + ") without a group", x.next(what), BAD_VALUE);
            Due.is("next(" + what + ") with a group", y.next(what), BAD_VALUE);
        }
    }

    private static void everyNext(DomeLamps x, String when, int want) {
        for (int what = 0; what < 4; what++) {
            Due.is("next(" + what + ") " + when, x.next(what), want);
        }
    }

    private static void nextNotPossible() {
        Due.sentence("Promise 15: NOT_POSSIBLE if why() is 1, 2 or 3 (a lamp that would burn too long does not matter).");
        DomeLamps x = new DomeLamps();
        x.set(DomeLamps.LIFE, 4);
        everyNext(x, "for reason 1", NOT_POSSIBLE);
        x.group(41, 0, 6);
        everyNext(x, "for reason 2", NOT_POSSIBLE);
        Due.told(x, 0, "a5", 5);
        everyNext(x, "for reason 3", NOT_POSSIBLE);
        x.set(DomeLamps.SEATS, 41);
        Due.is("why()", x.why(), 4);
        Due.is("next(0) for reason 4", x.next(0), 0);
        Due.is("next(1) for reason 4", x.next(1), 1);
        Due.is("next(2) for reason 4", x.next(2), 6);
        Due.is("next(3) for reason 4", x.next(3), 0);
        x.set(DomeLamps.LIFE, 5);
        Due.is("next(1) for no reason", x.next(1), 1);
        x.run();
        everyNext(x, "when all have seen their show", NOT_POSSIBLE);
    }

    private static void oftenOf() {
        Due.sentence("Promise 16: Tells how often a show could run, one run behind the other, until a lamp would burn too long."
            + " Returns how often;");
        DomeLamps x = Due.withShows("a10,b3", "f1");
        int[] lives = {9999, 600, 31, 30, 29, 20, 19, 10, 9, 1};
        int[] often = {999, 60, 3, 3, 2, 2, 1, 1, 0, 0};
        for (int i = 0; i < lives.length; i++) {
            x.set(DomeLamps.LIFE, lives[i]);
            Due.is("oftenOf(0) with LIFE " + lives[i], x.oftenOf(0), often[i]);
            Due.is("oftenOf(1) with LIFE " + lives[i], x.oftenOf(1), lives[i]);
        }
        x.set(DomeLamps.LIFE, 30);
        once(x, 0);
        Due.is("oftenOf(0) behind a run", x.oftenOf(0), 2);
        x.lamp(0);
        Due.is("oftenOf(0) with a new lamp", x.oftenOf(0), 3);
        x.set(DomeLamps.LIFE, 5);
        Due.is("oftenOf(0) of 5 and 2 minutes left", x.oftenOf(0), 0);
        x.set(DomeLamps.LIFE, 1);
        Due.is("oftenOf(0) of a lamp that burned too long", x.oftenOf(0), 0);
    }

    private static void oftenOfOneRunBehindTheOther() {
        Due.sentence("Promise 16: one run behind the other, until a lamp would burn too long.");
        DomeLamps x = Due.withShows("ab7,b2,c1");
        x.set(DomeLamps.LIFE, 50);
        int often = x.oftenOf(0);
        Due.is("oftenOf(0)", often, 5);
        for (int left = often - 1; left >= 0; left--) {
            once(x, 0);
            Due.is("oftenOf(0) then", x.oftenOf(0), left);
        }
        x.group(1, 0, 0);
        Due.is("run() once more", x.run(), NOT_POSSIBLE);
        Due.is("why()", x.why(), 4);
    }

    private static void oftenOfNoSuch() {
        Due.sentence("Promise 16: NO_SUCH if there is no such show;");
        DomeLamps x = Due.withShows("a1", "a1", "a1", "a1");
        int[] none = {MIN, -1, 4, MAX};
        for (int show : none) {
            Due.is("oftenOf(" + show + ")", x.oftenOf(show), NO_SUCH);
        }
        Due.is("oftenOf(0)", x.oftenOf(0), 600);
        Due.is("oftenOf(3)", x.oftenOf(3), 600);
    }

    private static void oftenOfNone() {
        Due.sentence("Promise 16: NONE if it is not told.");
        DomeLamps x = Due.withShows("a1");
        for (int show = 1; show < 4; show++) {
            Due.is("oftenOf(" + show + ")", x.oftenOf(show), DomeLamps.NONE);
        }
        Due.is("oftenOf(0)", x.oftenOf(0), 600);
        x.undo();
        Due.is("oftenOf(0) behind undo", x.oftenOf(0), DomeLamps.NONE);
    }

    private static void endsFirst() {
        Due.sentence("Promise 17: Finds the lamp that has the fewest minutes left,");
        DomeLamps x = Due.withShows("a1", "b2", "c3", "d4");
        Due.is("endsFirst() at first", x.endsFirst(), 0);
        for (int lamp = 0; lamp < 4; lamp++) {
            once(x, lamp);
            Due.is("endsFirst() behind lamp " + lamp, x.endsFirst(), lamp);
        }
        Due.told(x, 0, "f5", 5);
        once(x, 0);
        Due.is("endsFirst() behind lamp 5", x.endsFirst(), 5);
        x.lamp(5);
        Due.is("endsFirst() with a new lamp 5", x.endsFirst(), 3);
        x.set(DomeLamps.LIFE, 4);
        Due.is("endsFirst() when one has none left", x.endsFirst(), 3);
    }

    private static void endsFirstLowest() {
        Due.sentence("Promise 17: of several the lowest one.");
        DomeLamps x = Due.withShows("bcf4", "abcdef3", "d1");
        once(x, 0);
        Due.is("endsFirst() of 1, 2 and 5", x.endsFirst(), 1);
        x.lamp(1);
        Due.is("endsFirst() of 2 and 5", x.endsFirst(), 2);
        x.lamp(2);
        Due.is("endsFirst() of 5", x.endsFirst(), 5);
        x.lamp(5);
        Due.is("endsFirst() of all, new", x.endsFirst(), 0);
        once(x, 1);
        Due.is("endsFirst() of all, burned", x.endsFirst(), 0);
        once(x, 2);
        Due.is("endsFirst() of 3", x.endsFirst(), 3);
        x.set(DomeLamps.LIFE, 3);
        Due.is("endsFirst() of all, without a minute", x.endsFirst(), 0);
        x.lamp(0);
        x.set(DomeLamps.LIFE, 1);
        Due.is("endsFirst() of all but 0, that burned too long", x.endsFirst(), 1);
    }

    private static void runsLeft() {
        Due.sentence("Promise 18: Tells how many runs there can be, one behind the other,");
        DomeLamps x = Due.withShows("a10", "b5");
        Due.is("runsLeft() without a group", x.runsLeft(), 0);
        x.group(40, 0, 0);
        Due.is("runsLeft() of one", x.runsLeft(), 1);
        x.group(40, 0, 0);
        x.group(40, 1, 7);
        x.group(20, 0, 20);
        x.group(20, 0, 20);
        int runs = x.runsLeft();
        Due.is("runsLeft() of 40, 40, 40, 20 with 20", runs, 4);
        for (int left = runs - 1; left >= 0; left--) {
            Due.is("run()", x.run(), 40);
            Due.is("runsLeft() then", x.runsLeft(), left);
        }
        Due.is("why()", x.why(), 1);
        for (int group = 5; group < 20; group++) {
            x.group(40, 1, group);
        }
        Due.is("runsLeft() of 15 groups", x.runsLeft(), 15);
    }

    private static void runsLeftUntilEachReason() {
        Due.sentence("Promise 18: until why() is not 0");
        DomeLamps x = Due.withShows("a10", "b5");
        x.group(1, 0, 0);
        x.group(1, 1, 1);
        Due.is("runsLeft() until reason 1", x.runsLeft(), 2);
        x.group(1, 2, 2);
        x.group(1, 0, 3);
        Due.is("runsLeft() until reason 2", x.runsLeft(), 2);
        x.undo();
        x.undo();
        x.group(41, 0, 2);
        x.group(1, 1, 3);
        Due.is("runsLeft() until reason 3", x.runsLeft(), 2);
        x.undo();
        x.undo();
        x.group(1, 0, 2);
        x.set(DomeLamps.LIFE, 19);
        Due.is("runsLeft() until reason 4", x.runsLeft(), 2);
        x.set(DomeLamps.LIFE, 20);
        Due.is("runsLeft() with a minute more", x.runsLeft(), 3);
        x.set(DomeLamps.LIFE, 9);
        Due.is("runsLeft() when there can be none", x.runsLeft(), 0);
    }

    private static void runsLeftWithoutBoundOfTime() {
        Due.sentence("Promise 18: (the bound of the time does not matter).");
        DomeLamps x = new DomeLamps();
        EndOfTime.go(x);
        Due.told(x, 0, "a91", 91);
        Due.is("run() up to 100000", x.run(), NOT_POSSIBLE);
        x.set(DomeLamps.LIFE, 910);
        Due.is("runsLeft() beyond it", x.runsLeft(), 10);
        x.lens(0);
        Due.is("runsLeft() beyond it with a clean lens", x.runsLeft(), 1);
    }

    private static void runsLeftAtMost50() {
        Due.sentence("Promise 18: Returns how many, at most 50.");
        DomeLamps x = Due.withShows("a1", "b10");
        x.set(DomeLamps.DIM, 1);
        x.set(DomeLamps.FOG, 10);
        once(x, 0);
        x.group(1, 0, 0);
        int[] lives = {50, 51, 52, 53, 9999};
        int[] want = {49, 50, 50, 50, 50};
        for (int i = 0; i < lives.length; i++) {
            x.set(DomeLamps.LIFE, lives[i]);
            Due.is("runsLeft() of " + (lives[i] - 1) + " minutes", x.runsLeft(), want[i]);
        }
        x.set(DomeLamps.LIFE, 1);
        Due.is("runsLeft() of no minute", x.runsLeft(), 0);
    }
}
