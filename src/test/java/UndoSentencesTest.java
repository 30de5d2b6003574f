/** The sentences of promises 22, 23 and 24. */
public final class UndoSentencesTest {
    private static final int MIN = Integer.MIN_VALUE, MAX = Integer.MAX_VALUE;
    private static final int BAD_VALUE = DomeLamps.BAD_VALUE, NOT_POSSIBLE = DomeLamps.NOT_POSSIBLE;
    private static final int[] NO_SLOTS = {MIN, -1, 2, MAX};

    public static void main(String[] args) {
        undoBringsEverythingBack();
        undoKeepsThePad();
        undoKeepsTheSlots();
        undoIsNoChange();
        historyOfSix();
        eachMethodThatIsAChange();
        methodsThatAreNone();
        errorsRecordNothing();
        alsoIfNothingIsDifferent();
        oldestIsDropped();
        undoReturnsWhatIsLeft();
        undoOfNothing();
        saveKeepsEverything();
        saveNotThePad();
        saveNotTheHistory();
        saveOverwrites();
        slots0And1();
        saveReturnsGroups();
        saveBadValue();
        restoreWhatWasSavedLast();
        slotKeepsIt();
        restoreIsAChange();
        restoreReturnsGroups();
        restoreBadValue();
        restoreNotPossible();
        Due.end("UndoSentencesTest");
    }

    private static DomeLamps busy() {
        DomeLamps x = new DomeLamps();
        Unchanged.busy(x);
        return x;
    }

    private static void undoBringsEverythingBack() {
        Due.sentence("Promise 22: Undoes the latest change: everything except the pad, the slots and the history is as it was before it.");
        Unchanged.Call[] changes = {x -> x.set(0, 700), x -> x.tell(0), x -> x.group(3, 1, 0), x -> x.lamp(0), x -> x.lens(0), x -> x.run(),
            x -> x.restore(0)};
        int[] want = {600, 3, 5, 22, 440, 31, 4};
        for (int i = 0; i < changes.length; i++) {
            Change.by("change " + i + " of a busy dome", busy(), changes[i], want[i]);
        }
        DomeLamps x = new DomeLamps();
        DomeLamps y = new DomeLamps();
        Unchanged.busy(x);
        Unchanged.busy(y);
        for (int i = 1; i < changes.length; i++) {
            Due.is("change " + i, changes[i].on(x) >= 0 ? 1 : 0, 1);
        }
        for (int i = 1; i < changes.length; i++) {
            x.undo();
        }
        Due.same("six changes and six times undo()", Answers.ofDome(x), Answers.ofDome(y));
    }

    private static void undoKeepsThePad() {
        Due.sentence("Promise 22: everything except the pad,");
        DomeLamps x = new DomeLamps();
        Due.write(x, "ab1");
        x.lamp(0);
        Due.write(x, ",c");
        x.undo();
        Due.is("the pad behind undo", x.count(13), 5);
        Due.is("its fault", x.fault(), 5);
        Due.write(x, "2");
        Due.is("tell(0)", x.tell(0), 3);
        x.undo();
        Due.is("the pad behind undo of tell", x.count(13), 0);
        x.lamp(0);
        Due.write(x, "d4");
        x.wipe();
        x.undo();
        Due.is("the pad that was wiped", x.count(13), 0);
    }

    private static void undoKeepsTheSlots() {
        Due.sentence("Promise 22: the slots and the history is as it was before it.");
        DomeLamps x = new DomeLamps();
        x.group(1, 0, 0);
        x.save(0);
        x.group(2, 0, 0);
        x.save(1);
        x.undo();
        x.undo();
        Due.is("groups behind undo", x.count(1), 0);
        Due.is("restore(1)", x.restore(1), 2);
        Due.is("restore(0)", x.restore(0), 1);
        x.undo();
        x.undo();
        Due.is("groups behind undo of restore", x.count(1), 0);
        Due.is("restore(1) once more", x.restore(1), 2);
    }

    private static void undoIsNoChange() {
        Due.sentence("Promise 22: Undoes the latest change:");
        DomeLamps x = new DomeLamps();
        x.set(0, 1);
        x.set(0, 2);
        x.set(0, 3);
        Due.is("undo()", x.undo(), 2);
        Due.is("LIFE", x.count(7), 2);
        Due.is("undo() of the one before, not of undo()", x.undo(), 1);
        Due.is("LIFE", x.count(7), 1);
        x.set(0, 4);
        Due.is("undo() of a change behind undo()", x.undo(), 1);
        Due.is("LIFE", x.count(7), 1);
        Due.is("undo()", x.undo(), 0);
        Due.is("LIFE", x.count(7), 600);
    }

    private static void historyOfSix() {
        Due.sentence("Promise 22: A history of at most 6 states is kept:");
        DomeLamps x = new DomeLamps();
        for (int many = 1; many <= 5; many++) {
            x.set(0, many);
        }
        Due.is("count(14) behind 5", x.count(14), 5);
        x.set(0, 6);
        Due.is("count(14) behind 6", x.count(14), 6);
        for (int many = 5; many >= 0; many--) {
            Due.is("undo()", x.undo(), many);
            Due.is("LIFE", x.count(7), many == 0 ? 600 : many);
        }
        Due.is("undo() of none", x.undo(), NOT_POSSIBLE);
    }

    private static void oldestIsDropped() {
        Due.sentence("Promise 22: when one more is recorded, the oldest one is dropped.");
        int[] many = {7, 8, 12, 13, 100};
        for (int changes : many) {
            DomeLamps x = new DomeLamps();
            for (int i = 1; i <= changes; i++) {
                x.set(0, i);
            }
            Due.is("count(14) behind " + changes, x.count(14), 6);
            for (int left = 5; left >= 0; left--) {
                Due.is("undo() behind " + changes, x.undo(), left);
            }
            Due.is("undo() of one that was dropped", x.undo(), NOT_POSSIBLE);
            Due.is("LIFE behind " + changes + " and 6 times undo()", x.count(7), changes - 6);
        }
        DomeLamps x = new DomeLamps();
        for (int i = 1; i <= 8; i++) {
            x.set(0, i);
        }
        x.undo();
        x.undo();
        for (int i = 11; i <= 14; i++) {
            x.set(0, i);
        }
        int[] want = {13, 12, 11, 6, 5, 4};
        for (int i = 0; i < 6; i++) {
            Due.is("undo()", x.undo(), 5 - i);
            Due.is("LIFE", x.count(7), want[i]);
        }
    }

    private static void eachMethodThatIsAChange() {
        Due.sentence("Promise 22: each method that is a change, and returns no error, records the state before it");
        DomeLamps x = Due.withShows("a1");
        x.undo();
        x.save(0);
        Due.is("count(14)", x.count(14), 0);
        x.set(0, 500);
        Due.is("count(14) behind set", x.count(14), 1);
        Due.told(x, 0, "a1", 1);
        Due.is("count(14) behind tell", x.count(14), 2);
        x.group(1, 0, 0);
        Due.is("count(14) behind group", x.count(14), 3);
        x.run();
        Due.is("count(14) behind run", x.count(14), 4);
        x.lamp(0);
        Due.is("count(14) behind lamp", x.count(14), 5);
        x.lens(0);
        Due.is("count(14) behind lens", x.count(14), 6);
        x.undo();
        x.undo();
        x.restore(0);
        Due.is("count(14) behind two times undo and restore", x.count(14), 5);
    }

    private static void methodsThatAreNone() {
        DomeLamps x = Due.withShows("a1");
        x.group(1, 0, 0);
        x.put('a');
        x.wipe();
        x.fault();
        x.save(0);
        x.ofShow(0, 0);
        x.lit(0, 0);
        x.at(0, 0);
        x.ofLamp(0, 0);
        x.ofGroup(0, 0);
        x.why();
        x.next(1);
        x.oftenOf(0);
        x.endsFirst();
        x.runsLeft();
        Due.is("count(14)", x.count(14), 2);
        Due.is("undo() of group", x.undo(), 1);
        Due.is("groups", x.count(1), 0);
    }

    private static void errorsRecordNothing() {
        Due.sentence("Promise 22: and returns no error,");
        DomeLamps x = new DomeLamps();
        x.set(0, 0);
        x.tell(0);
        x.group(0, 0, 0);
        x.lamp(6);
        x.lens(6);
        x.run();
        x.restore(0);
        x.restore(2);
        x.undo();
        Due.is("count(14) behind errors", x.count(14), 0);
    }

    private static void alsoIfNothingIsDifferent() {
        Due.sentence("Promise 22: (also if nothing is different then);");
        DomeLamps x = Due.withShows("a1");
        x.undo();
        x.set(0, 600);
        Due.is("count(14) behind set of the same", x.count(14), 1);
        x.lens(0);
        Due.is("count(14) behind lens without fog", x.count(14), 2);
        x.save(0);
        x.restore(0);
        Due.is("count(14) behind restore of the same", x.count(14), 3);
        Due.told(x, 0, "b2", 2);
        Due.told(x, 0, "b2", 2);
        Due.is("count(14) behind tell of the same", x.count(14), 5);
        x.undo();
        Due.is("the show behind undo of it", x.ofShow(0, 0), 2);
    }

    private static void undoReturnsWhatIsLeft() {
        Due.sentence("Promise 22: Returns how many changes can be undone then;");
        DomeLamps x = busy();
        for (int left = 5; left >= 0; left--) {
            Due.is("undo()", x.undo(), left);
            Due.is("count(14)", x.count(14), left);
        }
    }

    private static void undoOfNothing() {
        Due.sentence("Promise 22: NOT_POSSIBLE if there is none.");
        DomeLamps x = new DomeLamps();
        Due.is("undo() of a new object", x.undo(), NOT_POSSIBLE);
        x.lamp(0);
        Due.is("undo()", x.undo(), 0);
        Due.is("undo() of nothing", x.undo(), NOT_POSSIBLE);
        Due.is("undo() of nothing, once more", x.undo(), NOT_POSSIBLE);
        x.lamp(0);
        Due.is("count(14)", x.count(14), 1);
    }

    private static void saveKeepsEverything() {
        Due.sentence("Promise 23: Saves everything except the pad, the history and the slots in a slot,");
        for (int slot = 0; slot < 2; slot++) {
            DomeLamps x = busy();
            DomeLamps y = busy();
            x.save(slot);
            x.run();
            x.lamp(0);
            x.lens(0);
            x.set(0, 9999);
            x.group(60, 3, 9999);
            Due.write(x, ",d9");
            x.tell(0);
            x.tell(1);
            x.restore(slot);
            Due.same("save, changes and restore of slot " + slot, Answers.ofDome(x), Answers.ofDome(y));
        }
    }

    private static void saveNotThePad() {
        Due.sentence("Promise 23: except the pad,");
        DomeLamps x = new DomeLamps();
        Due.write(x, "ab1");
        x.save(0);
        Due.write(x, ",c2");
        x.restore(0);
        Due.is("the pad behind restore", x.count(13), 6);
        x.wipe();
        x.restore(0);
        Due.is("the pad that was wiped", x.count(13), 0);
        Due.is("its fault", x.fault(), 0);
    }

    private static void saveNotTheHistory() {
        Due.sentence("Promise 23: the history and the slots");
        DomeLamps x = new DomeLamps();
        x.set(0, 1);
        x.set(0, 2);
        x.save(1);
        x.set(0, 3);
        Due.is("save(0)", x.save(0), 0);
        x.undo();
        x.undo();
        x.undo();
        x.restore(0);
        Due.is("count(14) behind restore", x.count(14), 1);
        Due.is("LIFE behind restore", x.count(7), 3);
        x.undo();
        Due.is("LIFE behind undo of restore", x.count(7), 600);
        x.restore(1);
        Due.is("LIFE of the other slot", x.count(7), 2);
    }

    private static void saveOverwrites() {
        Due.sentence("Promise 23: and overwrites what was saved there.");
        DomeLamps x = new DomeLamps();
        for (int slot = 0; slot < 2; slot++) {
            x.set(0, 10 + slot);
            x.save(slot);
        }
        x.set(0, 20);
        x.save(0);
        x.set(0, 30);
        x.restore(0);
        Due.is("LIFE of slot 0, overwritten", x.count(7), 20);
        x.restore(1);
        Due.is("LIFE of slot 1", x.count(7), 11);
        x = busy();
        DomeLamps y = new DomeLamps();
        x.save(0);
        x.undo();
        x.undo();
        Due.is("groups behind undo", x.count(1), 4);
        x.save(0);
        String saved = Answers.ofDome(x);
        x.restore(1);
        x.restore(0);
        Due.same("save of less over more", Answers.ofDome(x), saved);
        Due.is("restore(0) of another object", y.restore(0), NOT_POSSIBLE);
    }

    private static void slots0And1() {
        Due.sentence("Promise 23: - `slot`: 0 or 1");
        DomeLamps x = new DomeLamps();
        Due.is("save(0)", x.save(0), 0);
        Due.is("save(1)", x.save(1), 0);
        Due.is("save(2)", x.save(2), BAD_VALUE);
        Due.is("save(-1)", x.save(-1), BAD_VALUE);
        Due.sentence("Promise 24: - `slot`: 0 or 1");
        Due.is("restore(0)", x.restore(0), 0);
        Due.is("restore(1)", x.restore(1), 0);
        Due.is("restore(2)", x.restore(2), BAD_VALUE);
        Due.is("restore(-1)", x.restore(-1), BAD_VALUE);
    }

    private static void saveReturnsGroups() {
        Due.sentence("Promise 23: Returns how many groups wait;");
        DomeLamps x = Due.withShows("a1");
        Due.is("save(0) without a group", x.save(0), 0);
        for (int group = 1; group <= 20; group++) {
            x.group(40, 0, 0);
            Due.is("save(0) of " + group, x.save(0), group);
        }
        x.run();
        Due.is("save(1) behind a run", x.save(1), 19);
        Unchanged.by("save(0) over the same", y -> {
            Unchanged.busy(y);
            y.save(0);
        }, y -> y.save(0), 4);
    }

    private static void saveBadValue() {
        Due.sentence("Promise 23: BAD_VALUE if there is no such slot.");
        DomeLamps x = new DomeLamps();
        for (int slot : NO_SLOTS) {
            Due.is("save(" + slot + ")", x.save(slot), BAD_VALUE);
        }
        Due.is("restore(0) behind errors", x.restore(0), NOT_POSSIBLE);
        Due.is("restore(1) behind errors", x.restore(1), NOT_POSSIBLE);
    }

    private static void restoreWhatWasSavedLast() {
        Due.sentence("Promise 24: Restores what was saved last in a slot,");
        DomeLamps x = new DomeLamps();
        for (int many = 1; many <= 5; many++) {
            x.set(0, many);
            x.save(many % 2);
        }
        x.set(0, 99);
        Due.is("restore(0)", x.restore(0), 0);
        Due.is("LIFE of slot 0", x.count(7), 4);
        Due.is("restore(1)", x.restore(1), 0);
        Due.is("LIFE of slot 1", x.count(7), 5);
    }

    private static void slotKeepsIt() {
        Due.sentence("Promise 24: which keeps it.");
        DomeLamps x = busy();
        x.save(0);
        String saved = Answers.ofDome(x);
        x.restore(0);
        x.run();
        x.lamp(2);
        x.lens(0);
        Due.is("restore(0), which was changed since", x.restore(0), 4);
        Due.same("restore(0) twice", Answers.ofDome(x), saved);
    }

    private static void restoreIsAChange() {
        Due.sentence("Promise 24: This is a change.");
        Change.by("restore(0)", busy(), x -> x.restore(0), 4);
        Change.by("restore(1)", busy(), x -> x.restore(1), 3);
        DomeLamps x = new DomeLamps();
        x.save(1);
        Change.by("restore(1) of the same", x, y -> y.restore(1), 0);
    }

    private static void restoreReturnsGroups() {
        Due.sentence("Promise 24: Returns how many groups wait then;");
        DomeLamps x = Due.withShows("a1");
        x.save(0);
        for (int group = 0; group < 20; group++) {
            x.group(40, 0, 0);
        }
        x.save(1);
        x.run();
        Due.is("restore(0) of none", x.restore(0), 0);
        Due.is("restore(1) of 20", x.restore(1), 20);
        x.run();
        x.save(1);
        x.undo();
        Due.is("groups that wait", x.count(2), (1 << 20) - 1);
        Due.is("restore(1) of 19", x.restore(1), 19);
        Due.is("groups that wait", x.count(2), (1 << 20) - 2);
    }

    private static void restoreBadValue() {
        Due.sentence("Promise 24: BAD_VALUE if there is no such slot;");
        DomeLamps x = new DomeLamps();
        for (int slot : NO_SLOTS) {
            Due.is("restore(" + slot + ") when nothing is saved", x.restore(slot), BAD_VALUE);
        }
        x.save(0);
        x.save(1);
        for (int slot : NO_SLOTS) {
            Due.is("restore(" + slot + ") when both are saved", x.restore(slot), BAD_VALUE);
        }
        Due.is("changes", x.count(14), 0);
    }

    private static void restoreNotPossible() {
        Due.sentence("Promise 24: NOT_POSSIBLE if nothing was saved in it.");
        for (int slot = 0; slot < 2; slot++) {
            DomeLamps x = new DomeLamps();
            Due.is("restore(" + slot + ") of a new object", x.restore(slot), NOT_POSSIBLE);
            x.save(1 - slot);
            Due.is("restore(" + slot + ") when the other one is saved", x.restore(slot), NOT_POSSIBLE);
            Due.is("changes", x.count(14), 0);
            Due.is("restore of the other one", x.restore(1 - slot), 0);
            Due.is("restore(" + slot + ") still", x.restore(slot), NOT_POSSIBLE);
            x.save(slot);
            Due.is("restore(" + slot + ") then", x.restore(slot), 0);
        }
    }
}
