/** Promises 22 to 24: undo, and saved states. */
public final class UndoTest {
    private static final int MIN = Integer.MIN_VALUE, MAX = Integer.MAX_VALUE;

    public static void main(String[] args) {
        promise22EachChange();
        promise22HistoryOfSix();
        promise22AlsoIfNothingIsDifferent();
        promise22NotThePadOrTheSlots();
        promise22EverythingIsBack();
        promise23Save();
        promise24Restore();
        promise24IsAChange();
        Due.end("UndoTest");
    }

    private static void promise22EachChange() {
        DomeLamps x = new DomeLamps();
        Due.is("undo() of nothing", x.undo(), DomeLamps.NOT_POSSIBLE);
        x.set(DomeLamps.LIFE, 700);
        Due.is("set", x.count(14), 1);
        Due.told(x, 1, "a50", 50);
        Due.is("tell", x.count(14), 2);
        x.group(9, 1, 30);
        Due.is("group", x.count(14), 3);
        x.run();
        Due.is("run", x.count(14), 4);
        x.lamp(0);
        Due.is("lamp", x.count(14), 5);
        x.lens(0);
        Due.is("lens", x.count(14), 6);
        Due.is("undo() of lens", x.undo(), 5);
        Due.is("fog", x.ofLamp(0, 2), 250);
        Due.is("undo() of lamp", x.undo(), 4);
        Due.is("burned", x.ofLamp(0, 0), 50);
        Due.is("changed", x.ofLamp(0, 3), 0);
        Due.is("undo() of run", x.undo(), 3);
        Due.is("now", x.count(0), 0);
        Due.is("coins", x.count(3), 0);
        Due.is("runs", x.count(4), 0);
        Due.is("those that wait", x.count(2), 1);
        Due.is("its runs", x.ofGroup(0, 4), 0);
        Due.is("runs of the show", x.ofShow(1, 4), 0);
        Due.is("undo() of group", x.undo(), 2);
        Due.is("groups", x.count(1), 0);
        Due.is("undo() of tell", x.undo(), 1);
        Due.is("shows", x.count(6), 0);
        Due.is("undo() of set", x.undo(), 0);
        Due.is("LIFE", x.count(7), 600);
        Due.is("undo() of nothing", x.undo(), DomeLamps.NOT_POSSIBLE);
        Due.is("count(14)", x.count(14), 0);
    }

    private static void promise22HistoryOfSix() {
        DomeLamps x = new DomeLamps();
        for (int i = 1; i <= 20; i++) {
            x.set(DomeLamps.LIFE, i);
            Due.is("count(14)", x.count(14), Math.min(i, 6));
        }
        for (int i = 0; i < 6; i++) {
            Due.is("undo()", x.undo(), 5 - i);
            Due.is("LIFE", x.count(7), 19 - i);
        }
        Due.is("undo() of one that was dropped", x.undo(), DomeLamps.NOT_POSSIBLE);
        Due.is("LIFE", x.count(7), 14);
        x.set(DomeLamps.LIFE, 100);
        x.set(DomeLamps.LIFE, 101);
        Due.is("undo()", x.undo(), 1);
        x.set(DomeLamps.LIFE, 102);
        Due.is("undo()", x.undo(), 1);
        Due.is("LIFE", x.count(7), 100);
        Due.is("undo()", x.undo(), 0);
        Due.is("LIFE", x.count(7), 14);
    }

    private static void promise22AlsoIfNothingIsDifferent() {
        DomeLamps x = new DomeLamps();
        x.set(DomeLamps.LIFE, 600);
        Due.is("set to what it was", x.count(14), 1);
        x.lens(3);
        Due.is("lens without fog", x.count(14), 2);
        x.save(1);
        x.restore(1);
        Due.is("restore of the same", x.count(14), 3);
        Due.is("undo()", x.undo(), 2);
        Due.is("undo()", x.undo(), 1);
        Due.is("undo()", x.undo(), 0);
    }

    private static void promise22NotThePadOrTheSlots() {
        DomeLamps x = new DomeLamps();
        Due.told(x, 0, "a1", 1);
        Due.write(x, "b2,c");
        x.group(1, 0, 0);
        x.save(0);
        Due.is("count(14)", x.count(14), 2);
        x.undo();
        x.undo();
        Due.is("the pad", x.count(13), 4);
        Due.is("its fault", x.fault(), 4);
        Due.is("the slot", x.restore(0), 1);
        Due.is("shows", x.count(6), 1);
    }

    private static void promise22EverythingIsBack() {
        DomeLamps x = new DomeLamps();
        x.set(DomeLamps.DIM, 1);
        Due.told(x, 0, "ab10", 10);
        x.group(5, 0, 3);
        x.run();
        x.group(6, 0, 4);
        x.run();
        Due.is("foggy ones", x.count(5), 1);
        Due.is("it waits from", x.ofGroup(1, 2), 33);
        x.undo();
        Due.is("foggy ones", x.count(5), 0);
        Due.is("it waits from", x.ofGroup(1, 2), 4);
        Due.is("its runs", x.ofGroup(1, 4), 0);
        Due.is("now", x.count(0), 13);
        Due.is("coins", x.count(3), 25);
        Due.is("runs", x.count(4), 1);
        Due.is("runs of the show", x.ofShow(0, 4), 1);
        Due.is("burned", x.ofLamp(1, 0), 10);
        Due.is("fog", x.ofLamp(1, 2), 50);
        Due.told(x, 0, "c3", 3);
        x.undo();
        Due.is("the show is back", x.at(0, 9), 3);
        Due.is("its length is back", x.ofShow(0, 0), 10);
    }

    private static void promise23Save() {
        DomeLamps x = new DomeLamps();
        Due.is("save(2)", x.save(2), DomeLamps.BAD_VALUE);
        Due.is("save(-1)", x.save(-1), DomeLamps.BAD_VALUE);
        Due.is("save(MAX)", x.save(MAX), DomeLamps.BAD_VALUE);
        Due.is("save(0) of none", x.save(0), 0);
        Due.told(x, 0, "a10", 10);
        x.group(30, 0, 0);
        x.group(30, 0, 0);
        x.group(30, 0, 0);
        Due.is("save(0) of three", x.save(0), 3);
        x.run();
        Due.is("save(1) of two", x.save(1), 2);
        Due.is("save is not a change", x.count(14), 5);
        x.run();
        Due.is("save(0) of one, over three", x.save(0), 1);
        Due.is("restore(1)", x.restore(1), 2);
        Due.is("restore(0)", x.restore(0), 1);
    }

    private static void promise24Restore() {
        DomeLamps x = new DomeLamps();
        Due.is("restore(2)", x.restore(2), DomeLamps.BAD_VALUE);
        Due.is("restore(-1)", x.restore(-1), DomeLamps.BAD_VALUE);
        Due.is("restore(MIN)", x.restore(MIN), DomeLamps.BAD_VALUE);
        Due.is("restore(0)", x.restore(0), DomeLamps.NOT_POSSIBLE);
        Due.told(x, 0, "a10", 10);
        x.group(7, 0, 5);
        x.save(0);
        Due.is("restore(1)", x.restore(1), DomeLamps.NOT_POSSIBLE);
        x.run();
        x.lamp(0);
        x.set(DomeLamps.PRICE, 1);
        Due.told(x, 0, "b3", 3);
        Due.told(x, 1, "c3", 3);
        Due.write(x, "d4");
        Due.is("restore(0)", x.restore(0), 1);
        Due.is("now", x.count(0), 0);
        Due.is("coins", x.count(3), 0);
        Due.is("runs", x.count(4), 0);
        Due.is("PRICE", x.count(11), 5);
        Due.is("shows", x.count(6), 1);
        Due.is("the show", x.at(0, 9), 1);
        Due.is("burned", x.ofLamp(0, 0), 0);
        Due.is("changed", x.ofLamp(0, 3), 0);
        Due.is("the pad", x.count(13), 2);
        x.run();
        Due.is("the slot keeps it", x.restore(0), 1);
        Due.is("now", x.count(0), 0);
    }

    private static void promise24IsAChange() {
        DomeLamps x = new DomeLamps();
        x.save(1);
        x.group(7, 0, 5);
        x.group(8, 0, 5);
        Due.is("restore(1)", x.restore(1), 0);
        Due.is("count(14)", x.count(14), 3);
        Due.is("groups", x.count(1), 0);
        Due.is("undo()", x.undo(), 2);
        Due.is("groups", x.count(1), 2);
        Due.is("undo()", x.undo(), 1);
        Due.is("groups", x.count(1), 1);
        x.restore(0);
        x.restore(5);
        Due.is("count(14) behind errors", x.count(14), 1);
    }
}
