/** Each refused call, and what it leaves unchanged: everything, the pad, the slots and the history too. */
public final class RefusedCallsTest {
    private static final int MIN = Integer.MIN_VALUE, MAX = Integer.MAX_VALUE;
    private static final int NO_SUCH = DomeLamps.NO_SUCH, BAD_VALUE = DomeLamps.BAD_VALUE, BAD_TEXT = DomeLamps.BAD_TEXT;
    private static final int TOO_MANY = DomeLamps.TOO_MANY, NOT_POSSIBLE = DomeLamps.NOT_POSSIBLE;
    private static final int[] OUTSIDE_0_TO_1 = {MIN, -1, 2, MAX}, OUTSIDE_0_TO_3 = {MIN, -1, 4, MAX};
    private static final int[] OUTSIDE_0_TO_4 = {MIN, -1, 5, MAX}, OUTSIDE_0_TO_5 = {MIN, -1, 6, MAX};

    public static void main(String[] args) {
        Due.sentence("Conventions: A call that returns an error changes nothing.");
        theDomeIsBusy();
        set();
        tell();
        group();
        lampAndLens();
        run();
        runAtTheEndOfTime();
        whatThereIs();
        whatIf();
        put();
        undo();
        saveAndRestore();
        Due.end("RefusedCallsTest");
    }

    private static DomeLamps busy() {
        DomeLamps x = new DomeLamps();
        Unchanged.busy(x);
        return x;
    }

    /** Behind calls on a dome without anything a change would be seen less well. */
    private static void theDomeIsBusy() {
        DomeLamps x = busy();
        int[] want = {5 + 29 + 29 + 10, 5, 2 + 4 + 8 + 16, 50 + 155 + 49 + 63, 3, 2, 3, 600, 20, 10, 40, 7, 10, 6, 6};
        for (int what = 0; what < want.length; what++) {
            Due.is("count(" + what + ")", x.count(what), want[what]);
        }
        Due.is("restore(0)", x.restore(0), 4);
        Due.is("restore(1)", x.restore(1), 3);
        Due.is("tell(2)", x.tell(2), 3);
        x = new DomeLamps();
        Unchanged.busyWithFullPad(x);
        Due.is("the full pad", x.count(13), 80);
    }

    private static void set() {
        int[] least = {1, 0, 1, 1, 0, 0};
        int[] most = {9999, 50, 100, 99, 99, 99};
        for (int setting = 0; setting < 6; setting++) {
            int[] values = {MIN, least[setting] - 1, most[setting] + 1, MAX};
            for (int value : values) {
                int which = setting;
                Unchanged.by("set(" + which + ", " + value + ")", Unchanged::busy, x -> x.set(which, value), BAD_VALUE);
            }
        }
        for (int setting : OUTSIDE_0_TO_5) {
            Unchanged.by("set(" + setting + ", 1)", Unchanged::busy, x -> x.set(setting, 1), BAD_VALUE);
        }
    }

    private static void tell() {
        for (int show : OUTSIDE_0_TO_3) {
            Unchanged.by("tell(" + show + ")", Unchanged::busy, x -> x.tell(show), NO_SUCH);
            Unchanged.by("tell(" + show + ") with a fault", Unchanged::busyWithFault, x -> x.tell(show), NO_SUCH);
        }
        Unchanged.by("tell(0) with a fault", Unchanged::busyWithFault, x -> x.tell(0), BAD_TEXT);
        Unchanged.by("tell(3) of nothing", x -> {
            Unchanged.busy(x);
            x.wipe();
        }, x -> x.tell(3), BAD_TEXT);
        Unchanged.by("tell(0) of 1000 minutes", x -> {
            Unchanged.busy(x);
            Due.write(x, ",9*(a99),f99,f7");
        }, x -> x.tell(0), NOT_POSSIBLE);
    }

    private static void group() {
        for (int show : OUTSIDE_0_TO_3) {
            Unchanged.by("group(1, " + show + ", 0)", Unchanged::busy, x -> x.group(1, show, 0), NO_SUCH);
        }
        int[] persons = {MIN, -1, 0, 61, MAX};
        for (int many : persons) {
            Unchanged.by("group(" + many + ", 0, 0)", Unchanged::busy, x -> x.group(many, 0, 0), BAD_VALUE);
        }
        int[] times = {MIN, -1, 10000, MAX};
        for (int time : times) {
            Unchanged.by("group(1, 0, " + time + ")", Unchanged::busy, x -> x.group(1, 0, time), BAD_VALUE);
        }
        Unchanged.by("group(1, 0, 0) of 20", Unchanged::busyWithAllGroups, x -> x.group(1, 0, 0), TOO_MANY);
    }

    private static void lampAndLens() {
        for (int lamp : OUTSIDE_0_TO_5) {
            Unchanged.by("lamp(" + lamp + ")", Unchanged::busy, x -> x.lamp(lamp), NO_SUCH);
            Unchanged.by("lens(" + lamp + ")", Unchanged::busy, x -> x.lens(lamp), NO_SUCH);
        }
    }

    private static void run() {
        Unchanged.by("run() without a group", x -> { }, x -> x.run(), NOT_POSSIBLE);
        Unchanged.by("run() without a group that waits", x -> {
            Due.write(x, "a1");
            x.tell(0);
            x.group(1, 0, 0);
            x.run();
        }, x -> x.run(), NOT_POSSIBLE);
        Unchanged.by("run() of a show that is not told", x -> {
            Unchanged.busy(x);
            x.group(1, 3, 0);
        }, x -> x.run(), NOT_POSSIBLE);
        Unchanged.by("run() of a group that is too large", x -> {
            Unchanged.busy(x);
            x.group(41, 1, 0);
        }, x -> x.run(), NOT_POSSIBLE);
        Unchanged.by("run() of a lamp that would burn too long", x -> {
            Unchanged.busy(x);
            x.set(DomeLamps.LIFE, 19);
            x.group(1, 1, 0);
        }, x -> x.run(), NOT_POSSIBLE);
    }

    private static void runAtTheEndOfTime() {
        Unchanged.by("run() up to 100000", x -> {
            EndOfTime.go(x);
            Due.write(x, "a91");
            x.tell(0);
        }, x -> x.run(), NOT_POSSIBLE);
    }

    private static void whatThereIs() {
        for (int show : OUTSIDE_0_TO_3) {
            Unchanged.by("ofShow(" + show + ", 0)", Unchanged::busy, x -> x.ofShow(show, 0), NO_SUCH);
            Unchanged.by("lit(" + show + ", 0)", Unchanged::busy, x -> x.lit(show, 0), NO_SUCH);
            Unchanged.by("at(" + show + ", 0)", Unchanged::busy, x -> x.at(show, 0), NO_SUCH);
        }
        for (int what : OUTSIDE_0_TO_4) {
            Unchanged.by("ofShow(0, " + what + ")", Unchanged::busy, x -> x.ofShow(0, what), BAD_VALUE);
            Unchanged.by("ofGroup(0, " + what + ")", Unchanged::busy, x -> x.ofGroup(0, what), BAD_VALUE);
            // There are 5 groups, 0 to 4.
            Unchanged.by("ofGroup(" + what + ", 0)", Unchanged::busy, x -> x.ofGroup(what, 0), NO_SUCH);
        }
        for (int lamp : OUTSIDE_0_TO_5) {
            Unchanged.by("lit(0, " + lamp + ")", Unchanged::busy, x -> x.lit(0, lamp), NO_SUCH);
            Unchanged.by("ofLamp(" + lamp + ", 0)", Unchanged::busy, x -> x.ofLamp(lamp, 0), NO_SUCH);
        }
        for (int what : OUTSIDE_0_TO_3) {
            Unchanged.by("ofLamp(0, " + what + ")", Unchanged::busy, x -> x.ofLamp(0, what), BAD_VALUE);
        }
        int[] minutes = {MIN, -1, 29, MAX};
        for (int minute : minutes) {
            Unchanged.by("at(0, " + minute + ")", Unchanged::busy, x -> x.at(0, minute), NO_SUCH);
        }
        int[] whats = {MIN, -1, 15, MAX};
        for (int what : whats) {
            Unchanged.by("count(" + what + ")", Unchanged::busy, x -> x.count(what), BAD_VALUE);
        }
    }

    private static void whatIf() {
        for (int what : OUTSIDE_0_TO_3) {
            Unchanged.by("next(" + what + ")", Unchanged::busy, x -> x.next(what), BAD_VALUE);
            Unchanged.by("oftenOf(" + what + ")", Unchanged::busy, x -> x.oftenOf(what), NO_SUCH);
        }
        for (int what = 0; what < 4; what++) {
            int asked = what;
            Unchanged.by("next(" + what + ") without a group", x -> { }, x -> x.next(asked), NOT_POSSIBLE);
        }
    }

    private static void put() {
        long[] bad = {0, 32, 127, 255, 0x6120, 0x2061, 0x610061, 0x6100000000000061L, -1, Long.MIN_VALUE, Long.MAX_VALUE};
        for (long characters : bad) {
            Unchanged.by("put(" + characters + ")", Unchanged::busy, x -> x.put(characters), BAD_VALUE);
            Unchanged.by("put(" + characters + "), pad full", Unchanged::busyWithFullPad, x -> x.put(characters), BAD_VALUE);
        }
        Unchanged.by("put of 1, pad full", Unchanged::busyWithFullPad, x -> x.put('9'), TOO_MANY);
        Unchanged.by("put of 8, pad full", Unchanged::busyWithFullPad, x -> x.put(Due.coded("a1,b2,c3")), TOO_MANY);
        Unchanged.by("put of 8, room for 7", x -> {
            Unchanged.busy(x);
            x.wipe();
            Due.write(x, "abc1" + ",b2".repeat(23));
        }, x -> x.put(Due.coded(",b2,c3,f")), TOO_MANY);
    }

    private static void undo() {
        Unchanged.by("undo() of nothing", x -> { }, x -> x.undo(), NOT_POSSIBLE);
        Unchanged.by("undo() of a seventh change", x -> {
            Unchanged.busy(x);
            for (int i = 0; i < 6; i++) {
                x.undo();
            }
        }, x -> x.undo(), NOT_POSSIBLE);
    }

    private static void saveAndRestore() {
        for (int slot : OUTSIDE_0_TO_1) {
            Unchanged.by("save(" + slot + ")", Unchanged::busy, x -> x.save(slot), BAD_VALUE);
            Unchanged.by("restore(" + slot + ")", Unchanged::busy, x -> x.restore(slot), BAD_VALUE);
        }
        for (int slot = 0; slot < 2; slot++) {
            int empty = slot;
            Unchanged.by("restore(" + slot + ") of nothing", x -> {
                x.group(1, 0, 0);
                x.save(1 - empty);
                x.set(DomeLamps.LIFE, 9);
            }, x -> x.restore(empty), NOT_POSSIBLE);
        }
    }
}
