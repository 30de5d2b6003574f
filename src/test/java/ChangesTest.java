/** Promises 2 to 7: the changes. */
public final class ChangesTest {
    private static final int MIN = Integer.MIN_VALUE, MAX = Integer.MAX_VALUE;

    public static void main(String[] args) {
        promise2Set();
        promise2SettingsMatter();
        promise3Tell();
        promise3TellInPlaceOfAnother();
        promise3Longest();
        promise4Group();
        promise5Lamp();
        promise6Lens();
        promise7Run();
        promise7Seats();
        promise7OrderOfSeats();
        promise7Begin();
        promise7Coins();
        promise7Foggy();
        promise7FoggyWithSeveralGroups();
        promise7FogIsOfTheShowsLampsAsItBegins();
        promise7FogHasABound();
        promise7LastTime();
        Due.end("ChangesTest");
    }

    private static void promise2Set() {
        DomeLamps x = new DomeLamps();
        int[] least = {1, 0, 1, 1, 0, 0};
        int[] most = {9999, 50, 100, 99, 99, 99};
        int[] first = {600, 5, 50, 40, 5, 10};
        for (int setting = 0; setting < 6; setting++) {
            String call = "set(" + setting + ", ..)";
            Due.is(call + " below", x.set(setting, least[setting] - 1), DomeLamps.BAD_VALUE);
            Due.is(call + " above", x.set(setting, most[setting] + 1), DomeLamps.BAD_VALUE);
            Due.is(call + " far below", x.set(setting, MIN), DomeLamps.BAD_VALUE);
            Due.is(call + " far above", x.set(setting, MAX), DomeLamps.BAD_VALUE);
            Due.is(call + " changes behind errors", x.count(14), Math.min(6, 3 * setting));
            Due.is(call + " least", x.set(setting, least[setting]), first[setting]);
            Due.is(call + " most", x.set(setting, most[setting]), least[setting]);
            Due.is(call + " the same once more", x.set(setting, most[setting]), most[setting]);
            Due.is("count of " + setting, x.count(7 + setting), most[setting]);
        }
        Due.is("set(6, 1)", x.set(6, 1), DomeLamps.BAD_VALUE);
        Due.is("set(-1, 1)", x.set(-1, 1), DomeLamps.BAD_VALUE);
        Due.is("set(MIN, 1)", x.set(MIN, 1), DomeLamps.BAD_VALUE);
        Due.is("set(MAX, 1)", x.set(MAX, 1), DomeLamps.BAD_VALUE);
    }

    private static void promise2SettingsMatter() {
        DomeLamps x = new DomeLamps();
        x.set(DomeLamps.LIFE, 20);
        x.set(DomeLamps.FOG, 3);
        x.set(DomeLamps.DIM, 3);
        x.set(DomeLamps.SEATS, 9);
        x.set(DomeLamps.PRICE, 7);
        x.set(DomeLamps.WAIT, 99);
        Due.told(x, 0, "a10", 10);
        x.group(9, 0, 0);
        x.group(1, 0, 0);
        Due.is("run() with 9 seats", x.run(), 9);
        Due.is("coins", x.count(3), 63);
        Due.is("fog", x.ofLamp(0, 2), 30);
        Due.is("foggy with DIM 3", x.next(3), 1);
        Due.is("run() of the other", x.run(), 1);
        Due.is("it waits on", x.ofGroup(1, 2), 20 + 99);
        Due.is("why() with LIFE 20", x.why(), 4);
    }

    private static void promise3Tell() {
        DomeLamps x = new DomeLamps();
        Due.is("tell(0) of nothing", x.tell(0), DomeLamps.BAD_TEXT);
        Due.is("tell(-1) of nothing", x.tell(-1), DomeLamps.NO_SUCH);
        Due.is("tell(4) of nothing", x.tell(4), DomeLamps.NO_SUCH);
        Due.is("tell(MAX)", x.tell(MAX), DomeLamps.NO_SUCH);
        Due.is("tell(MIN)", x.tell(MIN), DomeLamps.NO_SUCH);
        Due.is("put", Due.write(x, "ab10,2*(c5"), 10);
        Due.is("tell(3) of a text that ends too early", x.tell(3), DomeLamps.BAD_TEXT);
        Due.is("the pad behind an error", x.count(13), 10);
        Due.is("changes behind errors", x.count(14), 0);
        Due.is("put", Due.write(x, ",da1)"), 15);
        Due.is("tell(3)", x.tell(3), 22);
        Due.is("the pad behind tell", x.count(13), 0);
        Due.is("shows that are told", x.count(6), 8);
        Due.is("changes", x.count(14), 1);
        Due.is("lamps", x.ofShow(3, 1), 1 + 2 + 4 + 8);
        Due.is("undo()", x.undo(), 0);
        Due.is("shows that are told then", x.count(6), 0);
        Due.is("the pad behind undo", x.count(13), 0);
    }

    private static void promise3TellInPlaceOfAnother() {
        DomeLamps x = new DomeLamps();
        Due.told(x, 2, "4*(3*(a2,b1),c9)", 72);
        Due.told(x, 2, "f7", 7);
        int[] want = {7, 32, 1, 0, 0};
        for (int what = 0; what < 5; what++) {
            Due.is("ofShow(2, " + what + ")", x.ofShow(2, what), want[what]);
        }
        Due.is("lit(2, 0)", x.lit(2, 0), 0);
        Due.is("at(2, 0)", x.at(2, 0), 32);
        Due.is("at(2, 7)", x.at(2, 7), DomeLamps.NO_SUCH);
        Due.told(x, 2, "9*(a2)", 18);
        Due.is("lit(2, 0)", x.lit(2, 0), 18);
        Due.is("lit(2, 5)", x.lit(2, 5), 0);
    }

    private static void promise3Longest() {
        DomeLamps x = new DomeLamps();
        Due.told(x, 0, "9*(a99),b99,c9", 999);
        Due.is("at(0, 998)", x.at(0, 998), 4);
        Due.is("at(0, 999)", x.at(0, 999), DomeLamps.NO_SUCH);
        Due.write(x, "9*(a99),b99,c10");
        Due.is("fault() of 1000 minutes", x.fault(), DomeLamps.NONE);
        Due.is("tell(4) of 1000 minutes", x.tell(4), DomeLamps.NO_SUCH);
        Due.is("tell(0) of 1000 minutes", x.tell(0), DomeLamps.NOT_POSSIBLE);
        Due.is("the pad behind it", x.wipe(), 15);
        Due.is("the show behind it", x.ofShow(0, 0), 999);
        Due.is("changes behind it", x.count(14), 1);
        String longest = "9*(9*(9*(9*(a99,b99,c99,d99,e99,f99,a99,b99,c99,d99,e99,f99,a99,b99,c99,d99))))";
        Due.is("length", longest.length(), 79);
        Due.write(x, longest);
        Due.is("tell(0) of ten million minutes", x.tell(0), DomeLamps.NOT_POSSIBLE);
        x.put(')');
        Due.is("tell(0) of that with a fault", x.tell(0), DomeLamps.BAD_TEXT);
        x.wipe();
        Due.write(x, "9*(9*(9*(9*(f1)))),a1");
        Due.is("tell(0) of 6562 minutes", x.tell(0), DomeLamps.NOT_POSSIBLE);
        x.wipe();
        Due.told(x, 0, "3*(3*(3*(3*(f12)))),a27", 999);
        Due.is("scenes", x.ofShow(0, 2), 82);
        Due.is("depth", x.ofShow(0, 3), 4);
        Due.is("at(0, 971)", x.at(0, 971), 32);
        Due.is("at(0, 972)", x.at(0, 972), 1);
    }

    private static void promise4Group() {
        DomeLamps x = new DomeLamps();
        Due.is("group(0, 4, -1)", x.group(0, 4, -1), DomeLamps.NO_SUCH);
        Due.is("group(1, -1, 0)", x.group(1, -1, 0), DomeLamps.NO_SUCH);
        Due.is("group(1, MAX, 0)", x.group(1, MAX, 0), DomeLamps.NO_SUCH);
        Due.is("group(0, 0, 0)", x.group(0, 0, 0), DomeLamps.BAD_VALUE);
        Due.is("group(61, 0, 0)", x.group(61, 0, 0), DomeLamps.BAD_VALUE);
        Due.is("group(MIN, 0, 0)", x.group(MIN, 0, 0), DomeLamps.BAD_VALUE);
        Due.is("group(1, 0, -1)", x.group(1, 0, -1), DomeLamps.BAD_VALUE);
        Due.is("group(1, 0, 10000)", x.group(1, 0, 10000), DomeLamps.BAD_VALUE);
        Due.is("changes behind errors", x.count(14), 0);
        for (int i = 0; i < 20; i++) {
            Due.is("group " + i, x.group(1 + 3 * i, i % 4, i == 19 ? 9999 : 100 * i), i);
            Due.is("groups", x.count(1), i + 1);
            Due.is("groups that wait", x.count(2), (2 << i) - 1);
        }
        Due.is("group 20", x.group(1, 0, 0), DomeLamps.TOO_MANY);
        Due.is("group 20, bad", x.group(0, 0, 0), DomeLamps.BAD_VALUE);
        Due.is("group 20, of no show", x.group(1, 4, 0), DomeLamps.NO_SUCH);
        Due.is("groups", x.count(1), 20);
        Due.is("changes", x.count(14), 6);
        Due.is("undo()", x.undo(), 5);
        Due.is("the last number again", x.group(60, 3, 0), 19);
        Due.is("its persons", x.ofGroup(19, 0), 60);
    }

    private static void promise5Lamp() {
        DomeLamps x = new DomeLamps();
        Due.told(x, 0, "ab9,b3", 12);
        x.group(1, 0, 0);
        x.run();
        Due.is("lamp(6)", x.lamp(6), DomeLamps.NO_SUCH);
        Due.is("lamp(-1)", x.lamp(-1), DomeLamps.NO_SUCH);
        Due.is("lamp(MIN)", x.lamp(MIN), DomeLamps.NO_SUCH);
        Due.is("changes", x.count(14), 3);
        Due.is("lamp(1)", x.lamp(1), 12);
        Due.is("it burned", x.ofLamp(1, 0), 0);
        Due.is("its fog stays", x.ofLamp(1, 2), 60);
        Due.is("changed", x.ofLamp(1, 3), 1);
        Due.is("another one burned", x.ofLamp(0, 0), 9);
        Due.is("changed", x.ofLamp(0, 3), 0);
        Due.is("lamp(1) once more", x.lamp(1), 0);
        Due.is("changed", x.ofLamp(1, 3), 2);
        Due.is("lamp(5)", x.lamp(5), 0);
        Due.is("changes", x.count(14), 6);
    }

    private static void promise6Lens() {
        DomeLamps x = new DomeLamps();
        Due.told(x, 0, "ab9,b3", 12);
        x.group(1, 0, 0);
        x.run();
        Due.is("lens(6)", x.lens(6), DomeLamps.NO_SUCH);
        Due.is("lens(-1)", x.lens(-1), DomeLamps.NO_SUCH);
        Due.is("lens(MAX)", x.lens(MAX), DomeLamps.NO_SUCH);
        Due.is("changes", x.count(14), 3);
        Due.is("lens(1)", x.lens(1), 60);
        Due.is("its fog", x.ofLamp(1, 2), 0);
        Due.is("its lamp burned", x.ofLamp(1, 0), 12);
        Due.is("it is not changed", x.ofLamp(1, 3), 0);
        Due.is("the fog of another one", x.ofLamp(0, 2), 45);
        Due.is("lens(1) once more", x.lens(1), 0);
        Due.is("lens(5)", x.lens(5), 0);
        Due.is("changes", x.count(14), 6);
    }

    private static void promise7Run() {
        DomeLamps x = new DomeLamps();
        Due.is("run() without a group", x.run(), DomeLamps.NOT_POSSIBLE);
        x.group(12, 3, 50);
        Due.is("run() of a show that is not told", x.run(), DomeLamps.NOT_POSSIBLE);
        Due.told(x, 3, "a4,2*(bc3,a1)", 12);
        x.set(DomeLamps.SEATS, 11);
        Due.is("run() with too few seats", x.run(), DomeLamps.NOT_POSSIBLE);
        x.set(DomeLamps.SEATS, 12);
        x.set(DomeLamps.LIFE, 5);
        Due.is("run() with a lamp that ends", x.run(), DomeLamps.NOT_POSSIBLE);
        x.set(DomeLamps.LIFE, 6);
        Due.is("changes", x.count(14), 6);
        Due.is("run()", x.run(), 12);
        int[] burned = {6, 6, 6, 0, 0, 0};
        for (int lamp = 0; lamp < 6; lamp++) {
            Due.is("ofLamp(" + lamp + ", 0)", x.ofLamp(lamp, 0), burned[lamp]);
            Due.is("ofLamp(" + lamp + ", 2)", x.ofLamp(lamp, 2), 5 * burned[lamp]);
        }
        int[] group = {12, 3, 50, 1, 1};
        for (int what = 0; what < 5; what++) {
            Due.is("ofGroup(0, " + what + ")", x.ofGroup(0, what), group[what]);
        }
        Due.is("now", x.count(0), 62);
        Due.is("coins", x.count(3), 60);
        Due.is("runs", x.count(4), 1);
        Due.is("foggy ones", x.count(5), 0);
        Due.is("runs of the show", x.ofShow(3, 4), 1);
        Due.is("runs of another one", x.ofShow(0, 4), 0);
        Due.is("run() without a group that waits", x.run(), DomeLamps.NOT_POSSIBLE);
        Due.is("undo()", x.undo(), 5);
        Due.is("now then", x.count(0), 0);
        Due.is("run() once more", x.run(), 12);
    }

    private static void promise7Seats() {
        DomeLamps x = new DomeLamps();
        Due.told(x, 0, "a10", 10);
        Due.told(x, 1, "b10", 10);
        x.group(20, 0, 5);
        x.group(21, 0, 5);
        x.group(15, 0, 6);
        x.group(5, 1, 5);
        x.group(4, 0, 5);
        x.group(1, 0, 5);
        Due.is("next(1)", x.next(1), 1 + 16 + 32);
        Due.is("run() passes over one without seats", x.run(), 25);
        Due.is("now", x.count(0), 15);
        Due.is("those that wait", x.count(2), 2 + 4 + 8);
        Due.is("each of them has paid", x.count(3), 125);
        Due.is("run() of 21 and 15", x.run(), 36);
        Due.is("run() of the other show", x.run(), 5);
        Due.is("none waits", x.count(2), 0);
        Due.is("runs of show 0", x.ofShow(0, 4), 2);
        Due.is("runs of show 1", x.ofShow(1, 4), 1);
        x.group(39, 0, 0);
        x.group(2, 0, 0);
        x.group(1, 0, 1);
        Due.is("run() to the last seat", x.run(), 40);
        Due.is("those that wait", x.count(2), 128);
    }

    private static void promise7OrderOfSeats() {
        DomeLamps x = new DomeLamps();
        Due.told(x, 0, "a10", 10);
        x.set(DomeLamps.SEATS, 10);
        x.group(5, 0, 20);
        x.group(6, 0, 10);
        x.group(4, 0, 30);
        x.group(5, 0, 20);
        x.group(4, 0, 25);
        Due.is("only one waits from so early", x.next(1), 2);
        Due.is("run() of it", x.run(), 6);
        Due.is("now", x.count(0), 20);
        Due.is("then those of 20, the lower one first", x.next(1), 1 + 8);
        Due.is("run()", x.run(), 10);
        Due.is("then the rest", x.run(), 8);

        x = new DomeLamps();
        Due.told(x, 0, "a10", 10);
        x.set(DomeLamps.SEATS, 10);
        x.set(DomeLamps.LIFE, 9999);
        x.group(1, 0, 100);
        Due.is("run() up to 110", x.run(), 1);
        x.group(6, 0, 30);
        x.group(3, 0, 20);
        x.group(6, 0, 10);
        x.group(1, 0, 110);
        x.group(1, 0, 111);
        Due.is("by time, not by number", x.next(1), 4 + 8 + 16);
    }

    private static void promise7Begin() {
        DomeLamps x = new DomeLamps();
        Due.told(x, 0, "a10", 10);
        x.group(1, 0, 7);
        x.group(1, 0, 17);
        x.group(1, 0, 18);
        x.group(1, 0, 500);
        Due.is("run() at 7", x.run(), 1);
        Due.is("now", x.count(0), 17);
        Due.is("run() at 17", x.run(), 1);
        Due.is("now", x.count(0), 27);
        Due.is("run() at 27", x.run(), 1);
        Due.is("now", x.count(0), 37);
        Due.is("run() at 500", x.run(), 1);
        Due.is("now", x.count(0), 510);
    }

    private static void promise7Coins() {
        DomeLamps x = new DomeLamps();
        Due.told(x, 0, "a10", 10);
        x.set(DomeLamps.DIM, 1);
        x.set(DomeLamps.WAIT, 0);
        x.group(10, 0, 0);
        x.run();
        Due.is("coins", x.count(3), 50);
        x.group(7, 0, 0);
        x.set(DomeLamps.PRICE, 3);
        Due.is("foggy", x.next(3), 1);
        x.run();
        Due.is("coins of a foggy run", x.count(3), 71);
        x.group(2, 0, 20);
        x.set(DomeLamps.PRICE, 99);
        Due.is("run() with one that paid", x.run(), 9);
        Due.is("coins are paid once", x.count(3), 71 + 198);
        Due.is("runs of it", x.ofGroup(1, 4), 2);
        x.set(DomeLamps.PRICE, 0);
        x.group(9, 0, 30);
        x.run();
        Due.is("coins of nothing", x.count(3), 71 + 198);
        x.set(DomeLamps.PRICE, 99);
        x.run();
        Due.is("a group that paid nothing has come all the same", x.count(3), 71 + 198);
        x.lens(0);
        Due.is("run() with a clean lens", x.run(), 18);
        Due.is("coins", x.count(3), 71 + 198);
        Due.is("none waits", x.count(2), 0);
    }

    private static void promise7Foggy() {
        DomeLamps x = new DomeLamps();
        x.set(DomeLamps.DIM, 5);
        Due.told(x, 0, "a10", 10);
        x.group(3, 0, 100);
        Due.is("run()", x.run(), 3);
        Due.is("fog", x.ofLamp(0, 2), 50);
        x.group(4, 0, 0);
        x.group(5, 0, 115);
        Due.is("foggy at 5 hundredths", x.next(3), 1);
        Due.is("run()", x.run(), 4);
        Due.is("foggy ones", x.count(5), 1);
        Due.is("runs", x.count(4), 2);
        Due.is("now", x.count(0), 120);
        int[] group = {4, 0, 130, 0, 1};
        for (int what = 0; what < 5; what++) {
            Due.is("ofGroup(1, " + what + ")", x.ofGroup(1, what), group[what]);
        }
        Due.is("the fog of a foggy run", x.ofLamp(0, 2), 100);
        Due.is("the minutes of a foggy run", x.ofLamp(0, 0), 20);
        Due.is("the one behind it is first now", x.next(1), 4);
        x.lens(0);
        Due.is("run() of the other", x.run(), 5);
        Due.is("now", x.count(0), 130);
        Due.is("foggy again", x.next(3), 1);
        x.set(DomeLamps.DIM, 6);
        Due.is("not foggy below DIM", x.next(3), 0);
        Due.is("run() of the one that waits", x.run(), 4);
        Due.is("it has seen its show", x.ofGroup(1, 3), 1);
        Due.is("the time from which it waited last", x.ofGroup(1, 2), 130);
        Due.is("its runs", x.ofGroup(1, 4), 2);
        Due.is("foggy ones", x.count(5), 1);
    }

    private static void promise7FoggyWithSeveralGroups() {
        DomeLamps x = new DomeLamps();
        x.set(DomeLamps.FOG, 50);
        x.set(DomeLamps.DIM, 5);
        Due.told(x, 0, "a1", 1);
        x.group(10, 0, 50);
        x.group(11, 0, 0);
        x.group(31, 0, 50);
        x.group(12, 0, 50);
        Due.is("run() that fogs the lens", x.run(), 11);
        Due.is("run() of two, foggy", x.run(), 22);
        Due.is("those that wait", x.count(2), 1 + 4 + 8);
        int[] times = {61, 0, 50, 61};
        int[] runs = {1, 1, 0, 1};
        for (int group = 0; group < 4; group++) {
            Due.is("ofGroup(" + group + ", 2)", x.ofGroup(group, 2), times[group]);
            Due.is("ofGroup(" + group + ", 4)", x.ofGroup(group, 4), runs[group]);
        }
        Due.is("coins", x.count(3), 165);
        Due.is("run() of the one that found no seats", x.run(), 31);
        Due.is("coins", x.count(3), 320);
        x.lens(0);
        Due.is("run() of the two at 61", x.run(), 22);
        Due.is("coins are paid once", x.count(3), 320);
        Due.is("those that wait", x.count(2), 4);
        Due.is("it waits from", x.ofGroup(2, 2), 62);
    }

    private static void promise7FogIsOfTheShowsLampsAsItBegins() {
        DomeLamps x = new DomeLamps();
        x.set(DomeLamps.FOG, 1);
        x.set(DomeLamps.DIM, 1);
        Due.told(x, 0, "a9", 9);
        Due.told(x, 1, "b10", 10);
        Due.told(x, 2, "af1", 1);
        x.group(1, 0, 0);
        x.run();
        x.group(1, 0, 0);
        Due.is("9 tenths are no hundredth", x.next(3), 0);
        x.run();
        x.group(1, 1, 0);
        Due.is("another lamp's fog does not matter", x.next(3), 0);
        Due.is("run() in which the fog comes to DIM", x.run(), 1);
        Due.is("it is not foggy", x.count(5), 0);
        Due.is("its group has seen it", x.ofGroup(2, 3), 1);
        x.lens(0);
        x.group(1, 2, 0);
        Due.is("no lamp of it is foggy", x.next(3), 0);
        x.undo();
        x.undo();
        x.group(1, 2, 0);
        Due.is("one lamp of it is foggy", x.next(3), 1);
    }

    private static void promise7FogHasABound() {
        DomeLamps x = new DomeLamps();
        x.set(DomeLamps.FOG, 50);
        x.set(DomeLamps.DIM, 100);
        Due.told(x, 0, "a10,b9,c1", 20);
        x.group(1, 0, 0);
        x.run();
        Due.is("fog of 10 minutes", x.ofLamp(0, 2), 500);
        x.group(1, 0, 0);
        Due.is("50 hundredths", x.next(3), 0);
        x.run();
        Due.is("fog of 20 minutes", x.ofLamp(0, 2), 1000);
        Due.is("fog of 18 minutes", x.ofLamp(1, 2), 900);
        x.group(1, 0, 0);
        Due.is("100 hundredths", x.next(3), 1);
        x.run();
        Due.is("fog of 30 minutes", x.ofLamp(0, 2), 1000);
        Due.is("fog of 27 minutes", x.ofLamp(1, 2), 1000);
        Due.is("fog of 3 minutes", x.ofLamp(2, 2), 150);
        x.set(DomeLamps.FOG, 0);
        x.lens(2);
        x.run();
        Due.is("no fog", x.ofLamp(2, 2), 0);
    }

    private static void promise7LastTime() {
        DomeLamps x = new DomeLamps();
        x.set(DomeLamps.DIM, 1);
        x.set(DomeLamps.WAIT, 99);
        Due.told(x, 0, "9*(a99),a99,a9", 999);
        Due.told(x, 1, "b99", 99);
        x.group(1, 0, 9999);
        x.set(DomeLamps.LIFE, 9999);
        x.run();
        x.group(1, 0, 9999);
        Due.is("now", x.count(0), 10998);
        int runs = 0;
        while (runs < 100 && x.run() > 0) {
            x.lamp(0);
            runs++;
        }
        // 10998, then the first run at once, and each later one 99 minutes behind the one before.
        int now = 10998 + 999 + (runs - 1) * (999 + 99);
        Due.is("runs", runs, 81);
        Due.is("now", x.count(0), now);
        Due.is("why() at the end of time", x.why(), 0);
        Due.is("run() at the end of time", x.run(), DomeLamps.NOT_POSSIBLE);
        Due.is("next(2) all the same", x.next(2), now + 99);
        Due.is("runsLeft() all the same", x.runsLeft(), 10);
        int left = 99999 - (now + 99);
        Due.is("minutes that are left", left, 63);
        Due.told(x, 0, "a64", 64);
        Due.is("run() up to 100000", x.run(), DomeLamps.NOT_POSSIBLE);
        Due.told(x, 0, "a63", 63);
        Due.is("run() up to 99999", x.run(), 1);
        Due.is("now", x.count(0), 99999);
        Due.is("next(2) behind the end of time", x.next(2), 100098);
        Due.is("why() behind the end of time", x.why(), 0);
        Due.is("run() behind the end of time", x.run(), DomeLamps.NOT_POSSIBLE);
    }
}
