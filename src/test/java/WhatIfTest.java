/** Promises 14 to 18: what if. */
public final class WhatIfTest {
    private static final int MIN = Integer.MIN_VALUE, MAX = Integer.MAX_VALUE;

    public static void main(String[] args) {
        promise14Why();
        promise14FirstGroupAlone();
        promise14LampsOfTheShowAlone();
        promise15Next();
        promise15EvenIfALampEnds();
        promise16OftenOf();
        promise17EndsFirst();
        promise18RunsLeft();
        promise18Foggy();
        promise18ChangesNothing();
        Due.end("WhatIfTest");
    }

    private static void promise14Why() {
        DomeLamps x = new DomeLamps();
        Due.is("why() without a group", x.why(), 1);
        x.group(50, 1, 9);
        Due.is("why() of a show that is not told", x.why(), 2);
        x.set(DomeLamps.LIFE, 9);
        Due.told(x, 1, "c10", 10);
        Due.is("why() of 50 in 40 seats", x.why(), 3);
        x.set(DomeLamps.SEATS, 49);
        Due.is("why() of 50 in 49 seats", x.why(), 3);
        x.set(DomeLamps.SEATS, 50);
        Due.is("why() of 10 minutes of 9", x.why(), 4);
        x.set(DomeLamps.LIFE, 10);
        Due.is("why() of 10 minutes of 10", x.why(), 0);
        x.run();
        Due.is("why() behind the run", x.why(), 1);
        x.group(1, 1, 0);
        Due.is("why() of a lamp that ended", x.why(), 4);
        x.lamp(2);
        Due.is("why() of a new lamp", x.why(), 0);
    }

    private static void promise14FirstGroupAlone() {
        DomeLamps x = new DomeLamps();
        Due.told(x, 0, "a1", 1);
        x.group(1, 0, 5);
        Due.is("why() of one", x.why(), 0);
        x.group(1, 1, 4);
        Due.is("why() of an earlier one without a show", x.why(), 2);
        x.group(60, 0, 3);
        Due.is("why() of an earlier one that is too large", x.why(), 3);
        x.undo();
        x.undo();
        x.group(1, 1, 5);
        Due.is("why() of the lowest one", x.why(), 0);
        x.group(60, 0, 5);
        Due.is("why() with one behind it that is too large", x.why(), 0);
        Due.is("next(1) without it", x.next(1), 1);
    }

    private static void promise14LampsOfTheShowAlone() {
        DomeLamps x = new DomeLamps();
        Due.told(x, 0, "a50", 50);
        Due.told(x, 1, "b20,c21", 41);
        x.group(1, 0, 0);
        x.run();
        x.set(DomeLamps.LIFE, 21);
        x.group(1, 1, 0);
        Due.is("why() while another lamp burned too long", x.why(), 0);
        Due.is("oftenOf(1) then", x.oftenOf(1), 1);
        Due.is("runsLeft() then", x.runsLeft(), 1);
        x.set(DomeLamps.LIFE, 20);
        Due.is("why() of one of two lamps", x.why(), 4);
    }

    private static void promise15Next() {
        DomeLamps x = new DomeLamps();
        Due.is("next(4) without a group", x.next(4), DomeLamps.BAD_VALUE);
        Due.is("next(-1) without a group", x.next(-1), DomeLamps.BAD_VALUE);
        Due.is("next(MIN)", x.next(MIN), DomeLamps.BAD_VALUE);
        Due.is("next(MAX)", x.next(MAX), DomeLamps.BAD_VALUE);
        everyNext(x, "without a group", DomeLamps.NOT_POSSIBLE);
        x.group(41, 2, 30);
        everyNext(x, "of a show that is not told", DomeLamps.NOT_POSSIBLE);
        Due.told(x, 2, "ab12", 12);
        everyNext(x, "of a group that is too large", DomeLamps.NOT_POSSIBLE);
        x.set(DomeLamps.SEATS, 45);
        Due.is("next(0)", x.next(0), 2);
        Due.is("next(1)", x.next(1), 1);
        Due.is("next(2)", x.next(2), 30);
        Due.is("next(3)", x.next(3), 0);
        x.group(5, 2, 30);
        x.group(4, 2, 30);
        x.group(1, 2, 31);
        Due.is("next(1) with another", x.next(1), 1 + 4);
        Due.is("next(1) once more", x.next(1), 1 + 4);
        x.run();
        Due.is("next(1) behind it", x.next(1), 2 + 8);
        Due.is("next(2) behind it", x.next(2), 42);
        x.set(DomeLamps.DIM, 6);
        Due.is("next(3) at 60 of 60", x.next(3), 1);
        x.set(DomeLamps.DIM, 7);
        Due.is("next(3) at 60 of 70", x.next(3), 0);
    }

    private static void everyNext(DomeLamps x, String when, int want) {
        for (int what = 0; what < 4; what++) {
            Due.is("next(" + what + ") " + when, x.next(what), want);
        }
    }

    private static void promise15EvenIfALampEnds() {
        DomeLamps x = new DomeLamps();
        x.set(DomeLamps.LIFE, 5);
        Due.told(x, 3, "e6", 6);
        x.group(7, 3, 8);
        Due.is("why()", x.why(), 4);
        Due.is("next(0)", x.next(0), 3);
        Due.is("next(1)", x.next(1), 1);
        Due.is("next(2)", x.next(2), 8);
        Due.is("next(3)", x.next(3), 0);
    }

    private static void promise16OftenOf() {
        DomeLamps x = new DomeLamps();
        Due.is("oftenOf(4)", x.oftenOf(4), DomeLamps.NO_SUCH);
        Due.is("oftenOf(-1)", x.oftenOf(-1), DomeLamps.NO_SUCH);
        Due.is("oftenOf(MAX)", x.oftenOf(MAX), DomeLamps.NO_SUCH);
        Due.is("oftenOf(MIN)", x.oftenOf(MIN), DomeLamps.NO_SUCH);
        Due.is("oftenOf(0) of none", x.oftenOf(0), DomeLamps.NONE);
        Due.told(x, 0, "a7,b13,ab6", 26);
        Due.is("oftenOf(0) of 600 by 19", x.oftenOf(0), 31);
        Due.told(x, 1, "f1", 1);
        Due.is("oftenOf(1) of 600 by 1", x.oftenOf(1), 600);
        x.set(DomeLamps.LIFE, 9999);
        Due.is("oftenOf(1) of 9999 by 1", x.oftenOf(1), 9999);
        x.set(DomeLamps.LIFE, 38);
        Due.is("oftenOf(0) of 38 by 19", x.oftenOf(0), 2);
        x.set(DomeLamps.LIFE, 37);
        Due.is("oftenOf(0) of 37 by 19", x.oftenOf(0), 1);
        x.set(DomeLamps.LIFE, 18);
        Due.is("oftenOf(0) of 18 by 19", x.oftenOf(0), 0);
        x.set(DomeLamps.LIFE, 100);
        x.group(1, 0, 0);
        x.run();
        Due.is("oftenOf(0) of 81 by 19", x.oftenOf(0), 4);
        x.lamp(1);
        Due.is("oftenOf(0) of 87 by 13", x.oftenOf(0), 5);
        x.set(DomeLamps.LIFE, 1);
        Due.is("oftenOf(0) of lamps that burned too long", x.oftenOf(0), 0);
        Due.is("oftenOf(1) of another lamp", x.oftenOf(1), 1);
    }

    private static void promise17EndsFirst() {
        DomeLamps x = new DomeLamps();
        Due.told(x, 0, "b9,c9,d8", 26);
        x.group(1, 0, 0);
        x.run();
        Due.is("endsFirst() of two", x.endsFirst(), 1);
        x.lamp(1);
        Due.is("endsFirst() then", x.endsFirst(), 2);
        x.lamp(2);
        Due.is("endsFirst() then", x.endsFirst(), 3);
        x.lamp(3);
        Due.is("endsFirst() of six", x.endsFirst(), 0);
        Due.told(x, 1, "f1", 1);
        x.group(1, 1, 0);
        x.run();
        Due.is("endsFirst() of the last one", x.endsFirst(), 5);

        x = new DomeLamps();
        Due.told(x, 0, "b5,d9", 14);
        x.group(1, 0, 0);
        x.run();
        Due.is("endsFirst() of 9", x.endsFirst(), 3);
        x.set(DomeLamps.LIFE, 5);
        Due.is("endsFirst() of two without a minute", x.endsFirst(), 1);
        x.set(DomeLamps.LIFE, 1);
        Due.is("endsFirst() of two that burned too long", x.endsFirst(), 1);
    }

    private static void promise18RunsLeft() {
        DomeLamps x = new DomeLamps();
        Due.is("runsLeft() without a group", x.runsLeft(), 0);
        x.group(30, 0, 0);
        Due.is("runsLeft() without a show", x.runsLeft(), 0);
        Due.told(x, 0, "a10", 10);
        Due.is("runsLeft() of one", x.runsLeft(), 1);
        x.group(30, 0, 0);
        x.group(10, 0, 0);
        Due.is("runsLeft() of three in two", x.runsLeft(), 2);
        x.group(41, 0, 1);
        Due.is("runsLeft() up to one that is too large", x.runsLeft(), 2);
        x.undo();
        x.group(1, 1, 1);
        x.group(1, 0, 11);
        Due.is("runsLeft() up to one without a show", x.runsLeft(), 2);
        x.set(DomeLamps.LIFE, 19);
        Due.is("runsLeft() of 19 minutes", x.runsLeft(), 1);
        x.set(DomeLamps.LIFE, 9);
        Due.is("runsLeft() of 9 minutes", x.runsLeft(), 0);
        x.set(DomeLamps.LIFE, 600);
        Due.told(x, 1, "b1", 1);
        Due.is("runsLeft() of all", x.runsLeft(), 4);
    }

    private static void promise18Foggy() {
        DomeLamps x = new DomeLamps();
        x.set(DomeLamps.FOG, 10);
        x.set(DomeLamps.DIM, 1);
        x.set(DomeLamps.LIFE, 52);
        Due.told(x, 0, "a1", 1);
        x.group(1, 0, 0);
        x.run();
        x.group(1, 0, 0);
        Due.is("runsLeft() is at most 50", x.runsLeft(), 50);
        x.set(DomeLamps.LIFE, 51);
        Due.is("runsLeft() of 50 minutes", x.runsLeft(), 50);
        x.set(DomeLamps.LIFE, 50);
        Due.is("runsLeft() of 49 minutes", x.runsLeft(), 49);
        x.lens(0);
        Due.is("runsLeft() with a clean lens", x.runsLeft(), 1);
    }

    private static void promise18ChangesNothing() {
        DomeLamps x = new DomeLamps();
        Due.told(x, 0, "a10", 10);
        x.group(30, 0, 0);
        x.group(30, 0, 0);
        x.runsLeft();
        x.why();
        x.next(1);
        x.oftenOf(0);
        x.endsFirst();
        Due.is("now", x.count(0), 0);
        Due.is("those that wait", x.count(2), 3);
        Due.is("coins", x.count(3), 0);
        Due.is("runs", x.count(4), 0);
        Due.is("changes", x.count(14), 3);
        Due.is("ofLamp(0, 0)", x.ofLamp(0, 0), 0);
        Due.is("ofGroup(0, 4)", x.ofGroup(0, 4), 0);
        Due.is("ofShow(0, 4)", x.ofShow(0, 4), 0);
    }
}
