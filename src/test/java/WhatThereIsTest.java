/** Promises 8 to 13: what there is. */
public final class WhatThereIsTest {
    private static final int MIN = Integer.MIN_VALUE, MAX = Integer.MAX_VALUE;

    public static void main(String[] args) {
        promise8OfShow();
        promise8RunsOfANumber();
        promise9Lit();
        promise10At();
        promise11OfLamp();
        promise12OfGroup();
        promise13Count();
        Due.end("WhatThereIsTest");
    }

    private static void ofShow(String text, int minutes, int lamps, int scenes, int depth) {
        DomeLamps x = new DomeLamps();
        Due.told(x, 1, text, minutes);
        Due.is("ofShow(1, 0) of " + text, x.ofShow(1, 0), minutes);
        Due.is("ofShow(1, 1) of " + text, x.ofShow(1, 1), lamps);
        Due.is("ofShow(1, 2) of " + text, x.ofShow(1, 2), scenes);
        Due.is("ofShow(1, 3) of " + text, x.ofShow(1, 3), depth);
        Due.is("ofShow(1, 4) of " + text, x.ofShow(1, 4), 0);
    }

    private static void promise8OfShow() {
        ofShow("a1", 1, 1, 1, 0);
        ofShow("f99", 99, 32, 1, 0);
        ofShow("aab10", 10, 3, 1, 0);
        ofShow("a1,a1,a1", 3, 1, 3, 0);
        ofShow("2*(a1)", 2, 1, 2, 1);
        ofShow("9*(a1,b2)", 27, 3, 18, 1);
        ofShow("2*(a1,3*(b2,c1)),4*(d1)", 24, 15, 18, 2);
        ofShow("4*(d1),2*(a1,3*(b2,c1))", 24, 15, 18, 2);
        ofShow("2*(2*(2*(2*(ace1))))", 16, 21, 16, 4);
        ofShow("2*(3*(a1),4*(5*(b1),c2),d3)", 68, 15, 2 * (3 + 4 * 6 + 1), 3);
        DomeLamps x = new DomeLamps();
        for (int what = -1; what <= 5; what++) {
            Due.is("ofShow(-1, " + what + ")", x.ofShow(-1, what), DomeLamps.NO_SUCH);
            Due.is("ofShow(4, " + what + ")", x.ofShow(4, what), DomeLamps.NO_SUCH);
        }
        Due.is("ofShow(MIN, 0)", x.ofShow(MIN, 0), DomeLamps.NO_SUCH);
        Due.is("ofShow(MAX, 0)", x.ofShow(MAX, 0), DomeLamps.NO_SUCH);
        Due.is("ofShow(3, 5)", x.ofShow(3, 5), DomeLamps.BAD_VALUE);
        Due.is("ofShow(3, -1)", x.ofShow(3, -1), DomeLamps.BAD_VALUE);
        Due.told(x, 3, "a1", 1);
        Due.is("ofShow(3, 5)", x.ofShow(3, 5), DomeLamps.BAD_VALUE);
        Due.is("ofShow(3, MIN)", x.ofShow(3, MIN), DomeLamps.BAD_VALUE);
        Due.is("ofShow(3, MAX)", x.ofShow(3, MAX), DomeLamps.BAD_VALUE);
    }

    private static void promise8RunsOfANumber() {
        DomeLamps x = new DomeLamps();
        Due.told(x, 1, "a1", 1);
        x.group(1, 1, 0);
        x.run();
        x.group(1, 1, 0);
        x.run();
        Due.told(x, 1, "b1", 1);
        Due.is("ofShow(1, 4) of another text", x.ofShow(1, 4), 2);
        x.group(1, 1, 0);
        x.run();
        Due.is("ofShow(1, 4)", x.ofShow(1, 4), 3);
        Due.is("ofShow(0, 4)", x.ofShow(0, 4), 0);
        x.set(DomeLamps.FOG, 50);
        x.set(DomeLamps.DIM, 5);
        x.group(1, 1, 0);
        x.run();
        x.group(1, 1, 0);
        x.run();
        Due.is("foggy ones", x.count(5), 1);
        Due.is("ofShow(1, 4) with a foggy one", x.ofShow(1, 4), 5);
    }

    private static void promise9Lit() {
        DomeLamps x = new DomeLamps();
        Due.told(x, 2, "ab3,2*(bc10,aa5,3*(f1)),b99", 138);
        int[] want = {3 + 10, 3 + 20 + 99, 20, 0, 0, 6};
        for (int lamp = 0; lamp < 6; lamp++) {
            Due.is("lit(2, " + lamp + ")", x.lit(2, lamp), want[lamp]);
            Due.is("lit(1, " + lamp + ") of none", x.lit(1, lamp), 0);
            Due.is("lit(4, " + lamp + ")", x.lit(4, lamp), DomeLamps.NO_SUCH);
            Due.is("lit(-1, " + lamp + ")", x.lit(-1, lamp), DomeLamps.NO_SUCH);
        }
        Due.is("lit(2, 6)", x.lit(2, 6), DomeLamps.NO_SUCH);
        Due.is("lit(2, -1)", x.lit(2, -1), DomeLamps.NO_SUCH);
        Due.is("lit(2, MAX)", x.lit(2, MAX), DomeLamps.NO_SUCH);
        Due.is("lit(1, 6)", x.lit(1, 6), DomeLamps.NO_SUCH);
        Due.is("lit(MIN, MIN)", x.lit(MIN, MIN), DomeLamps.NO_SUCH);
    }

    private static void promise10At() {
        DomeLamps x = new DomeLamps();
        Due.told(x, 0, "ab3,2*(c1,3*(fa2,e1)),d12", 35);
        int[] inner = {4, 33, 33, 16, 33, 33, 16, 33, 33, 16};
        for (int minute = 0; minute < 35; minute++) {
            int want = minute < 3 ? 3 : minute < 23 ? inner[(minute - 3) % 10] : 8;
            Due.is("at(0, " + minute + ")", x.at(0, minute), want);
        }
        Due.is("at(0, 35)", x.at(0, 35), DomeLamps.NO_SUCH);
        Due.is("at(0, -1)", x.at(0, -1), DomeLamps.NO_SUCH);
        Due.is("at(0, MAX)", x.at(0, MAX), DomeLamps.NO_SUCH);
        Due.is("at(0, MIN)", x.at(0, MIN), DomeLamps.NO_SUCH);
        Due.is("at(1, 0) of none", x.at(1, 0), DomeLamps.NO_SUCH);
        Due.is("at(4, 0)", x.at(4, 0), DomeLamps.NO_SUCH);
        Due.is("at(-1, 0)", x.at(-1, 0), DomeLamps.NO_SUCH);
    }

    private static void promise11OfLamp() {
        DomeLamps x = new DomeLamps();
        Due.told(x, 0, "a30,ad20", 50);
        x.group(5, 0, 0);
        x.run();
        int[][] want = {{50, 550, 250, 0}, {0, 600, 0, 0}, {0, 600, 0, 0}, {20, 580, 100, 0}, {0, 600, 0, 0}, {0, 600, 0, 0}};
        for (int lamp = 0; lamp < 6; lamp++) {
            for (int what = 0; what < 4; what++) {
                Due.is("ofLamp(" + lamp + ", " + what + ")", x.ofLamp(lamp, what), want[lamp][what]);
            }
            Due.is("ofLamp(" + lamp + ", 4)", x.ofLamp(lamp, 4), DomeLamps.BAD_VALUE);
            Due.is("ofLamp(" + lamp + ", -1)", x.ofLamp(lamp, -1), DomeLamps.BAD_VALUE);
        }
        Due.is("ofLamp(6, 9)", x.ofLamp(6, 9), DomeLamps.NO_SUCH);
        Due.is("ofLamp(-1, 0)", x.ofLamp(-1, 0), DomeLamps.NO_SUCH);
        Due.is("ofLamp(MAX, MAX)", x.ofLamp(MAX, MAX), DomeLamps.NO_SUCH);
        Due.is("ofLamp(0, MIN)", x.ofLamp(0, MIN), DomeLamps.BAD_VALUE);
        x.set(DomeLamps.LIFE, 50);
        Due.is("minutes that it may burn yet, of 50", x.ofLamp(0, 1), 0);
        x.set(DomeLamps.LIFE, 49);
        Due.is("minutes that it may burn yet, of 49", x.ofLamp(0, 1), 0);
        Due.is("minutes of another one", x.ofLamp(3, 1), 29);
        x.lamp(0);
        x.lamp(0);
        Due.is("how often it was changed", x.ofLamp(0, 3), 2);
        Due.is("minutes of a new one", x.ofLamp(0, 1), 49);
        x.undo();
        Due.is("how often it was changed then", x.ofLamp(0, 3), 1);
    }

    private static void promise12OfGroup() {
        DomeLamps x = new DomeLamps();
        Due.told(x, 2, "a10", 10);
        Due.is("ofGroup(0, 0) of none", x.ofGroup(0, 0), DomeLamps.NO_SUCH);
        Due.is("ofGroup(0, 5) of none", x.ofGroup(0, 5), DomeLamps.NO_SUCH);
        x.group(17, 2, 99);
        x.group(60, 3, 9999);
        int[][] want = {{17, 2, 99, 0, 0}, {60, 3, 9999, 0, 0}};
        for (int group = 0; group < 2; group++) {
            for (int what = 0; what < 5; what++) {
                Due.is("ofGroup(" + group + ", " + what + ")", x.ofGroup(group, what), want[group][what]);
            }
            Due.is("ofGroup(" + group + ", 5)", x.ofGroup(group, 5), DomeLamps.BAD_VALUE);
            Due.is("ofGroup(" + group + ", -1)", x.ofGroup(group, -1), DomeLamps.BAD_VALUE);
        }
        x.run();
        want[0] = new int[] {17, 2, 99, 1, 1};
        for (int what = 0; what < 5; what++) {
            Due.is("ofGroup(0, " + what + ") behind its run", x.ofGroup(0, what), want[0][what]);
            Due.is("ofGroup(1, " + what + ") behind it", x.ofGroup(1, what), want[1][what]);
        }
        Due.is("ofGroup(2, 0)", x.ofGroup(2, 0), DomeLamps.NO_SUCH);
        Due.is("ofGroup(-1, 0)", x.ofGroup(-1, 0), DomeLamps.NO_SUCH);
        Due.is("ofGroup(MAX, 0)", x.ofGroup(MAX, 0), DomeLamps.NO_SUCH);
        Due.is("ofGroup(MIN, 9)", x.ofGroup(MIN, 9), DomeLamps.NO_SUCH);
        Due.is("ofGroup(0, MAX)", x.ofGroup(0, MAX), DomeLamps.BAD_VALUE);
    }

    private static void promise13Count() {
        DomeLamps x = new DomeLamps();
        x.set(DomeLamps.LIFE, 100);
        x.set(DomeLamps.FOG, 2);
        x.set(DomeLamps.DIM, 4);
        x.set(DomeLamps.SEATS, 30);
        x.set(DomeLamps.PRICE, 6);
        x.set(DomeLamps.WAIT, 8);
        Due.told(x, 0, "a20", 20);
        Due.told(x, 3, "b5", 5);
        x.group(10, 0, 3);
        x.group(11, 3, 4);
        x.group(12, 0, 30);
        x.group(13, 1, 9000);
        x.run();
        x.run();
        x.run();
        Due.write(x, "zz!");
        int[] want = {50, 4, 4 + 8, 198, 3, 1, 9, 100, 2, 4, 30, 6, 8, 3, 6};
        for (int what = 0; what < want.length; what++) {
            Due.is("count(" + what + ")", x.count(what), want[what]);
        }
        Due.is("count(15)", x.count(15), DomeLamps.BAD_VALUE);
        Due.is("count(-1)", x.count(-1), DomeLamps.BAD_VALUE);
        Due.is("count(MAX)", x.count(MAX), DomeLamps.BAD_VALUE);
        Due.is("count(MIN)", x.count(MIN), DomeLamps.BAD_VALUE);
    }
}
