/** Promise 1, and the constants of the face. */
public final class NewObjectTest {
    public static void main(String[] args) {
        promise1ANewObject();
        constants();
        objectsAreApart();
        Due.end("NewObjectTest");
    }

    private static void promise1ANewObject() {
        DomeLamps x = new DomeLamps();
        int[] firstSettings = {600, 5, 50, 40, 5, 10};
        for (int what = 0; what <= 14; what++) {
            int want = what >= 7 && what <= 12 ? firstSettings[what - 7] : 0;
            Due.is("count(" + what + ") of a new object", x.count(what), want);
        }
        for (int show = 0; show < 4; show++) {
            for (int what = 0; what <= 4; what++) {
                Due.is("ofShow(" + show + ", " + what + ") of a new object", x.ofShow(show, what), 0);
            }
            Due.is("oftenOf(" + show + ") of a new object", x.oftenOf(show), DomeLamps.NONE);
            Due.is("at(" + show + ", 0) of a new object", x.at(show, 0), DomeLamps.NO_SUCH);
        }
        for (int lamp = 0; lamp < 6; lamp++) {
            Due.is("ofLamp(" + lamp + ", 0)", x.ofLamp(lamp, 0), 0);
            Due.is("ofLamp(" + lamp + ", 1)", x.ofLamp(lamp, 1), 600);
            Due.is("ofLamp(" + lamp + ", 2)", x.ofLamp(lamp, 2), 0);
            Due.is("ofLamp(" + lamp + ", 3)", x.ofLamp(lamp, 3), 0);
        }
        Due.is("ofGroup(0, 0) of a new object", x.ofGroup(0, 0), DomeLamps.NO_SUCH);
        Due.is("why() of a new object", x.why(), 1);
        Due.is("endsFirst() of a new object", x.endsFirst(), 0);
        Due.is("runsLeft() of a new object", x.runsLeft(), 0);
        Due.is("fault() of a new object", x.fault(), 0);
        Due.is("undo() of a new object", x.undo(), DomeLamps.NOT_POSSIBLE);
        Due.is("restore(0) of a new object", x.restore(0), DomeLamps.NOT_POSSIBLE);
        Due.is("restore(1) of a new object", x.restore(1), DomeLamps.NOT_POSSIBLE);
        Due.is("wipe() of a new object", x.wipe(), 0);
    }

    private static void constants() {
        Due.is("NO_SUCH", DomeLamps.NO_SUCH, -1);
        Due.is("BAD_VALUE", DomeLamps.BAD_VALUE, -2);
        Due.is("BAD_TEXT", DomeLamps.BAD_TEXT, -3);
        Due.is("TOO_MANY", DomeLamps.TOO_MANY, -4);
        Due.is("NOT_POSSIBLE", DomeLamps.NOT_POSSIBLE, -5);
        Due.is("NONE", DomeLamps.NONE, -6);
        Due.is("LIFE", DomeLamps.LIFE, 0);
        Due.is("FOG", DomeLamps.FOG, 1);
        Due.is("DIM", DomeLamps.DIM, 2);
        Due.is("SEATS", DomeLamps.SEATS, 3);
        Due.is("PRICE", DomeLamps.PRICE, 4);
        Due.is("WAIT", DomeLamps.WAIT, 5);
    }

    private static void objectsAreApart() {
        DomeLamps x = new DomeLamps();
        DomeLamps y = new DomeLamps();
        x.set(DomeLamps.LIFE, 7);
        x.group(3, 0, 9);
        Due.write(x, "a1");
        x.save(0);
        Due.is("count(7) of another object", y.count(7), 600);
        Due.is("count(1) of another object", y.count(1), 0);
        Due.is("count(13) of another object", y.count(13), 0);
        Due.is("count(14) of another object", y.count(14), 0);
        Due.is("restore(0) of another object", y.restore(0), DomeLamps.NOT_POSSIBLE);
    }
}
