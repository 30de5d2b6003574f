/** Tries calls that may change nothing: whatever is asked or done behind them, it answers as if they had not been made. */
final class Unchanged {
    /** A few calls on an object. */
    interface Use {
        void on(DomeLamps x);
    }

    /** A call on an object, with its answer. */
    interface Call {
        int on(DomeLamps x);
    }

    private Unchanged() {
    }

    /** The call, made behind others, has to answer so and to change nothing. */
    static void by(String name, Use before, Call call, int want) {
        behind(name, before, call, want, x -> { });
        for (int many = 1; many <= 6; many++) {
            int undone = many;
            behind(name + ", then " + many + " times undo()", before, call, want, x -> undo(x, undone));
        }
        behind(name + ", then restore(0)", before, call, want, x -> x.restore(0));
        behind(name + ", then restore(1)", before, call, want, x -> x.restore(1));
        behind(name + ", then tell(3)", before, call, want, x -> x.tell(3));
        behind(name + ", then run()", before, call, want, x -> x.run());
        behind(name + ", then group(1, 0, 0)", before, call, want, x -> x.group(1, 0, 0));
    }

    private static void behind(String name, Use before, Call call, int want, Use later) {
        DomeLamps with = new DomeLamps();
        DomeLamps without = new DomeLamps();
        before.on(with);
        before.on(without);
        Due.is(name, call.on(with), want);
        later.on(with);
        later.on(without);
        Due.same(name, Answers.of(with), Answers.of(without));
    }

    private static void undo(DomeLamps x, int many) {
        for (int i = 0; i < many; i++) {
            x.undo();
        }
    }

    /** A dome in which nearly everything is different from what it was at first: groups of each kind, a foggy run, both slots. */
    static void busy(DomeLamps x) {
        Due.write(x, "2*(a3,3*(bc2,f1)),d5");
        x.tell(0);
        Due.write(x, "ab10");
        x.tell(1);
        x.set(DomeLamps.FOG, 20);
        x.set(DomeLamps.DIM, 10);
        x.group(10, 0, 5);
        x.group(31, 0, 5);
        x.group(7, 1, 9);
        x.group(60, 2, 9000);
        x.save(0);
        x.run();
        x.run();
        x.lamp(1);
        x.lens(2);
        x.save(1);
        x.set(DomeLamps.PRICE, 7);
        x.group(9, 1, 50);
        x.run();
        Due.write(x, "ab1,c2");
    }

    /** The same, but with a text on the pad that ends too early. */
    static void busyWithFault(DomeLamps x) {
        busy(x);
        Due.write(x, ",");
    }

    /** The same, but with the pad full. */
    static void busyWithFullPad(DomeLamps x) {
        busy(x);
        Due.write(x, ",abc9" + ",d9".repeat(23));
    }

    /** The same, but with 20 groups. */
    static void busyWithAllGroups(DomeLamps x) {
        busy(x);
        while (x.count(1) < 20) {
            x.group(3, 1, 7);
        }
    }
}
