/** Brings a dome near to the last time that there may be. */
final class EndOfTime {
    private EndOfTime() {
    }

    /** The time of now is 99909 then, and a group of one waits for show 0, of lamp a; it takes some 120 calls. */
    static void go(DomeLamps x) {
        x.set(DomeLamps.LIFE, 9999);
        x.set(DomeLamps.DIM, 1);
        x.set(DomeLamps.WAIT, 0);
        Due.write(x, "9*(a99),a99,a9");
        x.tell(0);
        x.group(1, 0, 9999);
        x.run();
        x.group(1, 0, 9999);
        for (int run = 0; run < 89; run++) {
            if (run % 9 == 0) {
                x.lamp(0);
            }
            x.run();
        }
        x.lamp(0);
        Due.is("the time of now near its end", x.count(0), 99909);
        Due.is("the groups that wait then", x.count(2), 2);
    }
}
