/** All that an object answers when it is asked without changing it, a line for each call; at most 230 calls. */
final class Answers {
    private Answers() {
    }

    /** Everything, with the pad and how many changes can be undone. */
    static String of(DomeLamps x) {
        StringBuilder lines = new StringBuilder(ofDome(x));
        line(lines, "count(13)", x.count(13));
        line(lines, "count(14)", x.count(14));
        line(lines, "fault()", x.fault());
        return lines.toString();
    }

    /** Everything except the pad, the slots and the history. */
    static String ofDome(DomeLamps x) {
        StringBuilder lines = new StringBuilder();
        for (int what = 0; what <= 12; what++) {
            line(lines, "count(" + what + ")", x.count(what));
        }
        for (int show = 0; show < 4; show++) {
            show(lines, x, show);
        }
        for (int lamp = 0; lamp < 6; lamp++) {
            for (int what = 0; what < 4; what++) {
                line(lines, "ofLamp(" + lamp + ", " + what + ")", x.ofLamp(lamp, what));
            }
        }
        int groups = x.count(1);
        for (int group = 0; group < groups; group++) {
            for (int what = 0; what < 5; what++) {
                line(lines, "ofGroup(" + group + ", " + what + ")", x.ofGroup(group, what));
            }
        }
        for (int what = 0; what < 4; what++) {
            line(lines, "next(" + what + ")", x.next(what));
        }
        line(lines, "why()", x.why());
        line(lines, "endsFirst()", x.endsFirst());
        line(lines, "runsLeft()", x.runsLeft());
        return lines.toString();
    }

    private static void show(StringBuilder lines, DomeLamps x, int show) {
        for (int what = 0; what < 5; what++) {
            line(lines, "ofShow(" + show + ", " + what + ")", x.ofShow(show, what));
        }
        for (int lamp = 0; lamp < 6; lamp++) {
            line(lines, "lit(" + show + ", " + lamp + ")", x.lit(show, lamp));
        }
        int minutes = Math.max(0, x.ofShow(show, 0));
        int[] some = {0, minutes / 2, minutes - 1, minutes};
        for (int minute : some) {
            line(lines, "at(" + show + ", " + minute + ")", x.at(show, minute));
        }
        line(lines, "oftenOf(" + show + ")", x.oftenOf(show));
    }

    private static void line(StringBuilder lines, String call, int answer) {
        lines.append(call).append(" = ").append(answer).append('\n');
    }
}
