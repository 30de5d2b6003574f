/** Runs of at most 512 calls, in which the program and PlainDome have to answer the same; the numbers are always the same ones. */
public final class LongRunsTest {
    private static final int RUNS = 4000, CALLS = 512, LONGEST_TEXT = 96, MOST_IN_A_TURN = 18, MOST_QUESTIONS = 361;
    private static final long[] ODD = {Integer.MIN_VALUE, -2, -1, 6, 7, 20, 21, 61, 100, 999, 10000, Integer.MAX_VALUE};

    private static long seed;
    private static DomeLamps x;
    private static PlainDome y;
    private static int run;
    private static int calls;

    public static void main(String[] args) {
        int many = args.length > 0 ? Integer.parseInt(args[0]) : RUNS;
        for (run = 1; run <= many; run++) {
            seed = 7919L * run;
            x = new DomeLamps();
            y = new PlainDome();
            calls = 0;
            // An object is promised for 512 calls: three runs in four are shorter, and end with every question.
            boolean asksAll = run % 4 != 0;
            int last = CALLS - MOST_IN_A_TURN - (asksAll ? MOST_QUESTIONS : 0);
            while (calls <= last) {
                oneCall(run % 5);
            }
            if (asksAll) {
                everything();
            }
            if (calls > CALLS) {
                Due.is("calls of run " + run, calls, CALLS);
            }
        }
        Due.end("LongRunsTest");
    }

    private static int upTo(int bound) {
        seed = seed * 6364136223846793005L + 1442695040888963407L;
        return (int) ((seed >>> 33) % bound);
    }

    /** A number of those that are in order, now and then one that is not. */
    private static int of(int from, int to) {
        return upTo(30) == 0 ? (int) ODD[upTo(ODD.length)] : from + upTo(to - from + 1);
    }

    private static void due(String call, int got, int want) {
        calls++;
        Due.is("run " + run + ", call " + calls + ": " + call, got, want);
    }

    private static void oneCall(int kind) {
        int pick = upTo(100);
        if (pick < 14) {
            text();
        } else if (pick < 34) {
            int persons = of(1, upTo(8) == 0 ? 60 : 25), show = of(0, 3), time = of(0, kind == 0 ? 9999 : 300);
            due("group(" + persons + ", " + show + ", " + time + ")", x.group(persons, show, time), y.group(persons, show, time));
        } else if (pick < 62) {
            due("run()", x.run(), y.run());
        } else if (pick < 70) {
            setting(kind);
        } else if (pick < 78) {
            int lamp = of(0, 5);
            due("lamp(" + lamp + ")", x.lamp(lamp), y.lamp(lamp));
        } else if (pick < 81) {
            int lamp = of(0, 5);
            due("lens(" + lamp + ")", x.lens(lamp), y.lens(lamp));
        } else if (pick < 88) {
            due("undo()", x.undo(), y.undo());
        } else if (pick < 91) {
            int slot = of(0, 1);
            due("save(" + slot + ")", x.save(slot), y.save(slot));
        } else if (pick < 95) {
            int slot = of(0, 1);
            due("restore(" + slot + ")", x.restore(slot), y.restore(slot));
        } else {
            question();
        }
    }

    private static void setting(int kind) {
        int[] most = {kind == 1 ? 200 : kind == 2 ? 9999 : 2000, 50, kind == 3 ? 8 : 100, 99, 99, 99};
        int setting = of(0, 5);
        int value = setting >= 0 && setting < 6 ? of(0, most[setting]) : 1;
        due("set(" + setting + ", " + value + ")", x.set(setting, value), y.set(setting, value));
    }

    private static void text() {
        if (upTo(4) == 0) {
            due("wipe()", x.wipe(), y.wipe());
        }
        StringBuilder text = new StringBuilder();
        show(text, 0, 1 + upTo(3));
        if (upTo(4) == 0) {
            spoil(text);
        }
        text.setLength(Math.min(text.length(), LONGEST_TEXT));
        for (int from = 0; from < text.length(); from += 8) {
            put(Due.coded(text.substring(from, Math.min(text.length(), from + 8))));
        }
        if (upTo(6) == 0) {
            put(oddLong());
        }
        due("fault()", x.fault(), y.fault());
        int show = of(0, 3);
        due("tell(" + show + ") of " + text, x.tell(show), y.tell(show));
        if (upTo(4) > 0) {
            due("wipe()", x.wipe(), y.wipe());
        }
    }

    private static void put(long characters) {
        due("put(" + characters + "L)", x.put(characters), y.put(characters));
    }

    private static long oddLong() {
        long number = 0;
        int many = 1 + upTo(8);
        for (int i = 0; i < many; i++) {
            number = number << 8 | (upTo(8) == 0 ? upTo(256) : upTo(8) == 0 ? 0 : 33 + upTo(94));
        }
        return number;
    }

    private static void show(StringBuilder text, int depth, int parts) {
        for (int i = 0; i < parts; i++) {
            if (i > 0) {
                text.append(',');
            }
            if (upTo(3) == 0 && depth < 5) {
                text.append((char) ('2' + upTo(8))).append("*(");
                show(text, depth + 1, 1 + upTo(2));
                text.append(')');
            } else {
                int lamps = 1 + upTo(3);
                for (int k = 0; k < lamps; k++) {
                    text.append((char) ('a' + upTo(6)));
                }
                text.append(1 + upTo(upTo(3) == 0 ? 99 : 12));
            }
        }
    }

    private static void spoil(StringBuilder text) {
        String signs = "abf0129*(),g+";
        int at = upTo(text.length());
        char sign = signs.charAt(upTo(signs.length()));
        switch (upTo(4)) {
            case 0: text.setCharAt(at, sign); break;
            case 1: text.insert(at, sign); break;
            case 2: text.deleteCharAt(at); break;
            default: text.setLength(at);
        }
    }

    private static void question() {
        int a = of(0, 5), b = of(0, 14);
        switch (upTo(11)) {
            case 0: due("ofShow(" + a + ", " + b + ")", x.ofShow(a, b), y.ofShow(a, b)); break;
            case 1: due("lit(" + a + ", " + b + ")", x.lit(a, b), y.lit(a, b)); break;
            case 2: due("at(" + a + ", " + b + ")", x.at(a, b), y.at(a, b)); break;
            case 3: due("ofLamp(" + a + ", " + b + ")", x.ofLamp(a, b), y.ofLamp(a, b)); break;
            case 4: due("ofGroup(" + b + ", " + a + ")", x.ofGroup(b, a), y.ofGroup(b, a)); break;
            case 5: due("count(" + b + ")", x.count(b), y.count(b)); break;
            case 6: due("next(" + a + ")", x.next(a), y.next(a)); break;
            case 7: due("oftenOf(" + a + ")", x.oftenOf(a), y.oftenOf(a)); break;
            case 8: due("fault()", x.fault(), y.fault()); break;
            case 9: due("endsFirst()", x.endsFirst(), y.endsFirst()); break;
            default: due("runsLeft()", x.runsLeft(), y.runsLeft());
        }
    }

    /** Every question, with every argument in its range and one beyond it. */
    private static void everything() {
        for (int show = -1; show <= 4; show++) {
            for (int what = -1; what <= 5; what++) {
                due("ofShow(" + show + ", " + what + ")", x.ofShow(show, what), y.ofShow(show, what));
            }
            for (int lamp = -1; lamp <= 6; lamp++) {
                due("lit(" + show + ", " + lamp + ")", x.lit(show, lamp), y.lit(show, lamp));
            }
            int minutes = Math.max(0, y.ofShow(show, 0));
            int[] some = {-1, 0, upTo(minutes + 1), upTo(minutes + 1), minutes - 1, minutes};
            for (int minute : some) {
                due("at(" + show + ", " + minute + ")", x.at(show, minute), y.at(show, minute));
            }
            due("oftenOf(" + show + ")", x.oftenOf(show), y.oftenOf(show));
        }
        for (int lamp = -1; lamp <= 6; lamp++) {
            for (int what = -1; what <= 4; what++) {
                due("ofLamp(" + lamp + ", " + what + ")", x.ofLamp(lamp, what), y.ofLamp(lamp, what));
            }
        }
        for (int group = -1; group <= 20; group++) {
            for (int what = -1; what <= 5; what++) {
                due("ofGroup(" + group + ", " + what + ")", x.ofGroup(group, what), y.ofGroup(group, what));
            }
        }
        for (int what = -1; what <= 15; what++) {
            due("count(" + what + ")", x.count(what), y.count(what));
        }
        for (int what = -1; what <= 4; what++) {
            due("next(" + what + ")", x.next(what), y.next(what));
        }
        due("why()", x.why(), y.why());
        due("endsFirst()", x.endsFirst(), y.endsFirst());
        due("runsLeft()", x.runsLeft(), y.runsLeft());
        due("fault()", x.fault(), y.fault());
    }
}
