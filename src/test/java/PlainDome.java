import java.util.ArrayList;
import java.util.List;

/**
 * The document once more, as a second program that shares nothing with the first: trees of parts that are read by
 * descent, lists of groups that are sorted, states that are copied whole. LongRunsTest compares the two.
 */
final class PlainDome {
    private static final int NO_SUCH = -1, BAD_VALUE = -2, BAD_TEXT = -3, TOO_MANY = -4, NOT_POSSIBLE = -5, NONE = -6;

    private State state = new State();
    private String pad = "";
    private final List<State> history = new ArrayList<>();
    private final State[] slots = new State[2];

    private static final class Fault extends Exception {
        private static final long serialVersionUID = 1;
        final int index;

        Fault(int index) {
            this.index = index;
        }
    }

    /** A scene if inner is null, else a repeat of what is in it. */
    private static final class Part {
        String lamps = "";
        int number;
        List<Part> inner = null;
    }

    /** Reads by descent; the index at which it fails is the fault. */
    private static final class Parser {
        final String text;
        int index = 0;

        Parser(String text) {
            this.text = text;
        }

        static List<Part> parse(String text) throws Fault {
            Parser parser = new Parser(text);
            List<Part> show = parser.show(0);
            if (parser.index < text.length()) {
                throw new Fault(parser.index);
            }
            return show;
        }

        boolean sees(String some) {
            return index < text.length() && some.indexOf(text.charAt(index)) >= 0;
        }

        char need(String some) throws Fault {
            if (!sees(some)) {
                throw new Fault(index);
            }
            return text.charAt(index++);
        }

        List<Part> show(int depth) throws Fault {
            List<Part> parts = new ArrayList<>();
            parts.add(part(depth));
            while (sees(",")) {
                index++;
                parts.add(part(depth));
            }
            return parts;
        }

        Part part(int depth) throws Fault {
            Part part = new Part();
            if (sees("23456789") && depth < 4) {
                part.number = need("23456789") - '0';
                need("*");
                need("(");
                part.inner = show(depth + 1);
                need(")");
                return part;
            }
            part.lamps += need("abcdef");
            while (sees("abcdef")) {
                part.lamps += need("abcdef");
            }
            String digits = "" + need("123456789");
            if (sees("0123456789")) {
                digits += need("0123456789");
            }
            part.number = Integer.parseInt(digits);
            return part;
        }
    }

    private static long minutes(List<Part> show) {
        long sum = 0;
        for (Part part : show) {
            sum += part.inner == null ? part.number : part.number * minutes(part.inner);
        }
        return sum;
    }

    private static int scenes(List<Part> show) {
        int sum = 0;
        for (Part part : show) {
            sum += part.inner == null ? 1 : part.number * scenes(part.inner);
        }
        return sum;
    }

    private static int depth(List<Part> show) {
        int most = 0;
        for (Part part : show) {
            most = Math.max(most, part.inner == null ? 0 : 1 + depth(part.inner));
        }
        return most;
    }

    private static int litIn(List<Part> show, int lamp) {
        int sum = 0;
        for (Part part : show) {
            boolean on = part.lamps.indexOf('a' + lamp) >= 0;
            sum += part.inner == null ? (on ? part.number : 0) : part.number * litIn(part.inner, lamp);
        }
        return sum;
    }

    private static int lampsAt(List<Part> show, long minute) {
        long rest = minute;
        for (Part part : show) {
            long once = part.inner == null ? 1 : minutes(part.inner);
            long all = once * part.number;
            if (rest < all) {
                return part.inner == null ? setOf(part.lamps) : lampsAt(part.inner, rest % once);
            }
            rest -= all;
        }
        return NO_SUCH;
    }

    private static int setOf(String lamps) {
        int set = 0;
        for (char c : lamps.toCharArray()) {
            set |= 1 << (c - 'a');
        }
        return set;
    }

    private static final class Group {
        int number;
        int persons;
        int show;
        int time;
        boolean seen;
        int runs;

        Group copy() {
            Group copy = new Group();
            copy.number = number;
            copy.persons = persons;
            copy.show = show;
            copy.time = time;
            copy.seen = seen;
            copy.runs = runs;
            return copy;
        }

        static int compare(Group a, Group b) {
            return a.time != b.time ? Integer.compare(a.time, b.time) : Integer.compare(a.number, b.number);
        }
    }

    private static final class State {
        int[] settings = {600, 5, 50, 40, 5, 10};
        List<List<Part>> shows = new ArrayList<>();
        int[] runsOf = new int[4];
        int[] burned = new int[6];
        int[] fog = new int[6];
        int[] changed = new int[6];
        List<Group> groups = new ArrayList<>();
        int now = 0, coins = 0, runs = 0, foggy = 0;

        State() {
            for (int i = 0; i < 4; i++) {
                shows.add(null);
            }
        }

        State copy() {
            State copy = new State();
            copy.settings = settings.clone();
            copy.shows = new ArrayList<>(shows);
            copy.runsOf = runsOf.clone();
            copy.burned = burned.clone();
            copy.fog = fog.clone();
            copy.changed = changed.clone();
            for (Group group : groups) {
                copy.groups.add(group.copy());
            }
            copy.now = now;
            copy.coins = coins;
            copy.runs = runs;
            copy.foggy = foggy;
            return copy;
        }

        List<Group> queue() {
            List<Group> queue = new ArrayList<>();
            for (Group group : groups) {
                if (!group.seen) {
                    queue.add(group);
                }
            }
            queue.sort(Group::compare);
            return queue;
        }

        int begin() {
            return Math.max(now, queue().get(0).time);
        }

        List<Group> riders() {
            List<Group> queue = queue();
            Group first = queue.get(0);
            int begin = begin();
            List<Group> riders = new ArrayList<>();
            riders.add(first);
            int persons = first.persons;
            for (Group other : queue.subList(1, queue.size())) {
                if (other.show == first.show && other.time <= begin && persons + other.persons <= settings[3]) {
                    riders.add(other);
                    persons += other.persons;
                }
            }
            return riders;
        }

        int why() {
            List<Group> queue = queue();
            if (queue.isEmpty()) {
                return 1;
            }
            List<Part> show = shows.get(queue.get(0).show);
            if (show == null) {
                return 2;
            }
            if (queue.get(0).persons > settings[3]) {
                return 3;
            }
            for (int lamp = 0; lamp < 6; lamp++) {
                int lit = litIn(show, lamp);
                if (lit > 0 && burned[lamp] + lit > settings[0]) {
                    return 4;
                }
            }
            return 0;
        }

        boolean isFoggy() {
            List<Part> show = shows.get(queue().get(0).show);
            boolean foggy = false;
            for (int lamp = 0; lamp < 6; lamp++) {
                foggy |= litIn(show, lamp) > 0 && fog[lamp] / 10 >= settings[2];
            }
            return foggy;
        }

        int end() {
            return begin() + (int) minutes(shows.get(queue().get(0).show));
        }

        int run() {
            List<Group> riders = riders();
            boolean wasFoggy = isFoggy();
            int number = riders.get(0).show;
            now = end();
            int persons = 0;
            for (Group group : riders) {
                persons += group.persons;
                coins += group.runs == 0 ? group.persons * settings[4] : 0;
                group.runs++;
                if (wasFoggy) {
                    group.time = now + settings[5];
                } else {
                    group.seen = true;
                }
            }
            for (int lamp = 0; lamp < 6; lamp++) {
                int lit = litIn(shows.get(number), lamp);
                burned[lamp] += lit;
                for (int i = 0; i < lit; i++) {
                    fog[lamp] = Math.min(1000, fog[lamp] + settings[1]);
                }
            }
            runsOf[number]++;
            runs++;
            foggy += wasFoggy ? 1 : 0;
            return persons;
        }

        int waiting() {
            int set = 0;
            for (Group group : queue()) {
                set |= 1 << group.number;
            }
            return set;
        }
    }

    private void change() {
        history.add(state.copy());
        if (history.size() > 6) {
            history.remove(0);
        }
    }

    int set(int setting, int value) {
        int[][] ranges = {{1, 9999}, {0, 50}, {1, 100}, {1, 99}, {0, 99}, {0, 99}};
        if (setting < 0 || setting > 5 || value < ranges[setting][0] || value > ranges[setting][1]) {
            return BAD_VALUE;
        }
        change();
        int before = state.settings[setting];
        state.settings[setting] = value;
        return before;
    }

    int tell(int show) {
        if (show < 0 || show > 3) {
            return NO_SUCH;
        }
        List<Part> told;
        try {
            told = Parser.parse(pad);
        } catch (Fault fault) {
            return BAD_TEXT;
        }
        if (minutes(told) > 999) {
            return NOT_POSSIBLE;
        }
        change();
        state.shows.set(show, told);
        pad = "";
        return (int) minutes(told);
    }

    int group(int persons, int show, int time) {
        if (show < 0 || show > 3) {
            return NO_SUCH;
        }
        if (persons < 1 || persons > 60 || time < 0 || time > 9999) {
            return BAD_VALUE;
        }
        if (state.groups.size() == 20) {
            return TOO_MANY;
        }
        change();
        Group group = new Group();
        group.number = state.groups.size();
        group.persons = persons;
        group.show = show;
        group.time = time;
        state.groups.add(group);
        return group.number;
    }

    int lamp(int lamp) {
        if (lamp < 0 || lamp > 5) {
            return NO_SUCH;
        }
        change();
        int had = state.burned[lamp];
        state.burned[lamp] = 0;
        state.changed[lamp]++;
        return had;
    }

    int lens(int lamp) {
        if (lamp < 0 || lamp > 5) {
            return NO_SUCH;
        }
        change();
        int had = state.fog[lamp];
        state.fog[lamp] = 0;
        return had;
    }

    int run() {
        if (state.why() != 0 || state.end() > 99999) {
            return NOT_POSSIBLE;
        }
        change();
        return state.run();
    }

    int ofShow(int show, int what) {
        if (show < 0 || show > 3) {
            return NO_SUCH;
        }
        if (what < 0 || what > 4) {
            return BAD_VALUE;
        }
        List<Part> told = state.shows.get(show);
        if (what == 4) {
            return state.runsOf[show];
        }
        if (told == null) {
            return 0;
        }
        int lamps = 0;
        for (int lamp = 0; lamp < 6; lamp++) {
            lamps |= litIn(told, lamp) > 0 ? 1 << lamp : 0;
        }
        return new int[] {(int) minutes(told), lamps, scenes(told), depth(told)}[what];
    }

    int lit(int show, int lamp) {
        if (show < 0 || show > 3 || lamp < 0 || lamp > 5) {
            return NO_SUCH;
        }
        return state.shows.get(show) == null ? 0 : litIn(state.shows.get(show), lamp);
    }

    int at(int show, int minute) {
        if (show < 0 || show > 3 || minute < 0 || state.shows.get(show) == null) {
            return NO_SUCH;
        }
        return lampsAt(state.shows.get(show), minute);
    }

    int ofLamp(int lamp, int what) {
        if (lamp < 0 || lamp > 5) {
            return NO_SUCH;
        }
        if (what < 0 || what > 3) {
            return BAD_VALUE;
        }
        return new int[] {state.burned[lamp], left(lamp), state.fog[lamp], state.changed[lamp]}[what];
    }

    private int left(int lamp) {
        return state.burned[lamp] >= state.settings[0] ? 0 : state.settings[0] - state.burned[lamp];
    }

    int ofGroup(int group, int what) {
        if (group < 0 || group >= state.groups.size()) {
            return NO_SUCH;
        }
        if (what < 0 || what > 4) {
            return BAD_VALUE;
        }
        Group it = state.groups.get(group);
        return new int[] {it.persons, it.show, it.time, it.seen ? 1 : 0, it.runs}[what];
    }

    int count(int what) {
        if (what < 0 || what > 14) {
            return BAD_VALUE;
        }
        int told = 0;
        for (int show = 0; show < 4; show++) {
            told |= state.shows.get(show) != null ? 1 << show : 0;
        }
        int[] s = state.settings;
        return new int[] {state.now, state.groups.size(), state.waiting(), state.coins, state.runs, state.foggy, told,
            s[0], s[1], s[2], s[3], s[4], s[5], pad.length(), history.size()}[what];
    }

    int why() {
        return state.why();
    }

    int next(int what) {
        if (what < 0 || what > 3) {
            return BAD_VALUE;
        }
        if (why() >= 1 && why() <= 3) {
            return NOT_POSSIBLE;
        }
        int riders = 0;
        for (Group group : state.riders()) {
            riders |= 1 << group.number;
        }
        return new int[] {state.queue().get(0).show, riders, state.begin(), state.isFoggy() ? 1 : 0}[what];
    }

    int oftenOf(int show) {
        if (show < 0 || show > 3) {
            return NO_SUCH;
        }
        List<Part> told = state.shows.get(show);
        if (told == null) {
            return NONE;
        }
        int[] burned = state.burned.clone();
        int[] lit = new int[6];
        for (int lamp = 0; lamp < 6; lamp++) {
            lit[lamp] = litIn(told, lamp);
        }
        int often = 0;
        while (true) {
            for (int lamp = 0; lamp < 6; lamp++) {
                burned[lamp] += lit[lamp];
                if (lit[lamp] > 0 && burned[lamp] > state.settings[0]) {
                    return often;
                }
            }
            often++;
        }
    }

    int endsFirst() {
        for (int minutes = 0; minutes <= 9999; minutes++) {
            for (int lamp = 0; lamp < 6; lamp++) {
                if (left(lamp) == minutes) {
                    return lamp;
                }
            }
        }
        return 99;
    }

    int runsLeft() {
        State trial = state.copy();
        for (int runs = 0; runs < 50; runs++) {
            if (trial.why() != 0) {
                return runs;
            }
            trial.run();
        }
        return 50;
    }

    int put(long characters) {
        String text = "";
        boolean ended = false;
        for (int i = 0; i < 8; i++) {
            int code = (int) (characters >> (8 * i)) & 0xFF;
            if (code == 0) {
                ended = true;
            } else if (ended || code < 33 || code > 126) {
                return BAD_VALUE;
            } else {
                text = (char) code + text;
            }
        }
        if (text.isEmpty()) {
            return BAD_VALUE;
        }
        if (pad.length() + text.length() > 80) {
            return TOO_MANY;
        }
        pad += text;
        return pad.length();
    }

    int wipe() {
        int had = pad.length();
        pad = "";
        return had;
    }

    int fault() {
        try {
            Parser.parse(pad);
            return NONE;
        } catch (Fault fault) {
            return fault.index;
        }
    }

    int undo() {
        if (history.isEmpty()) {
            return NOT_POSSIBLE;
        }
        state = history.remove(history.size() - 1);
        return history.size();
    }

    int save(int slot) {
        if (slot < 0 || slot > 1) {
            return BAD_VALUE;
        }
        slots[slot] = state.copy();
        return Integer.bitCount(state.waiting());
    }

    int restore(int slot) {
        if (slot < 0 || slot > 1) {
            return BAD_VALUE;
        }
        if (slots[slot] == null) {
            return NOT_POSSIBLE;
        }
        change();
        state = slots[slot].copy();
        return Integer.bitCount(state.waiting());
    }
}
