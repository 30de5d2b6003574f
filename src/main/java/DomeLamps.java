import java.util.Arrays;

/** Shows in a dome: lamps that burn by the minute, lenses that fog, and groups that wait for a show. */
public final class DomeLamps {
    public static final int NO_SUCH = -1, BAD_VALUE = -2, BAD_TEXT = -3, TOO_MANY = -4, NOT_POSSIBLE = -5, NONE = -6;
    public static final int LIFE = 0, FOG = 1, DIM = 2, SEATS = 3, PRICE = 4, WAIT = 5;

    private static final int SETTINGS = 6;
    private static final int SHOWS = 4;
    private static final int LAMPS = 6;
    private static final int GROUPS = 20;
    private static final int SLOTS = 2;
    private static final int STATES_KEPT = 6;
    private static final int PAD_LENGTH = 80;
    private static final int PUT_LENGTH = 8;
    private static final int LONGEST_SHOW = 999;
    private static final int DEEPEST_REPEAT = 4;
    private static final int MOST_PERSONS = 60;
    private static final int LAST_ARRIVAL = 9999;
    private static final int LAST_TIME = 99999;
    private static final int MOST_FOG = 1000;
    private static final int MOST_RUNS_LEFT = 50;
    private static final int NOBODY = -1;

    /** Why a show cannot run; 0 if it can. */
    private static final int NO_GROUP_WAITS = 1, NOT_TOLD = 2, TOO_LARGE_A_GROUP = 3, LAMP_BURNS_TOO_LONG = 4;

    private static final int[] LEAST_VALUES = {1, 0, 1, 1, 0, 0};
    private static final int[] MOST_VALUES = {9999, 50, 100, 99, 99, 99};
    private static final int[] FIRST_VALUES = {600, 5, 50, 40, 5, 10};

    private final Dome dome;
    private final Dome trial;
    private final Pad pad;
    private final Reader reader;
    private final History history;
    private final Dome[] slots;
    private final boolean[] saved;

    public DomeLamps() {
        dome = new Dome();
        trial = new Dome();
        pad = new Pad();
        reader = new Reader();
        history = new History();
        slots = new Dome[SLOTS];
        for (int slot = 0; slot < SLOTS; slot++) {
            slots[slot] = new Dome();
        }
        saved = new boolean[SLOTS];
    }

    // ---- changes

    public int set(int setting, int value) {
        if (!isOneOf(setting, SETTINGS)) {
            return BAD_VALUE;
        }
        if (value < LEAST_VALUES[setting] || value > MOST_VALUES[setting]) {
            return BAD_VALUE;
        }
        history.record(dome);
        int previous = dome.settings[setting];
        dome.settings[setting] = value;
        return previous;
    }

    public int tell(int show) {
        if (!isOneOf(show, SHOWS)) {
            return NO_SUCH;
        }
        if (reader.read(pad) != NONE) {
            return BAD_TEXT;
        }
        if (reader.minutes > LONGEST_SHOW) {
            return NOT_POSSIBLE;
        }
        history.record(dome);
        dome.shows[show] = reader.laidOut();
        pad.length = 0;
        return reader.minutes;
    }

    public int group(int persons, int show, int time) {
        if (!isOneOf(show, SHOWS)) {
            return NO_SUCH;
        }
        if (persons < 1 || persons > MOST_PERSONS || time < 0 || time > LAST_ARRIVAL) {
            return BAD_VALUE;
        }
        if (dome.groups.size >= GROUPS) {
            return TOO_MANY;
        }
        history.record(dome);
        return dome.groups.add(persons, show, time);
    }

    public int lamp(int lamp) {
        if (!isOneOf(lamp, LAMPS)) {
            return NO_SUCH;
        }
        history.record(dome);
        int had = dome.lamps.burned[lamp];
        dome.lamps.burned[lamp] = 0;
        dome.lamps.changes[lamp]++;
        return had;
    }

    public int lens(int lamp) {
        if (!isOneOf(lamp, LAMPS)) {
            return NO_SUCH;
        }
        history.record(dome);
        int had = dome.lamps.fog[lamp];
        dome.lamps.fog[lamp] = 0;
        return had;
    }

    public int run() {
        if (dome.reason() != 0 || dome.nextEnd() > LAST_TIME) {
            return NOT_POSSIBLE;
        }
        history.record(dome);
        return dome.runNext();
    }

    // ---- what there is

    public int ofShow(int show, int what) {
        if (!isOneOf(show, SHOWS)) {
            return NO_SUCH;
        }
        if (!isOneOf(what, 5)) {
            return BAD_VALUE;
        }
        if (what == 4) {
            return dome.runsOf[show];
        }
        Show told = dome.shows[show];
        if (told == null) {
            return 0;
        }
        switch (what) {
            case 0: return told.minutes;
            case 1: return told.lamps;
            case 2: return told.scenes;
            default: return told.depth;
        }
    }

    public int lit(int show, int lamp) {
        if (!isOneOf(show, SHOWS) || !isOneOf(lamp, LAMPS)) {
            return NO_SUCH;
        }
        Show told = dome.shows[show];
        return told == null ? 0 : told.minutesOf[lamp];
    }

    public int at(int show, int minute) {
        if (!isOneOf(show, SHOWS)) {
            return NO_SUCH;
        }
        Show told = dome.shows[show];
        if (told == null || !isOneOf(minute, told.minutes)) {
            return NO_SUCH;
        }
        return told.lampsByMinute[minute];
    }

    public int ofLamp(int lamp, int what) {
        if (!isOneOf(lamp, LAMPS)) {
            return NO_SUCH;
        }
        switch (what) {
            case 0: return dome.lamps.burned[lamp];
            case 1: return dome.lamps.minutesLeft(lamp, dome.settings[LIFE]);
            case 2: return dome.lamps.fog[lamp];
            case 3: return dome.lamps.changes[lamp];
            default: return BAD_VALUE;
        }
    }

    public int ofGroup(int group, int what) {
        Groups groups = dome.groups;
        if (!isOneOf(group, groups.size)) {
            return NO_SUCH;
        }
        switch (what) {
            case 0: return groups.persons[group];
            case 1: return groups.shows[group];
            case 2: return groups.times[group];
            case 3: return groups.seen[group];
            case 4: return groups.runs[group];
            default: return BAD_VALUE;
        }
    }

    public int count(int what) {
        if (what >= 7 && what < 7 + SETTINGS) {
            return dome.settings[what - 7];
        }
        switch (what) {
            case 0: return dome.now;
            case 1: return dome.groups.size;
            case 2: return dome.groups.waiting();
            case 3: return dome.coins;
            case 4: return dome.runs;
            case 5: return dome.foggyRuns;
            case 6: return dome.toldShows();
            case 13: return pad.length;
            case 14: return history.size;
            default: return BAD_VALUE;
        }
    }

    // ---- what if; nothing changes

    public int why() {
        return dome.reason();
    }

    public int next(int what) {
        if (!isOneOf(what, 4)) {
            return BAD_VALUE;
        }
        int reason = dome.reason();
        if (reason != 0 && reason != LAMP_BURNS_TOO_LONG) {
            return NOT_POSSIBLE;
        }
        return dome.ofNextRun(what);
    }

    public int oftenOf(int show) {
        if (!isOneOf(show, SHOWS)) {
            return NO_SUCH;
        }
        Show told = dome.shows[show];
        if (told == null) {
            return NONE;
        }
        return dome.lamps.runsUntilEnd(told, dome.settings[LIFE]);
    }

    public int endsFirst() {
        return dome.lamps.firstToEnd(dome.settings[LIFE]);
    }

    public int runsLeft() {
        trial.copyFrom(dome);
        int runs = 0;
        while (runs < MOST_RUNS_LEFT && trial.reason() == 0) {
            trial.runNext();
            runs++;
        }
        return runs;
    }

    // ---- texts

    public int put(long characters) {
        int added = lengthOf(characters);
        if (added == 0) {
            return BAD_VALUE;
        }
        if (added > PAD_LENGTH - pad.length) {
            return TOO_MANY;
        }
        pad.append(characters, added);
        return pad.length;
    }

    public int wipe() {
        int had = pad.length;
        pad.length = 0;
        return had;
    }

    public int fault() {
        return reader.read(pad);
    }

    // ---- undo, saving

    public int undo() {
        if (history.size == 0) {
            return NOT_POSSIBLE;
        }
        history.takeBack(dome);
        return history.size;
    }

    public int save(int slot) {
        if (!isOneOf(slot, SLOTS)) {
            return BAD_VALUE;
        }
        slots[slot].copyFrom(dome);
        saved[slot] = true;
        return Integer.bitCount(dome.groups.waiting());
    }

    public int restore(int slot) {
        if (!isOneOf(slot, SLOTS)) {
            return BAD_VALUE;
        }
        if (!saved[slot]) {
            return NOT_POSSIBLE;
        }
        history.record(dome);
        dome.copyFrom(slots[slot]);
        return Integer.bitCount(dome.groups.waiting());
    }

    private static boolean isOneOf(int number, int many) {
        return number >= 0 && number < many;
    }

    /** How many characters the number holds, 0 if it may not be put. */
    private static int lengthOf(long characters) {
        long rest = characters;
        int length = 0;
        while (length < PUT_LENGTH && rest != 0) {
            // A code of 0 below a bit that is not 0 is refused here, too.
            int code = (int) (rest & 255);
            if (code < 33 || code > 126) {
                return 0;
            }
            rest = rest >>> 8;
            length++;
        }
        return length;
    }

    /** The text that is being written. */
    private static final class Pad {
        final char[] characters = new char[PAD_LENGTH];
        int length;

        /** Appends so many characters, of which the lowest 8 bits are the last; there is room for them. */
        void append(long added, int many) {
            for (int left = many - 1; left >= 0 && length < PAD_LENGTH; left--) {
                characters[length] = (char) (added >>> (8 * left) & 255);
                length++;
            }
        }
    }

    /** Reads a text from left to right, and lays its show out minute by minute as it goes. */
    private static final class Reader {
        /** What was read last, which says what may follow. */
        private static final int NO_PART = 0, LAMP = 1, ONE_DIGIT = 2, TWO_DIGITS = 3, REPEAT = 4, STAR = 5, BRACKET = 6;

        private final byte[] lampsByMinute = new byte[LONGEST_SHOW];
        private final int[] repeats = new int[DEEPEST_REPEAT];
        private final int[] minutesBefore = new int[DEEPEST_REPEAT];
        private final int[] scenesBefore = new int[DEEPEST_REPEAT];
        private int last;
        private int depth;
        private int deepest;
        private int lamps;
        private int number;
        private int scenes;
        /** May be above LONGEST_SHOW: the minutes that are too many are counted, not laid out. */
        int minutes;

        /** The fault of the text, NONE if there is none. */
        int read(Pad pad) {
            clear();
            for (int i = 0; i < pad.length && i < PAD_LENGTH; i++) {
                if (!takes(pad.characters[i])) {
                    return i;
                }
            }
            if (depth > 0 || !isBehindPart()) {
                return pad.length;
            }
            endScene();
            return NONE;
        }

        /** The show of the text that was read, which has no fault and lasts no longer than a show may. */
        Show laidOut() {
            int length = Math.min(minutes, LONGEST_SHOW);
            return new Show(Arrays.copyOf(lampsByMinute, length), scenes, deepest);
        }

        private void clear() {
            last = NO_PART;
            depth = 0;
            deepest = 0;
            lamps = 0;
            number = 0;
            scenes = 0;
            minutes = 0;
        }

        private boolean isBehindPart() {
            return last == ONE_DIGIT || last == TWO_DIGITS || last == BRACKET;
        }

        /** Whether the character can stand here; if so, it is read. */
        private boolean takes(char c) {
            switch (last) {
                case NO_PART: return takesLamp(c) || takesRepeat(c);
                case LAMP: return takesLamp(c) || takesFirstDigit(c);
                case ONE_DIGIT: return takesSecondDigit(c) || takesEndOfPart(c);
                case REPEAT: return takesStar(c);
                case STAR: return takesOpening(c);
                default: return takesEndOfPart(c);
            }
        }

        private boolean takesLamp(char c) {
            if (c < 'a' || c > 'f') {
                return false;
            }
            lamps |= 1 << (c - 'a');
            last = LAMP;
            return true;
        }

        private boolean takesRepeat(char c) {
            if (c < '2' || c > '9' || depth >= DEEPEST_REPEAT) {
                return false;
            }
            repeats[depth] = c - '0';
            last = REPEAT;
            return true;
        }

        private boolean takesStar(char c) {
            if (c != '*') {
                return false;
            }
            last = STAR;
            return true;
        }

        private boolean takesOpening(char c) {
            if (c != '(' || depth >= DEEPEST_REPEAT) {
                return false;
            }
            minutesBefore[depth] = minutes;
            scenesBefore[depth] = scenes;
            depth++;
            deepest = Math.max(deepest, depth);
            last = NO_PART;
            return true;
        }

        private boolean takesFirstDigit(char c) {
            if (c < '1' || c > '9') {
                return false;
            }
            number = c - '0';
            last = ONE_DIGIT;
            return true;
        }

        private boolean takesSecondDigit(char c) {
            if (c < '0' || c > '9') {
                return false;
            }
            number = 10 * number + c - '0';
            last = TWO_DIGITS;
            return true;
        }

        private boolean takesEndOfPart(char c) {
            if (c == ',') {
                endScene();
                last = NO_PART;
                return true;
            }
            if (c == ')' && depth > 0) {
                endScene();
                endRepeat();
                last = BRACKET;
                return true;
            }
            return false;
        }

        /** Lays out the scene whose number was read last; behind a repeat there is none. */
        private void endScene() {
            if (last == BRACKET) {
                return;
            }
            int end = minutes + number;
            for (int minute = minutes; minute < end && minute < LONGEST_SHOW; minute++) {
                lampsByMinute[minute] = (byte) lamps;
            }
            minutes = end;
            scenes++;
            lamps = 0;
        }

        /** Lays out again what is in the innermost repeat, which was laid out once. */
        private void endRepeat() {
            depth--;
            int more = repeats[depth] - 1;
            int length = minutes - minutesBefore[depth];
            int end = minutes + more * length;
            for (int minute = minutes; minute < end && minute < LONGEST_SHOW; minute++) {
                lampsByMinute[minute] = lampsByMinute[minute - length];
            }
            minutes = end;
            scenes += more * (scenes - scenesBefore[depth]);
        }
    }

    /** A show that was told; it never changes, so that several states may hold it. */
    private static final class Show {
        final byte[] lampsByMinute;
        final int[] minutesOf = new int[LAMPS];
        final int minutes;
        final int scenes;
        final int depth;
        final int lamps;

        Show(byte[] row, int manyScenes, int deepest) {
            lampsByMinute = row;
            minutes = row.length;
            scenes = manyScenes;
            depth = deepest;
            int set = 0;
            for (int minute = 0; minute < row.length; minute++) {
                set |= row[minute];
                for (int lamp = 0; lamp < LAMPS; lamp++) {
                    minutesOf[lamp] += row[minute] >> lamp & 1;
                }
            }
            lamps = set;
        }

        boolean lights(int lamp) {
            return minutesOf[lamp] > 0;
        }
    }

    /** The lamps, with their lenses. */
    private static final class Lamps {
        final int[] burned = new int[LAMPS];
        final int[] fog = new int[LAMPS];
        final int[] changes = new int[LAMPS];

        void copyFrom(Lamps other) {
            System.arraycopy(other.burned, 0, burned, 0, LAMPS);
            System.arraycopy(other.fog, 0, fog, 0, LAMPS);
            System.arraycopy(other.changes, 0, changes, 0, LAMPS);
        }

        int minutesLeft(int lamp, int life) {
            return Math.max(0, life - burned[lamp]);
        }

        int firstToEnd(int life) {
            int first = 0;
            for (int lamp = 1; lamp < LAMPS; lamp++) {
                if (minutesLeft(lamp, life) < minutesLeft(first, life)) {
                    first = lamp;
                }
            }
            return first;
        }

        /** How often the show can run until one of its lamps would burn too long. */
        int runsUntilEnd(Show show, int life) {
            int fewest = life;
            for (int lamp = 0; lamp < LAMPS; lamp++) {
                if (show.lights(lamp)) {
                    fewest = Math.min(fewest, minutesLeft(lamp, life) / show.minutesOf[lamp]);
                }
            }
            return fewest;
        }

        boolean isFoggy(Show show, int dim) {
            for (int lamp = 0; lamp < LAMPS; lamp++) {
                if (show.lights(lamp) && fog[lamp] / 10 >= dim) {
                    return true;
                }
            }
            return false;
        }

        void burn(Show show, int fogOfMinute) {
            for (int lamp = 0; lamp < LAMPS; lamp++) {
                int minutes = show.minutesOf[lamp];
                burned[lamp] += minutes;
                fog[lamp] = Math.min(MOST_FOG, fog[lamp] + fogOfMinute * minutes);
            }
        }
    }

    /** The groups, in the order in which they came. */
    private static final class Groups {
        final int[] persons = new int[GROUPS];
        final int[] shows = new int[GROUPS];
        final int[] times = new int[GROUPS];
        final int[] seen = new int[GROUPS];
        final int[] runs = new int[GROUPS];
        int size;

        void copyFrom(Groups other) {
            System.arraycopy(other.persons, 0, persons, 0, GROUPS);
            System.arraycopy(other.shows, 0, shows, 0, GROUPS);
            System.arraycopy(other.times, 0, times, 0, GROUPS);
            System.arraycopy(other.seen, 0, seen, 0, GROUPS);
            System.arraycopy(other.runs, 0, runs, 0, GROUPS);
            size = other.size;
        }

        /** Adds a group, for which there is room, and returns its number. */
        int add(int manyPersons, int show, int time) {
            int added = size;
            persons[added] = manyPersons;
            shows[added] = show;
            times[added] = time;
            seen[added] = 0;
            runs[added] = 0;
            size++;
            return added;
        }

        int waiting() {
            int set = 0;
            for (int i = 0; i < size; i++) {
                if (seen[i] == 0) {
                    set |= 1 << i;
                }
            }
            return set;
        }

        /** The group of the set with the earliest time, of several the lowest one; NOBODY if the set is empty. */
        int earliest(int set) {
            int first = NOBODY;
            for (int i = 0; i < size; i++) {
                if (holds(set, i) && (first == NOBODY || times[i] < times[first])) {
                    first = i;
                }
            }
            return first;
        }

        /** The groups that find seats in a run of the show, as a set. */
        int seated(int show, int begin, int seats) {
            int rest = waitingFor(show, begin);
            int free = seats;
            int set = 0;
            for (int tries = 0; tries < size && rest != 0; tries++) {
                int group = earliest(rest);
                if (group == NOBODY) {
                    return set;
                }
                rest &= ~(1 << group);
                if (persons[group] <= free) {
                    free -= persons[group];
                    set |= 1 << group;
                }
            }
            return set;
        }

        int personsIn(int set) {
            int sum = 0;
            for (int i = 0; i < size; i++) {
                if (holds(set, i)) {
                    sum += persons[i];
                }
            }
            return sum;
        }

        /** The persons of those groups of the set that were in no run so far. */
        int newPersonsIn(int set) {
            int sum = 0;
            for (int i = 0; i < size; i++) {
                if (holds(set, i) && runs[i] == 0) {
                    sum += persons[i];
                }
            }
            return sum;
        }

        void countRun(int set) {
            for (int i = 0; i < size; i++) {
                if (holds(set, i)) {
                    runs[i]++;
                }
            }
        }

        void goHome(int set) {
            for (int i = 0; i < size; i++) {
                if (holds(set, i)) {
                    seen[i] = 1;
                }
            }
        }

        void waitFrom(int set, int time) {
            for (int i = 0; i < size; i++) {
                if (holds(set, i)) {
                    times[i] = time;
                }
            }
        }

        private int waitingFor(int show, int latest) {
            int set = 0;
            for (int i = 0; i < size; i++) {
                if (seen[i] == 0 && shows[i] == show && times[i] <= latest) {
                    set |= 1 << i;
                }
            }
            return set;
        }

        private static boolean holds(int set, int group) {
            return (set >> group & 1) == 1;
        }
    }

    /** All that undo and the slots keep. */
    private static final class Dome {
        final int[] settings = FIRST_VALUES.clone();
        /** A show that is not told is null. */
        final Show[] shows = new Show[SHOWS];
        final int[] runsOf = new int[SHOWS];
        final Lamps lamps = new Lamps();
        final Groups groups = new Groups();
        int now;
        int coins;
        int runs;
        int foggyRuns;

        void copyFrom(Dome other) {
            System.arraycopy(other.settings, 0, settings, 0, SETTINGS);
            for (int show = 0; show < SHOWS; show++) {
                shows[show] = other.shows[show];
            }
            System.arraycopy(other.runsOf, 0, runsOf, 0, SHOWS);
            lamps.copyFrom(other.lamps);
            groups.copyFrom(other.groups);
            now = other.now;
            coins = other.coins;
            runs = other.runs;
            foggyRuns = other.foggyRuns;
        }

        int toldShows() {
            int set = 0;
            for (int show = 0; show < SHOWS; show++) {
                if (shows[show] != null) {
                    set |= 1 << show;
                }
            }
            return set;
        }

        /** Why a show cannot run, 0 if it can. */
        int reason() {
            int first = firstGroup();
            if (first == NOBODY) {
                return NO_GROUP_WAITS;
            }
            Show show = shows[groups.shows[first]];
            if (show == null) {
                return NOT_TOLD;
            }
            if (groups.persons[first] > settings[SEATS]) {
                return TOO_LARGE_A_GROUP;
            }
            return lamps.runsUntilEnd(show, settings[LIFE]) > 0 ? 0 : LAMP_BURNS_TOO_LONG;
        }

        /** What next(what) tells, where a group waits for a show that is told. */
        int ofNextRun(int what) {
            int first = firstGroup();
            if (first == NOBODY) {
                return NOT_POSSIBLE;
            }
            Show show = shows[groups.shows[first]];
            if (show == null) {
                return NOT_POSSIBLE;
            }
            switch (what) {
                case 0: return groups.shows[first];
                case 1: return groupsWith(first);
                case 2: return beginWith(first);
                default: return lamps.isFoggy(show, settings[DIM]) ? 1 : 0;
            }
        }

        /** When the next run would end; the time of now if there is none. */
        int nextEnd() {
            int first = firstGroup();
            if (first == NOBODY) {
                return now;
            }
            Show show = shows[groups.shows[first]];
            return show == null ? now : beginWith(first) + show.minutes;
        }

        /** Runs the next show, which can run, and returns how many persons are in it. */
        int runNext() {
            int first = firstGroup();
            if (first == NOBODY) {
                return 0;
            }
            int number = groups.shows[first];
            Show show = shows[number];
            if (show == null) {
                return 0;
            }
            int inIt = groupsWith(first);
            boolean foggy = lamps.isFoggy(show, settings[DIM]);
            now = beginWith(first) + show.minutes;
            runsOf[number]++;
            runs++;
            lamps.burn(show, settings[FOG]);
            coins += groups.newPersonsIn(inIt) * settings[PRICE];
            groups.countRun(inIt);
            if (foggy) {
                foggyRuns++;
                groups.waitFrom(inIt, now + settings[WAIT]);
            } else {
                groups.goHome(inIt);
            }
            return groups.personsIn(inIt);
        }

        /** The first group of the next run, NOBODY if none waits. */
        private int firstGroup() {
            return groups.earliest(groups.waiting());
        }

        private int beginWith(int first) {
            return Math.max(now, groups.times[first]);
        }

        private int groupsWith(int first) {
            return groups.seated(groups.shows[first], beginWith(first), settings[SEATS]);
        }
    }

    /** The states before the latest changes, in a ring. */
    private static final class History {
        private final Dome[] states = new Dome[STATES_KEPT];
        private int oldest;
        int size;

        History() {
            for (int i = 0; i < STATES_KEPT; i++) {
                states[i] = new Dome();
            }
        }

        void record(Dome dome) {
            states[(oldest + size) % STATES_KEPT].copyFrom(dome);
            if (size < STATES_KEPT) {
                size++;
            } else {
                oldest = (oldest + 1) % STATES_KEPT;
            }
        }

        /** Puts the latest state back, if there is one. */
        void takeBack(Dome dome) {
            if (size > 0) {
                size--;
                dome.copyFrom(states[(oldest + size) % STATES_KEPT]);
            }
        }
    }
}
