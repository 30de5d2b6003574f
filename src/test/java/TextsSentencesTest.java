/** The sentences of 'Texts' and of promises 19, 20 and 21. */
public final class TextsSentencesTest {
    private static final int NONE = DomeLamps.NONE, BAD_VALUE = DomeLamps.BAD_VALUE, TOO_MANY = DomeLamps.TOO_MANY;
    /** A text of 80 characters, without a fault. */
    private static final String FULL = "a1,".repeat(26) + "a1";

    public static void main(String[] args) {
        padOf80();
        numbers();
        faultOfACharacter();
        faultOfADigit();
        faultOfADeepRepeat();
        faultOfATextThatEnds();
        grammar();
        putAppends();
        putOrder();
        putNoMoreCharacters();
        putOneToEight();
        putReturnsLength();
        putBadValue();
        putTooMany();
        wipe();
        faultNone();
        textsAreNoChanges();
        Due.end("TextsSentencesTest");
    }

    private static void padOf80() {
        Due.sentence("Texts: The pad is a text of at most 80 characters: a show.");
        DomeLamps x = new DomeLamps();
        Due.is("length of the text", FULL.length(), 80);
        Due.is("the empty pad", x.count(13), 0);
        Due.is("put of 80", Due.write(x, FULL), 80);
        Due.is("fault() of 80", x.fault(), NONE);
        Due.is("put of one more", x.put('1'), TOO_MANY);
        Due.is("the full pad", x.count(13), 80);
        Due.is("tell(0) of 80", x.tell(0), 27);
        Due.is("scenes of 80", x.ofShow(0, 2), 27);
    }

    private static void numbers() {
        Due.sentence("Texts: A number is 1 to 99, without leading zeros.");
        for (int number = 1; number <= 99; number++) {
            Due.faultOf("a" + number, NONE);
            Due.is("minutes of a" + number, Due.withShows("a" + number).ofShow(0, 0), number);
        }
        Due.faultOf("a0", 1);
        Due.faultOf("a00", 1);
        Due.faultOf("a01", 1);
        Due.faultOf("a09,b1", 1);
        Due.faultOf("a100", 3);
        Due.faultOf("a990", 3);
        Due.faultOf("a", 1);
        Due.faultOf("a,b1", 1);
        Due.faultOf("2*(a)", 4);
    }

    private static void faultOfACharacter() {
        Due.sentence("Texts: The fault is the index of the first character that cannot stand at its place when the text is read from left"
            + " to right");
        Due.faultOf("!", 0);
        Due.faultOf("~1", 0);
        Due.faultOf("1", 0);
        Due.faultOf(",", 0);
        Due.faultOf(")", 0);
        Due.faultOf("(", 0);
        Due.faultOf("*", 0);
        Due.faultOf("g1", 0);
        Due.faultOf("a1;b2", 2);
        Due.faultOf("a1,g2,h3", 3);
        Due.faultOf("a!b!c!", 1);
        Due.faultOf("a1)", 2);
        Due.faultOf("2*(a1))", 6);
        Due.faultOf("2*(a1)b1", 6);
        Due.faultOf(FULL.substring(0, 79) + "a", 80);
        Due.faultOf(FULL.substring(0, 79) + "*", 79);
        Due.faultOf("*" + FULL.substring(1), 0);
        Due.faultOf(FULL.substring(0, 40) + "?" + FULL.substring(41), 40);
    }

    private static void faultOfADigit() {
        Due.sentence("Texts: (also of a digit by which a number would be above 99,");
        Due.faultOf("a99", NONE);
        Due.faultOf("a100", 3);
        Due.faultOf("a999", 3);
        Due.faultOf("a1000", 3);
        Due.faultOf("a990", 3);
        Due.faultOf("a10,bc100", 8);
        Due.faultOf("2*(f100)", 6);
        Due.faultOf("2*(f99)", NONE);
        Due.faultOf("a1,".repeat(25) + "aa100", 79);
    }

    private static void faultOfADeepRepeat() {
        Due.sentence("Texts: or of the digit of a repeat that would be more than 4 deep);");
        Due.faultOf("2*(2*(2*(2*(a1))))", NONE);
        for (char digit = '2'; digit <= '9'; digit++) {
            Due.faultOf("2*(2*(2*(2*(" + digit + "*(a1)))))", 12);
            Due.faultOf("2*(2*(2*(2*(a1," + digit + "*(b1)))))", 15);
            Due.faultOf("2*(2*(2*(2*(" + digit, 12);
        }
        Due.faultOf("2*(2*(2*(a1,2*(b1),2*(c1))))", NONE);
        Due.faultOf("2*(2*(2*(a1,2*(b1),2*(2*(c1)))))", 22);
        Due.faultOf("2*(2*(2*(2*(a1)))),2*(2*(2*(2*(2*(a1)))))", 31);
        Due.faultOf("2*(2*(2*(2*(", 12);
        Due.faultOf("2*(2*(2*(2", 10);
        Due.faultOf("2*(2*(2*(2*", 11);
    }

    private static void faultOfATextThatEnds() {
        Due.sentence("Texts: if there is none and the text ends too early (also if it is empty), it is the length of the text.");
        Due.faultOf("", 0);
        String whole = "ab12,3*(c4,2*(d5))";
        boolean[] isWhole = new boolean[19];
        isWhole[3] = true;
        isWhole[4] = true;
        isWhole[18] = true;
        for (int length = 0; length <= whole.length(); length++) {
            Due.faultOf(whole.substring(0, length), isWhole[length] ? NONE : length);
        }
        String deep = "9*(8*(7*(6*(f1))))";
        for (int length = 0; length < deep.length(); length++) {
            Due.faultOf(deep.substring(0, length), length);
        }
        Due.faultOf(deep, NONE);
        Due.faultOf(FULL.substring(0, 79), 79);
        Due.faultOf("2*(" + "a1,".repeat(25) + "a1", 80);
        Due.faultOf("b" + "a1,".repeat(26) + "b", 80);
        Due.faultOf("bb" + "a1,".repeat(26), 80);
    }

    private static void grammar() {
        Due.sentence("Shows: show = part { \",\" part }; part = lamps number | digit \"*(\" show \")\"; lamps = lamp { lamp };"
            + " lamp = \"a\" to \"f\"");
        Due.faultOf("a1", NONE);
        Due.faultOf("a1,b1", NONE);
        Due.faultOf("a1,,b1", 3);
        Due.faultOf("a1,b1,", 6);
        Due.faultOf("a1b1", 2);
        Due.faultOf("12", 0);
        Due.faultOf("2", 1);
        Due.faultOf("2(a1)", 1);
        Due.faultOf("2*a1", 2);
        Due.faultOf("2*()", 3);
        Due.faultOf("2*(a1", 5);
        Due.faultOf("2*(a1),b1", NONE);
        Due.faultOf("2*(a1)b1", 6);
        Due.faultOf("2*(a1)1", 6);
        Due.faultOf("2*(a1,)", 6);
        Due.faultOf("2*(,a1)", 3);
        Due.faultOf("abcdeffedcba12", NONE);
        Due.faultOf("a".repeat(78) + "99", NONE);
        Due.faultOf("a".repeat(80), 80);
        Due.faultOf("ag1", 1);
        Due.faultOf("a`1", 1);
        Due.faultOf("(a1)", 0);
        Due.faultOf("a2*(b1)", 2);
        Due.faultOf("a2*3", 2);
    }

    private static void putAppends() {
        Due.sentence("Promise 19: Appends characters to the pad.");
        DomeLamps x = new DomeLamps();
        x.put('a');
        x.put('1');
        x.put(Due.coded(",b2,c3,d"));
        x.put(Due.coded("4"));
        Due.is("count(13)", x.count(13), 11);
        Due.is("tell(0)", x.tell(0), 10);
        int[] want = {1, 2, 2, 4, 4, 4, 8, 8, 8, 8};
        for (int minute = 0; minute < want.length; minute++) {
            Due.is("at(0, " + minute + ")", x.at(0, minute), want[minute]);
        }
    }

    private static void putOrder() {
        Due.sentence("Promise 19: They are given as a number: its lowest 8 bits are the last character, the next 8 bits the one before, and so on;");
        DomeLamps x = new DomeLamps();
        Due.is("put of a12", x.put('a' * 65536L + '1' * 256L + '2'), 3);
        Due.is("tell(0) of a12", x.tell(0), 12);
        x.put(((((((('b' * 256L + '2') * 256 + ',') * 256 + 'a') * 256 + '1') * 256 + ',') * 256 + 'f') * 256) + '3');
        Due.is("tell(0) of b2,a1,f3", x.tell(0), 6);
        int[] want = {2, 2, 1, 32, 32, 32};
        for (int minute = 0; minute < want.length; minute++) {
            Due.is("at(0, " + minute + ")", x.at(0, minute), want[minute]);
        }
    }

    private static void putNoMoreCharacters() {
        Due.sentence("Promise 19: 8 bits that are 0 mean that there are no more characters, and everything above them has to be 0, too.");
        DomeLamps x = new DomeLamps();
        long all = Due.coded("abcdefab");
        for (int many = 1; many <= 8; many++) {
            long some = many == 8 ? all : all & (1L << 8 * many) - 1;
            Due.is("put of " + many, x.put(some), many);
            x.wipe();
        }
        for (int many = 0; many <= 6; many++) {
            long some = all & (1L << 8 * many) - 1;
            for (int bit = 8 * many + 8; bit < 64; bit++) {
                Due.is("put of " + many + " with bit " + bit, x.put(some | 1L << bit), BAD_VALUE);
            }
        }
        Due.is("the pad behind errors", x.count(13), 0);
    }

    private static void putOneToEight() {
        Due.sentence("Promise 19: - `characters`: 1 to 8 characters");
        DomeLamps x = new DomeLamps();
        Due.is("put of none", x.put(0), BAD_VALUE);
        Due.is("put of 1", x.put(Due.coded("a")), 1);
        Due.is("put of 7", x.put(Due.coded("1,b2,c3")), 8);
        Due.is("put of 8", x.put(Due.coded(",d4,e5,f")), 16);
    }

    private static void putReturnsLength() {
        Due.sentence("Promise 19: Returns the length of the pad then;");
        DomeLamps x = new DomeLamps();
        for (int many = 1; many <= 10; many++) {
            Due.is("put of 8", x.put(Due.coded("a1,b2,c3")), 8 * many);
        }
        Due.is("count(13)", x.count(13), 80);
        x.wipe();
        Due.is("put behind wipe()", x.put(Due.coded("ab")), 2);
    }

    private static void putBadValue() {
        Due.sentence("Promise 19: BAD_VALUE if there is no character, a code is not 33 to 126, or a bit above 8 bits that are 0 is not 0;");
        for (int code = 0; code < 256; code++) {
            boolean good = code >= 33 && code <= 126;
            Due.is("put of code " + code, new DomeLamps().put(code), good ? 1 : BAD_VALUE);
        }
        DomeLamps x = new DomeLamps();
        int[] codes = {1, 32, 33, 126, 127, 128, 255};
        for (int place = 0; place < 8; place++) {
            for (int code : codes) {
                long characters = 0x6161616161616161L & ~(255L << 8 * place) | (long) code << 8 * place;
                boolean good = code >= 33 && code <= 126;
                Due.is("put of code " + code + " at " + place, x.put(characters), good ? 8 : BAD_VALUE);
                x.wipe();
            }
        }
    }

    private static void putTooMany() {
        Due.sentence("Promise 19: TOO_MANY if the pad would be longer than 80.");
        for (int room = 0; room <= 8; room++) {
            for (int many = 1; many <= 8; many++) {
                DomeLamps x = new DomeLamps();
                Due.write(x, FULL.substring(0, 80 - room));
                int want = many > room ? TOO_MANY : 80 - room + many;
                Due.is("put of " + many + " with room for " + room, x.put(Due.coded("abcdefab".substring(0, many))), want);
                Due.is("the pad behind it", x.count(13), many > room ? 80 - room : 80 - room + many);
            }
        }
        DomeLamps x = new DomeLamps();
        Due.write(x, FULL);
        Due.is("put of a bad code when the pad is full", x.put(127), BAD_VALUE);
        Due.is("put of none when the pad is full", x.put(0), BAD_VALUE);
        Due.is("fault() of the full pad", x.fault(), NONE);
    }

    private static void wipe() {
        Due.sentence("Promise 20: Empties the pad, and returns the length that it had.");
        int[] lengths = {0, 1, 8, 79, 80};
        DomeLamps x = new DomeLamps();
        for (int length : lengths) {
            Due.write(x, FULL.substring(0, length));
            Due.is("wipe() of " + length, x.wipe(), length);
            Due.is("count(13) behind it", x.count(13), 0);
            Due.is("fault() behind it", x.fault(), 0);
            Due.is("wipe() once more", x.wipe(), 0);
        }
        Due.told(x, 0, "b2", 2);
        Due.is("nothing is left of it", x.ofShow(0, 1), 2);
    }

    private static void faultNone() {
        Due.sentence("Promise 21: Returns the fault of the pad, NONE if there is none.");
        DomeLamps x = new DomeLamps();
        Due.is("fault() of the empty pad", x.fault(), 0);
        x.put(Due.coded("a"));
        Due.is("fault() of a", x.fault(), 1);
        x.put(Due.coded("1"));
        Due.is("fault() of a1", x.fault(), NONE);
        Due.is("fault() of a1, once more", x.fault(), NONE);
        x.put(Due.coded("1"));
        Due.is("fault() of a11", x.fault(), NONE);
        x.put(Due.coded("1"));
        Due.is("fault() of a111", x.fault(), 3);
        x.put(Due.coded(",b2"));
        Due.is("fault() of a111,b2", x.fault(), 3);
        x.wipe();
        Due.is("fault() behind wipe()", x.fault(), 0);
        Due.write(x, "9*(9*(9*(9*(a99))))");
        Due.is("fault() of more than 999 minutes", x.fault(), NONE);
    }

    private static void textsAreNoChanges() {
        Due.sentence("Terms: ---- texts.");
        Unchanged.by("fault()", Unchanged::busy, x -> x.fault(), NONE);
        Unchanged.by("fault() of a text that ends too early", Unchanged::busyWithFault, x -> x.fault(), 7);
        DomeLamps x = new DomeLamps();
        Unchanged.busy(x);
        String before = Answers.ofDome(x);
        Due.is("wipe()", x.wipe(), 6);
        Due.is("put", x.put(Due.coded("ab1,c2")), 6);
        Due.same("wipe() and put", Answers.ofDome(x), before);
        Due.is("changes behind them", x.count(14), 6);
        x = new DomeLamps();
        x.put('a');
        x.wipe();
        x.fault();
        Due.is("undo() of put, wipe and fault", x.undo(), DomeLamps.NOT_POSSIBLE);
    }
}
