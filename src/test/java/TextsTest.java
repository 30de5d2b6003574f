/** Promises 19 to 21: texts. */
public final class TextsTest {
    public static void main(String[] args) {
        promise19Put();
        promise19Bad();
        promise19TooMany();
        promise20Wipe();
        promise21Fault();
        promise21EachPlace();
        promise21Depth();
        Due.end("TextsTest");
    }

    private static void promise19Put() {
        DomeLamps x = new DomeLamps();
        Due.is("put('a')", x.put('a'), 1);
        Due.is("put of \"b1\"", x.put('b' << 8 | '1'), 3);
        Due.is("count(13)", x.count(13), 3);
        Due.is("tell(0)", x.tell(0), 1);
        Due.is("the lowest is the last", x.ofShow(0, 1), 3);
        Due.is("put of 8", x.put(Due.coded("a1,2*(b1")), 8);
        Due.is("put of ')'", x.put(')'), 9);
        Due.is("tell(0)", x.tell(0), 3);
        Due.is("put of the least code", x.put(33), 1);
        Due.is("put of the greatest code", x.put(126), 2);
        Due.is("put of 8 of the greatest code", x.put(0x7E7E7E7E7E7E7E7EL), 10);
        Due.is("put of 8 of the least code", x.put(0x2121212121212121L), 18);
        Due.is("put is not a change", x.count(14), 2);
    }

    private static void promise19Bad() {
        DomeLamps x = new DomeLamps();
        long[] bad = {0, 32, 127, 128, 255, -1, Long.MIN_VALUE, Long.MAX_VALUE, 0x6100, 0x610061, 0x6161616161616120L,
            0x2061616161616161L, 0x7F61616161616161L, 0x8061616161616161L, 0xE161616161616161L, 0x6100000000000000L,
            0x0100000000000061L, 0x8000000000000061L, 0x6100616161616161L, 0x0061006161616161L, 0x100000000L, 0x617F61L};
        for (int i = 0; i < bad.length; i++) {
            Due.is("put(" + bad[i] + ")", x.put(bad[i]), DomeLamps.BAD_VALUE);
        }
        Due.is("the pad behind errors", x.count(13), 0);
        Due.is("put of 7", x.put(0x0061616161616161L), 7);
    }

    private static void promise19TooMany() {
        DomeLamps x = new DomeLamps();
        for (int i = 1; i <= 9; i++) {
            Due.is("put of 8", x.put(Due.coded("a1,b2,c3")), 8 * i);
        }
        Due.is("put of 7", x.put(Due.coded("d4,e5,f")), 79);
        Due.is("put of 2", x.put(Due.coded("12")), DomeLamps.TOO_MANY);
        Due.is("put of none", x.put(0), DomeLamps.BAD_VALUE);
        Due.is("put of a bad one", x.put(0x2061), DomeLamps.BAD_VALUE);
        Due.is("put of 1", x.put('6'), 80);
        Due.is("put of 1", x.put('6'), DomeLamps.TOO_MANY);
        Due.is("put of 8", x.put(Due.coded("a1,b2,c3")), DomeLamps.TOO_MANY);
        Due.is("put of a bad one", x.put(255), DomeLamps.BAD_VALUE);
        Due.is("count(13)", x.count(13), 80);
    }

    private static void promise20Wipe() {
        DomeLamps x = new DomeLamps();
        Due.is("wipe() of nothing", x.wipe(), 0);
        Due.write(x, "a1,b2,c3,d4");
        Due.is("wipe()", x.wipe(), 11);
        Due.is("count(13)", x.count(13), 0);
        Due.is("fault()", x.fault(), 0);
        Due.is("wipe() once more", x.wipe(), 0);
        Due.is("wipe is not a change", x.count(14), 0);
        Due.told(x, 0, "b2", 2);
        Due.is("nothing is left of what was wiped", x.ofShow(0, 1), 2);
        Due.write(x, "9*(9*(cd");
        Due.is("fault()", x.fault(), 8);
        x.wipe();
        Due.told(x, 0, "2*(f3)", 6);
        Due.is("lamps behind a text with a fault", x.ofShow(0, 1), 32);
        Due.is("depth behind it", x.ofShow(0, 3), 1);
    }

    private static void promise21Fault() {
        Due.faultOf("", 0);
        Due.faultOf("a1", DomeLamps.NONE);
        Due.faultOf("a", 1);
        Due.faultOf("a99", DomeLamps.NONE);
        Due.faultOf("a100", 3);
        Due.faultOf("a999", 3);
        Due.faultOf("a10", DomeLamps.NONE);
        Due.faultOf("a0", 1);
        Due.faultOf("a01", 1);
        Due.faultOf("1", 0);
        Due.faultOf("0", 0);
        Due.faultOf("1*(a1)", 0);
        Due.faultOf("2", 1);
        Due.faultOf("2*", 2);
        Due.faultOf("2*(", 3);
        Due.faultOf("2*()", 3);
        Due.faultOf("2*(a1", 5);
        Due.faultOf("2*(a1)", DomeLamps.NONE);
        Due.faultOf("2*(a1))", 6);
        Due.faultOf("2(a1)", 1);
        Due.faultOf("22*(a1)", 1);
        Due.faultOf("2**(a1)", 2);
        Due.faultOf("2*a1", 2);
        Due.faultOf("2*(a1)2", 6);
        Due.faultOf("2*(a1)a1", 6);
        Due.faultOf("2*(a1),", 7);
        Due.faultOf("2*(a1),,", 7);
        Due.faultOf("2*(a1,)", 6);
        Due.faultOf("2*(a)", 4);
        Due.faultOf("a1,", 3);
        Due.faultOf("a1,,b1", 3);
        Due.faultOf(",a1", 0);
        Due.faultOf("a1)", 2);
        Due.faultOf("a1b1", 2);
        Due.faultOf("a12b1", 3);
        Due.faultOf("a1*(b1)", 2);
        Due.faultOf("abcdef1", DomeLamps.NONE);
        Due.faultOf("fffaaa1", DomeLamps.NONE);
        Due.faultOf("g1", 0);
        Due.faultOf("ag1", 1);
        Due.faultOf("A1", 0);
        Due.faultOf("`1", 0);
        Due.faultOf("a/", 1);
        Due.faultOf("a:", 1);
        Due.faultOf("a1/", 2);
        Due.faultOf("a1:", 2);
        Due.faultOf("9*(9*(9*(9*(f99))))", DomeLamps.NONE);
        Due.faultOf("a,1", 1);
        Due.faultOf("a1+b1", 2);
        DomeLamps x = new DomeLamps();
        Due.write(x, "ab");
        Due.is("fault() changes nothing", x.fault(), 2);
        Due.is("fault() changes nothing", x.fault(), 2);
        Due.is("count(13)", x.count(13), 2);
        Due.is("count(14)", x.count(14), 0);
    }

    /** Every character at every kind of place, against what the place takes. */
    private static void promise21EachPlace() {
        String[] before = {"", "a", "a1", "a12", "2", "2*", "2*(", "2*(a", "2*(a1", "2*(a12", "2*(a1)", "2*(a1,", "a1,"};
        String lamps = "abcdef", repeats = "23456789", firsts = "123456789", digits = "0123456789";
        String[] taken = {lamps + repeats, lamps + firsts, digits + ",", ",", "*", "(", lamps + repeats, lamps + firsts,
            digits + ",)", ",)", ",", lamps + repeats, lamps + repeats};
        for (int i = 0; i < before.length; i++) {
            for (char c = 33; c <= 126; c++) {
                int length = before[i].length();
                DomeLamps x = new DomeLamps();
                Due.write(x, before[i] + c);
                boolean isFault = x.fault() == length;
                boolean stands = taken[i].indexOf(c) >= 0;
                Due.is("'" + c + "' stands behind '" + before[i] + "'", isFault ? 0 : 1, stands ? 1 : 0);
            }
        }
    }

    private static void promise21Depth() {
        Due.faultOf("2*(2*(2*(2*(2*(a1)))))", 12);
        Due.faultOf("2*(2*(2*(2*(a1,2*(b1)))))", 15);
        Due.faultOf("2*(2*(2*(2*(a1),2*(b1),2*(c1))))", DomeLamps.NONE);
        Due.faultOf("2*(2*(2*(2*(a1)))),2*(2*(2*(2*(b1))))", DomeLamps.NONE);
        Due.faultOf("2*(2*(2*(2*(", 12);
        Due.faultOf("2*(2*(2*(2*(9", 12);
        Due.faultOf("2*(2*(2*(2*(a1))))", DomeLamps.NONE);
        Due.faultOf("2*(2*(2*(2*(a1)))", 17);
        Due.faultOf("2*(2*(2*(2*(a1)))))", 18);
        String full = "a1,b2,c3,d4,e5,f6,a1,b2,c3,d4,e5,f6,a1,b2,c3,d4,e5,f6,a1,b2,c3,d4,e5,f6,a1,b2,c3";
        Due.is("length of the longest text", full.length(), 80);
        Due.faultOf(full, DomeLamps.NONE);
        Due.faultOf(full.substring(0, 79), 79);
        Due.faultOf(full.substring(0, 79) + ",", 79);
        Due.faultOf(full.substring(0, 77) + ",2*", 80);
    }
}
