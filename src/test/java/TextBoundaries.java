/** Boundaries of the pad and of its texts: promises 20 to 23. */
final class TextBoundaries extends Boundaries {
    private static final String DIGITS = "0123456789";
    private static final String TO_7 = "01234567";
    private static final String TO_6 = "0123456";
    private static final String ORDERS = "sltrpx";

    TextBoundaries(Due due, Sentences says) {
        super(due, says);
    }

    @Override
    void all() {
        putFew();
        putCodes();
        putBehindZero();
        putInOrder();
        putFull();
        wipe();
        faultOfEachCharacter();
        faultAtTheEnd();
        numbers();
        leftOut();
        grammar();
        carryOut();
        carryOutUpToError();
        carryOutIsOneChange();
        carryOutErrors();
        faultStays();
    }

    /** A text that is carried out in full on a new line: 16 orders, 79 characters. */
    private static String longText() {
        StringBuilder text = new StringBuilder("t0=1");
        for (int order = 1; order < 16; order++) {
            text.append(";t").append(order % 8).append('=').append(1 + order % 4);
        }
        return text.toString();
    }

    private static PassingTrack padOf(String text) {
        PassingTrack x = new PassingTrack();
        Texts.putAll(x, text);
        return x;
    }

    private void putFew() {
        says.promise(20, "- `characters`: 1 to 8 characters", () -> {
            String eight = "abcdefgh";
            for (int length = 1; length <= 8; length++) {
                due.is("put of " + length, new PassingTrack().put(Texts.packed(eight.substring(0, length))), length);
            }
        });
        says.promise(20, "BAD_VALUE if there is no character", () -> {
            PassingTrack x = new PassingTrack();
            due.is("put(0)", x.put(0), BAD_VALUE);
            due.is("count(2)", x.count(2), 0);
        });
    }

    private void putCodes() {
        says.promise(20, "a code is not 33 to 126", () -> {
            for (int length = 1; length <= 8; length++) {
                for (int place = 0; place < length; place++) {
                    for (int code = 1; code < 256; code++) {
                        long others = Texts.packed("aaaaaaaa") >>> 8 * (8 - length) & ~(255L << 8 * place);
                        int got = new PassingTrack().put(others | (long) code << 8 * place);
                        due.is("put of " + length + " with " + code + " at " + place, got, code >= 33 && code <= 126 ? length : BAD_VALUE);
                    }
                }
            }
        });
    }

    private void putBehindZero() {
        says.promise(20, "8 bits that are 0 mean that there are no more characters, and everything above them has to be 0, too.", () -> {
            due.is("nothing above", new PassingTrack().put(0x61L), 1);
            for (int place = 0; place < 7; place++) {
                long below = Texts.packed("aaaaaaaa") & (1L << 8 * place) - 1;
                for (int bit = 8 * place + 8; bit < 64; bit++) {
                    due.is("0 at " + place + ", bit " + bit, new PassingTrack().put(below | 1L << bit), BAD_VALUE);
                }
                due.is("0 at " + place + ", a character above", new PassingTrack().put(below | 0x61L << 8 * place + 8), BAD_VALUE);
            }
            due.is("the lowest long", new PassingTrack().put(Long.MIN_VALUE), BAD_VALUE);
            due.is("all bits", new PassingTrack().put(-1L), BAD_VALUE);
        });
    }

    private void putInOrder() {
        says.promise(20, "its lowest 8 bits are the last character, the next 8 bits the one before, and so on", () -> {
            PassingTrack x = new PassingTrack();
            due.is("put of 8", x.put(0x73313E3640313233L), 8);
            due.is("put of 6", x.put(0x2B31345E3537L), 14);
            due.is("fault() of s1>6@123+14^57", x.fault(), 13);
            x.wipe();
            x.put(0x73313E3640313233L);
            due.is("put of 5", x.put(0x2B31345E35L), 13);
            due.is("carryOut() of s1>6@123+14^5", x.carryOut(), 1);
            madeWith(x, 0, 1, 6, 123, 14, 5);
        });
        says.promise(20, "Appends characters to the pad.", () -> {
            PassingTrack x = new PassingTrack();
            String text = "t7=4;r6=30";
            for (int place = 0; place < text.length(); place++) {
                due.is("put of one", x.put(text.charAt(place)), place + 1);
            }
            due.is("carryOut()", x.carryOut(), 2);
            due.is("count(11)", x.count(11), 4);
            due.is("count(18)", x.count(18), 30);
        });
    }

    private void putFull() {
        says.promise(20, "TOO_MANY if the pad would be longer than 80.", () -> {
            for (int length = 1; length <= 8; length++) {
                long characters = Texts.packed("!!!!!!!!".substring(0, length));
                PassingTrack just = padOf("~".repeat(80 - length));
                due.is("put of " + length + ": 80", just.put(characters), 80);
                due.is("put of " + length + " at 80", just.put(characters), TOO_MANY);
                due.is("count(2)", just.count(2), 80);
                PassingTrack over = padOf("~".repeat(81 - length));
                due.is("put of " + length + ": 81", over.put(characters), TOO_MANY);
                due.is("count(2)", over.count(2), 81 - length);
            }
        });
        says.promise(20, "Returns the length of the pad then; BAD_VALUE if there is no character, a code is not 33 to 126, or a bit above"
            + " 8 bits that are 0 is not 0; TOO_MANY", () -> {
            PassingTrack full = padOf("a".repeat(80));
            due.is("no character", full.put(0), BAD_VALUE);
            due.is("a code of 32", full.put(32), BAD_VALUE);
            due.is("a code of 127", full.put(127), BAD_VALUE);
            due.is("a bit above", full.put(0x610061L), BAD_VALUE);
            due.is("nothing wrong", full.put(0x61L), TOO_MANY);
        });
        says.terms("The pad is a text of at most 80 characters", () -> {
            PassingTrack x = padOf(longText());
            due.is("79 characters", x.count(2), 79);
            due.is("fault()", x.fault(), NONE);
            due.is("carryOut()", x.carryOut(), 16);
            PassingTrack y = padOf("x0;".repeat(26) + "x0");
            due.is("80 characters", y.count(2), 80);
            due.is("fault()", y.fault(), NONE);
            PassingTrack z = padOf("x0;".repeat(26) + "x9");
            due.is("the last character is the fault", z.fault(), 79);
        });
    }

    private void wipe() {
        says.promise(21, "Empties the pad, and returns the length that it had.", () -> {
            for (int length : new int[] {0, 1, 8, 79, 80}) {
                PassingTrack x = padOf("x".repeat(length));
                due.is("wipe()", x.wipe(), length);
                due.is("count(2)", x.count(2), 0);
                due.is("fault()", x.fault(), 0);
                due.is("carryOut()", x.carryOut(), BAD_TEXT);
                due.is("wipe()", x.wipe(), 0);
                Texts.putAll(x, longText());
                due.is("it is filled again", x.count(2), 79);
                due.is("and carried out", x.carryOut(), 16);
            }
        });
    }

    /** Behind the beginning of a text those characters can stand, and no others; it may be a whole text. */
    private void canStand(String begin, String characters, boolean whole) {
        due.is("fault() of " + begin, padOf(begin).fault(), whole ? NONE : begin.length());
        for (char next = 33; next <= 126; next++) {
            String text = begin + next;
            int fault = padOf(text).fault();
            if (characters.indexOf(next) < 0) {
                due.is("fault() of " + text, fault, begin.length());
                due.is("fault() with more behind " + text, padOf(text + ";x0").fault(), begin.length());
            } else {
                due.holds("fault() of " + text + ": " + fault, fault == NONE || fault == text.length());
            }
        }
    }

    private void faultOfEachCharacter() {
        says.promise(22, "Returns the fault of the pad, NONE if there is none.", () -> {
            canStand("", ORDERS, false);
            canStand("x0;", ORDERS, false);
            canStand("s0>1@2;p3=4;", ORDERS, false);
        });
        says.terms("The fault is the index of the first character that cannot stand at its place when the text is read from left to right",
            () -> {
                due.is("the first of two", padOf("x8;x8").fault(), 1);
                due.is("behind a whole order", padOf("x7x").fault(), 2);
                due.is("the first character", padOf("ax0").fault(), 0);
                due.is("the last character", padOf("x0;xx").fault(), 4);
                due.is("an order that the line refuses has none", padOf("s3>3@999+999;t0=0;x7").fault(), NONE);
            });
    }

    private void faultAtTheEnd() {
        says.terms("if there is none and the text ends too early (also if it is empty), it is the length of the text.", () -> {
            String text = "s0>7@100+20^9;l7+300;t7=4;r6=30;p7=9;x7";
            String wholeEnds = "s0>7@1 s0>7@10 s0>7@100 s0>7@100+2 s0>7@100+20 s0>7@100+20^9 l7+3 l7+30 l7+300 t7=4 r6=3 r6=30 p7=9 x7 ";
            for (int length = 0; length <= text.length(); length++) {
                String begin = text.substring(0, length);
                String order = begin.substring(begin.lastIndexOf(';') + 1) + " ";
                boolean whole = order.length() > 1 && (" " + wholeEnds).contains(" " + order);
                due.is("fault() of " + begin, padOf(begin).fault(), whole ? NONE : length);
            }
        });
        says.terms("(also if it is empty)", () -> {
            due.is("fault()", new PassingTrack().fault(), 0);
            due.is("carryOut()", new PassingTrack().carryOut(), BAD_TEXT);
        });
    }

    private void numbers() {
        says.terms("a number is 0 to 999, without leading zeros.", () -> {
            for (String begin : new String[] {"l0+", "t0=", "r0=", "s0>1@", "s0>1@0+"}) {
                for (String number : new String[] {"0", "1", "9", "10", "99", "100", "999"}) {
                    due.is("fault() of " + begin + number, padOf(begin + number).fault(), NONE);
                }
                for (String number : new String[] {"00", "01", "09", "000", "0999"}) {
                    due.is("fault() of " + begin + number, padOf(begin + number).fault(), begin.length() + 1);
                }
            }
        });
        says.terms("(also of a digit by which a number would be above 999)", () -> {
            for (String begin : new String[] {"l0+", "t0=", "r0=", "s0>1@", "s0>1@0+"}) {
                for (String number : new String[] {"1000", "9990", "9999", "10000", "999999999999"}) {
                    due.is("fault() of " + begin + number, padOf(begin + number).fault(), begin.length() + 3);
                }
            }
        });
    }

    private void leftOut() {
        says.terms("its stop (0 without \"+\") and its priority (0 without \"^\")", () -> {
            PassingTrack x = padOf("s0>7@0+20^9;s0>7@300+0^0;s7>0@1;s7>0@2+3;s7>0@4^5");
            due.is("carryOut()", x.carryOut(), 5);
            madeWith(x, 0, 0, 7, 0, 20, 9);
            madeWith(x, 1, 0, 7, 300, 0, 0);
            madeWith(x, 2, 7, 0, 1, 0, 0);
            madeWith(x, 3, 7, 0, 2, 3, 0);
            madeWith(x, 4, 7, 0, 4, 0, 5);
        });
    }

    private void grammar() {
        says.terms("order = \"s\" station \">\" station \"@\" number [ \"+\" number ] [ \"^\" priority ]", () -> {
            String[][] rows = {{"", TO_7}, {"0", ">"}, {"7", ">"}, {"0>", TO_7}, {"0>7", "@"}, {"0>0", "@"}, {"0>7@", DIGITS},
                {"0>7@0+", DIGITS}, {"0>7@9^", DIGITS}, {"0>7@9+9^", DIGITS}};
            for (String[] row : rows) {
                canStand("s" + row[0], row[1], false);
            }
            String[][] wholes = {{"0", "+^;"}, {"1", DIGITS + "+^;"}, {"99", DIGITS + "+^;"}, {"100", "+^;"}, {"999", "+^;"},
                {"0+0", "^;"}, {"0+1", DIGITS + "^;"}, {"0+10", DIGITS + "^;"}, {"0+999", "^;"}, {"0^0", ";"}, {"0+0^9", ";"}};
            for (String[] row : wholes) {
                canStand("s0>7@" + row[0], row[1], true);
            }
        });
        says.terms("A station is a digit from 0 to 7, so is a shuttle, a stretch is one from 0 to 6, a priority is a digit", () -> {
            String[][] rows = {{"l", TO_7}, {"t", TO_7}, {"r", TO_6}, {"p", TO_7}, {"x", TO_7}, {"l0", "+"}, {"l7", "+"}, {"t0", "="},
                {"t7", "="}, {"r0", "="}, {"r6", "="}, {"p0", "="}, {"p7", "="}, {"l0+", DIGITS}, {"t0=", DIGITS}, {"r0=", DIGITS},
                {"p0=", DIGITS}};
            for (String[] row : rows) {
                canStand(row[0], row[1], false);
            }
            String[][] wholes = {{"l0+0", ";"}, {"l0+1", DIGITS + ";"}, {"l0+10", DIGITS + ";"}, {"l0+100", ";"}, {"t0=0", ";"},
                {"t0=9", DIGITS + ";"}, {"t0=999", ";"}, {"r0=0", ";"}, {"r0=30", DIGITS + ";"}, {"r0=300", ";"}, {"p0=0", ";"},
                {"p7=9", ";"}, {"x0", ";"}, {"x7", ";"}};
            for (String[] row : wholes) {
                canStand(row[0], row[1], true);
            }
        });
    }

    private void carryOut() {
        says.terms("\"l\": late(); \"t\": tracks(); \"r\": running(); \"p\": prefer(); \"x\": remove().", () -> {
            PassingTrack x = padOf("s3>4@0;s4>3@1;l0+300;t0=4;t7=1;r0=30;r6=1;p0=9;p1=8");
            due.is("carryOut()", x.carryOut(), 9);
            madeWith(x, 0, 3, 4, 300, 0, 9);
            madeWith(x, 1, 4, 3, 1, 0, 8);
            due.is("count(4)", x.count(4), 4);
            due.is("count(11)", x.count(11), 1);
            due.is("count(12)", x.count(12), 30);
            due.is("count(18)", x.count(18), 1);
            Texts.putAll(x, "x0");
            due.is("carryOut()", x.carryOut(), 1);
            madeWith(x, 0, 4, 3, 1, 0, 8);
            PassingTrack eight = new PassingTrack();
            many(eight, 8, 0, 1);
            Texts.putAll(eight, "l7+7;p7=7;x7;x6;x5;x4;x3;x2;x1;x0");
            due.is("the last numbers: carryOut()", eight.carryOut(), 10);
            due.is("count(0)", eight.count(0), 0);
        });
    }

    private void carryOutUpToError() {
        says.promise(23, "one after the other, up to the first one that returns an error, and empties the pad.", () -> {
            String[] orders = {"t0=1", "t1=1", "t2=1", "t3=1"};
            for (int wrong = 0; wrong < orders.length; wrong++) {
                String[] some = orders.clone();
                some[wrong] = "t" + wrong + "=5";
                PassingTrack x = padOf(String.join(";", some));
                due.is("carryOut() with " + wrong + " wrong", x.carryOut(), wrong);
                due.is("count(2)", x.count(2), 0);
                for (int station = 0; station < orders.length; station++) {
                    due.is("tracks of " + station, x.count(4 + station), station < wrong ? 1 : 2);
                }
            }
            PassingTrack x = padOf(String.join(";", orders));
            due.is("carryOut() with none wrong", x.carryOut(), 4);
            due.is("count(2)", x.count(2), 0);
            due.is("nothing is there any more: carryOut()", x.carryOut(), BAD_TEXT);
            PassingTrack few = padOf("x0;".repeat(26) + "x0");
            many(few, 8, 0, 1);
            due.is("eight of 27", few.carryOut(), 8);
        });
    }

    private void carryOutIsOneChange() {
        says.promise(23, "This is a change (one, with all of them; also if none is carried out).", () -> {
            PassingTrack x = padOf(longText());
            due.is("16 orders", x.carryOut(), 16);
            due.is("count(3)", x.count(3), 1);
            due.is("undo()", x.undo(), 0);
            row("count(4 + .)", what -> x.count(4 + what), 2, 2, 2, 2, 2, 2, 2, 2);
            PassingTrack none = padOf("x0;t0=1");
            due.is("none is carried out", none.carryOut(), 0);
            due.is("count(3)", none.count(3), 1);
            due.is("undo()", none.undo(), 0);
            due.is("count(4)", none.count(4), 2);
        });
    }

    private void carryOutErrors() {
        says.promise(23, "Returns how many orders were carried out", () -> {
            String[] refused = {"s0>0@0", "s7>7@0", "s0>1@301", "s0>1@999", "s0>1@0+21", "l1+1", "l0+0", "l0+300", "l0+301", "t0=0", "t7=5",
                "r0=0", "r6=31", "p1=0", "x1", "x7"};
            for (String order : refused) {
                PassingTrack x = padOf("s0>1@1;" + order + ";s0>1@1");
                due.is("carryOut() of " + order, x.carryOut(), 1);
                due.is("count(0)", x.count(0), 1);
            }
            String[] taken = {"s0>1@300+20", "l0+1", "l0+299", "t0=1", "t7=4", "r0=1", "r6=30", "p0=0", "x0"};
            for (String order : taken) {
                due.is("carryOut() of " + order, padOf("s0>1@1;" + order + ";s0>1@1").carryOut(), 3);
            }
            PassingTrack seven = padOf("s0>1@1;s0>1@2;s0>1@3");
            many(seven, 7, 0, 1);
            due.is("the eighth one, and no ninth one", seven.carryOut(), 1);
            due.is("count(0)", seven.count(0), 8);
        });
    }

    private void faultStays() {
        says.promise(23, "BAD_TEXT if the pad has a fault (then it stays).", () -> {
            PassingTrack x = padOf("t0=1;t1=1;");
            due.is("carryOut()", x.carryOut(), BAD_TEXT);
            due.is("it stays", x.count(2), 10);
            due.is("no order is carried out", x.count(4), 2);
            due.is("count(3)", x.count(3), 0);
            Texts.putAll(x, "t2=1");
            due.is("carryOut()", x.carryOut(), 3);
            row("count(4 + .)", what -> x.count(4 + what), 1, 1, 1, 2);
            PassingTrack full = padOf("a".repeat(80));
            due.is("carryOut()", full.carryOut(), BAD_TEXT);
            due.is("it stays", full.count(2), 80);
        });
    }
}
