/** What the document says of THE TEXT, sentence by sentence: its bytes, its orders, its faults (Terms 2, promises 21 to 23). */
public final class TextBoundsTest {
    private static final String TERMS_2 = "Terms 2";
    private static final String DOES = "23 does";

    /** Five states, some calls, counts and plans: what must not change by a fault. */
    private static final String BUSY = "links 0 2 | back 1 | load 1 3 | call 0 1 9 | call 0 1 9 | call 0 1 9 | hours 2 | ";
    /** 80 calls that go on, with wires for more. */
    private static final String FULL_OF_CALLS = "towns 3 | links 0 30 | "
        + Routes.times(26, "call 0 1 24 | call 1 2 24 | call 2 0 24") + "call 0 1 24 | call 0 1 24 | ";

    private final Bounds b = new Bounds();

    public static void main(String[] args) {
        new TextBoundsTest().all();
    }

    private void all() {
        bytesOfTheText();
        ordersEndedBySemicolons();
        townsOfOneFigure();
        hoursOfACall();
        hoursThatGoBy();
        wires();
        reserves();
        loads();
        backOnAndOff();
        blanksAnywhere();
        blanksNotInNumbers();
        blanksNeeded();
        numbersOfTwoFigures();
        firstByteThatCanNotStand();
        everyByteInFront();
        bAsA();
        endsTooEarly();
        nothingIsDone();
        byAFaultNothingCounts();
        ordersOneByOne();
        callsThatFindEighty();
        oneState();
        b.end("TextBoundsTest");
    }

    private void bytesOfTheText() {
        b.sentence(TERMS_2, "THE TEXT (120 bytes at most)");
        String almost = Routes.times(119, "type 32");
        b.run(almost + "told 3 = 119 | type 32 = 120 | told 3 = 120 | type 32 = FULL | told 3 = 120 | told 2 = 1");
        String full = almost + "type 32 | ";
        b.refused(full, "type 0", "FULL");
        b.refused(full, "type 127", "FULL");
        b.run(full + "type 59 = FULL | clear = 120 | told 3 = 0 | type 59 = 1");
        b.sentence("21 type", "A byte (0 .. 127) comes behind THE TEXT: how many it has. BAD; FULL: 120");
        b.run("type 0 = 1 | type 127 = 2 | type 64 = 3 | told 3 = 3 | told 9 = 0");
        for (String c : new String[] {"-1", "128", "LOW", "HIGH", "255", "256", "-128"}) {
            b.refused(BUSY + "text '+1;' | ", "type " + c, "BAD");
            b.refused(full, "type " + c, "BAD");
        }
        b.run("text '+1' | type 59 = 3 | does = 0 | told 7 = 1");
        b.sentence("22 clear", "THE TEXT is empty: how many it had");
        b.run("clear = 0 | text '+1;' | told 3 = 3 | clear = 3 | told 3 = 0 | clear = 0 | told 9 = 0 | does = -10");
        b.run("text '+1;+2;' | clear = 6 | type 43 = 1 | does = -11 | told 7 = 0");
        b.sentence("22 clear", "THE TEXT is empty: what was in it is not read behind a shorter one");
        for (String whole : new String[] {"011;", "+12;", "w0130;", "r0130;", "p1 9;", "x1;"}) {
            for (int length = 0; length < whole.length(); length++) {
                b.fault("text '" + whole + "' | ", whole.substring(0, length), length);
            }
            b.fault("text '" + whole + "' | ", " ", 1);
        }
        b.sentence("22 clear", "nothing else changes: no STATE, none refused");
        b.stays(BUSY, "clear", 0);
        b.sentence(TERMS_2, "a TEXT of 120 bytes is read to its end");
        b.does("", "+1;".repeat(40), 0);
        b.run("text '" + "+1;".repeat(40) + "' | does = 0 | told 7 = 40 | told 9 = 1");
        b.run("text '" + "+99;".repeat(30) + "' | does = 0 | told 7 = 2970");
        b.does("links 0 30", "015;".repeat(30), 30);
        b.does("", "+1;" + " ".repeat(117), 0);
        b.does("", " ".repeat(117) + "+1;", 0);
    }

    private void ordersEndedBySemicolons() {
        b.sentence(TERMS_2, "tells ORDERS, each ended by ;");
        b.does("", "011;", 1);
        b.does("", "011;121;", 2);
        b.does("", "w011;r011;p1 1;x1;+1;231;", 1);
        b.fault(BUSY, "011", 3);
        b.fault(BUSY, "011;121", 7);
        b.fault(BUSY, "+1+1;", 2);
        b.fault(BUSY, "+1:", 2);
        b.fault(BUSY, "+1,", 2);
        b.fault(BUSY, "x1x0;", 2);
        b.fault(BUSY, "011w011;", 3);
        b.fault(BUSY, ";", 0);
        b.fault(BUSY, ";+1;", 0);
        b.fault(BUSY, "+1;;", 3);
        b.fault(BUSY, "+1; ;", 4);
    }

    private void townsOfOneFigure() {
        b.sentence(TERMS_2, "figures a b h (towns one figure each, then h ..: a CALL): TOWNS 0 .. n less 1");
        for (int n = 3; n <= 6; n++) {
            String before = "towns " + n + " | ";
            int last = n - 1;
            b.does(before, "0" + last + "1;" + last + "01;", 2);
            b.fault(before, n + "01;", 0);
            b.fault(before, "0" + n + "1;", 1);
            b.fault(before, "901;", 0);
            b.fault(before, "091;", 1);
            for (String order : new String[] {"w", "r"}) {
                b.does(before, order + "0" + last + "1;" + order + last + "0 2;", 0);
                b.fault(before, order + n + "01;", 1);
                b.fault(before, order + "0" + n + "1;", 2);
            }
        }
        b.sentence(TERMS_2, "towns one figure each: a figure behind b is h's");
        b.does("", "012;", 1);
        b.run("text '0112;' | does = 1 | going 0 0 = 0 | going 0 1 = 1 | going 0 3 = 12");
        b.run("text '01 1;' | does = 1 | going 0 3 = 1");
        b.fault(BUSY, "00 1 1;", 1);
        b.fault(BUSY, "1 00 1;", 3);
    }

    private void hoursOfACall() {
        b.sentence(TERMS_2, "then h 1 or 2 (figures): a CALL, HOURS 1 .. 24");
        b.run("text '011;' | does = 1 | going 0 3 = 1");
        b.run("text '0 1 24;' | does = 1 | going 0 3 = 24");
        b.run("text '0124;' | does = 1 | going 0 3 = 24");
        b.run("text '01 9;' | does = 1 | going 0 3 = 9");
        b.run("text '01 10;' | does = 1 | going 0 3 = 10");
        b.run("text '0109;' | does = 1 | going 0 3 = 9");
        b.fault(BUSY, "010;", 2);
        b.fault(BUSY, "0100;", 2);
        b.fault(BUSY, "0125;", 2);
        b.fault(BUSY, "01 25;", 3);
        b.fault(BUSY, "01 99;", 3);
        b.fault(BUSY, "01 024;", 3);
        b.fault(BUSY, "01 100;", 3);
        b.fault(BUSY, "01 001;", 3);
        b.fault(BUSY, "01;", 2);
        b.fault(BUSY, "01 ;", 3);
        b.fault(BUSY, "01 1 1;", 5);
        b.fault(BUSY, "01-1;", 2);
    }

    private void hoursThatGoBy() {
        b.sentence(TERMS_2, "+ and 1 or 2 figures (so many HOURS go by, 0 .. 99)");
        b.run("text '+0;' | does = 0 | told 7 = 0 | told 9 = 1");
        b.run("text '+00;' | does = 0 | told 7 = 0");
        b.run("text '+1;' | does = 0 | told 7 = 1");
        b.run("text '+9;' | does = 0 | told 7 = 9");
        b.run("text '+09;' | does = 0 | told 7 = 9");
        b.run("text '+10;' | does = 0 | told 7 = 10");
        b.run("text '+49;' | does = 0 | told 7 = 49");
        b.run("text '+99;' | does = 0 | told 7 = 99");
        b.fault(BUSY, "+100;", 1);
        b.fault(BUSY, "+000;", 1);
        b.fault(BUSY, "+ 999;", 2);
        b.fault(BUSY, "+4294967297;", 1);
        b.fault(BUSY, "+18446744073709551617;", 1);
        b.fault(BUSY, "+;", 1);
        b.fault(BUSY, "+ ;", 2);
        b.fault(BUSY, "+-1;", 1);
        b.fault(BUSY, "++1;", 1);
        b.sentence(TERMS_2, "0 HOURS: no LOAD comes");
        b.run("load 0 9 | load 1 9 | text '+0;' | does = 0 | all 0 = 0 | text '+1;' | does = 0 | all 0 = 9");
    }

    private void wires() {
        b.sentence(TERMS_2, "w a b k (WIRES), 0 .. 30");
        b.run("text 'w010;' | does = 0 | of 0 1 0 = 0 | of 1 0 0 = 0 | of 0 1 1 = 0 | of 0 2 0 = 5");
        b.run("text 'w1030;' | does = 0 | of 0 1 0 = 30");
        b.run("text 'w 3 2 9;w3 1 00;w2 1 09;' | does = 0 | of 2 3 0 = 9 | of 1 3 0 = 0 | of 1 2 0 = 9");
        aLinkOrder("w");
    }

    private void reserves() {
        b.sentence(TERMS_2, "r a b k (RESERVE), 0 .. 30");
        b.run("link 0 1 1 7 | text 'r010;' | does = 0 | of 0 1 1 = 0 | of 0 1 0 = 5");
        b.run("text 'r1030;' | does = 0 | of 0 1 1 = 30 | of 1 0 1 = 30 | of 0 2 1 = 0");
        b.run("text 'r 3 2 9;r3 1 00;r2 1 09;' | does = 0 | of 2 3 1 = 9 | of 1 3 1 = 0 | of 1 2 1 = 9");
        aLinkOrder("r");
    }

    private void aLinkOrder(String order) {
        b.fault(BUSY, order + "0131;", 3);
        b.fault(BUSY, order + " 0 1 31;", 6);
        b.fault(BUSY, order + "01 99;", 4);
        b.fault(BUSY, order + "01 030;", 4);
        b.fault(BUSY, order + "01 300;", 4);
        b.fault(BUSY, order + "01;", 3);
        b.fault(BUSY, order + "0;", 2);
        b.fault(BUSY, order + ";", 1);
        b.fault(BUSY, order + "01 3 0;", 6);
        b.fault(BUSY, order + "01-1;", 3);
        b.fault(BUSY, order + "a11;", 1);
        b.fault(BUSY, order + "0a1;", 2);
        b.fault(BUSY, order + order + "011;", 1);
    }

    private void loads() {
        b.sentence(TERMS_2, "p t k (LOAD of HOUR t): HOUR 0 .. 23, LOAD 0 .. 9");
        b.run("text 'p0 9;' | does = 0 | load 0 0 = 9 | load 1 0 = 0");
        b.run("text 'p 23 1;' | does = 0 | load 23 0 = 1 | load 22 0 = 0");
        b.run("load 5 5 | text 'p5 0;' | does = 0 | load 5 0 = 0");
        b.run("text 'p00 1;p09 2;p 10 03;p11 00;' | does = 0 | load 0 0 = 1 | load 9 0 = 2 | load 10 0 = 3 | load 11 0 = 0");
        b.fault(BUSY, "p24 1;", 1);
        b.fault(BUSY, "p 24 0;", 2);
        b.fault(BUSY, "p99 1;", 1);
        b.fault(BUSY, "p023 1;", 1);
        b.fault(BUSY, "p000 1;", 1);
        b.fault(BUSY, "p1 10;", 3);
        b.fault(BUSY, "p 0 10;", 4);
        b.fault(BUSY, "p1 99;", 3);
        b.fault(BUSY, "p1 009;", 3);
        b.fault(BUSY, "p1 -1;", 3);
        b.fault(BUSY, "p-1 1;", 1);
        b.fault(BUSY, "p1;", 2);
        b.fault(BUSY, "p1 ;", 3);
        b.fault(BUSY, "p;", 1);
        b.fault(BUSY, "p1 1 1;", 5);
        b.sentence(TERMS_2, "the HOUR that is has begun: its LOAD comes a day later");
        b.run("text 'p0 2;+23;' | does = 0 | all 0 = 0 | text '+1;' | does = 0 | all 0 = 2");
    }

    private void backOnAndOff() {
        b.sentence(TERMS_2, "x and a figure 0, 1 (BACK off, on)");
        b.run("text 'x1;' | does = 0 | told 5 = 1 | text 'x0;' | does = 0 | told 5 = 0 | text 'x0;x 1 ;' | does = 0 | told 5 = 1");
        b.fault(BUSY, "x2;", 1);
        b.fault(BUSY, "x9;", 1);
        b.fault(BUSY, "x 2;", 2);
        b.fault(BUSY, "x;", 1);
        b.fault(BUSY, "x/;", 1);
        b.sentence(TERMS_2, "what is behind x has one figure");
        b.fault(BUSY, "x01;", 2);
        b.fault(BUSY, "x10;", 2);
        b.fault(BUSY, "x1 1;", 3);
        b.fault(BUSY, "x000;", 2);
    }

    private void blanksAnywhere() {
        b.sentence(TERMS_2, "Blanks (32) may stand anywhere");
        String[] orders = {"0|1|5|;", "+|12|;", "w|0|1|30|;", "r|0|1|30|;", "p|23|9|;", "x|1|;"};
        for (String order : orders) {
            String[] parts = order.split("\\|");
            for (int many : new int[] {1, 2, 7}) {
                for (int at = 0; at <= parts.length; at++) {
                    StringBuilder text = new StringBuilder();
                    for (int i = 0; i <= parts.length; i++) {
                        // Two numbers of p are told apart by a blank, wherever the others stand.
                        text.append(" ".repeat(i == at ? many : i == 2 && order.startsWith("p") ? 1 : 0));
                        text.append(i < parts.length ? parts[i] : "");
                    }
                    b.does("", text.toString(), order.startsWith("0") ? 1 : 0);
                }
            }
        }
        b.run("text '  w  0  1  30  ;  r 0 1 29 ; p  23  9 ; x 1 ; + 12 ; 0 1 24 ; ' | does = 1 | of 0 1 0 = 30 | of 0 1 1 = 29"
            + " | load 23 0 = 9 | told 5 = 1 | told 7 = 12 | going 0 3 = 24");
        b.sentence(TERMS_2, "Blanks (32): no other byte is one");
        for (int c : new int[] {0, 9, 10, 11, 12, 13, 31, 33, 95, 127}) {
            b.fault(BUSY, (char) c + "+1;", 0);
            b.fault(BUSY, "+" + (char) c + "1;", 1);
            b.fault(BUSY, "+1" + (char) c + ";", 2);
            b.fault(BUSY, "+1;" + (char) c, 3);
            b.fault(BUSY, "0" + (char) c + "1 1;", 1);
            b.fault(BUSY, "01" + (char) c + "1;", 2);
        }
    }

    private void blanksNotInNumbers() {
        b.sentence(TERMS_2, "Blanks .. anywhere but in numbers");
        b.fault(BUSY, "+1 0;", 3);
        b.fault(BUSY, "+1  0;", 4);
        b.fault(BUSY, "0 1 2 4;", 6);
        b.fault(BUSY, "w01 3 0;", 6);
        b.fault(BUSY, "r01 3 0;", 6);
        b.fault(BUSY, "p2 3 9;", 5);
        b.fault(BUSY, "p2 3 ;9;", 6);
    }

    private void blanksNeeded() {
        b.sentence(TERMS_2, "needed only where figures of two numbers would be read as one (towns and what is behind x have one figure each)");
        b.run("text 'p1 2;' | does = 0 | load 1 0 = 2");
        b.fault(BUSY, "p12;", 3);
        b.fault(BUSY, "p123;", 1);
        b.fault(BUSY, "p239;", 1);
        b.fault(BUSY, "p0023;", 1);
        b.does("", "0124;", 1);
        b.does("", "w0130;r0130;", 0);
        b.fault(BUSY, "01124;", 2);
        b.fault(BUSY, "w01130;", 3);
        b.does("", "x1;011;", 1);
        b.does("", "+11;011;", 1);
    }

    private void numbersOfTwoFigures() {
        b.sentence(TERMS_2, "FAULT: of a number that is not as told, of three figures or more: its first byte");
        b.fault(BUSY, "+100", 1);
        b.fault(BUSY, "+ 123456;", 2);
        b.fault(BUSY, "01 240;", 3);
        b.fault(BUSY, "01240;", 2);
        b.fault(BUSY, "w01 010;", 4);
        b.fault(BUSY, "p 001 1;", 2);
        b.fault(BUSY, "p 1 001;", 4);
        b.fault(BUSY, "+" + "0".repeat(118) + ";", 1);
        b.fault(BUSY, "+" + "9".repeat(119), 1);
        b.sentence(TERMS_2, "FAULT: .. of a number that is not as told: its first byte, of an earlier order, too");
        b.fault(BUSY, "p25 10;", 1);
        b.fault(BUSY, "+1;01 25;+100;", 6);
        b.fault(BUSY, "w01 31 x;", 4);
    }

    private void firstByteThatCanNotStand() {
        b.sentence(TERMS_2, "FAULT: the place of the first byte that can not stand there");
        b.fault(BUSY, "q", 0);
        b.fault(BUSY, " q", 1);
        b.fault(BUSY, "011;q", 4);
        b.fault(BUSY, "011; q011;", 5);
        b.fault(BUSY, "0q1;", 1);
        b.fault(BUSY, "0;", 1);
        b.fault(BUSY, "01q;", 2);
        b.fault(BUSY, "011q", 3);
        b.fault(BUSY, "011 q", 4);
        b.fault(BUSY, "0+1;", 1);
        b.fault(BUSY, "W011;", 0);
        b.fault(BUSY, "R011;", 0);
        b.fault(BUSY, "P1 1;", 0);
        b.fault(BUSY, "X1;", 0);
        b.fault(BUSY, "-1;", 0);
        b.fault(BUSY, "c011;", 0);
        b.fault(BUSY, "+q;", 1);
        b.fault(BUSY, "+1q;", 2);
        b.fault(BUSY, "p1q;", 2);
        b.fault(BUSY, "p1 1q;", 4);
        b.fault(BUSY, "x1q;", 2);
        b.fault(BUSY, " ".repeat(119) + "q", 119);
        b.fault(BUSY, "+1;".repeat(39) + "+1q", 119);
    }

    private void everyByteInFront() {
        b.sentence(TERMS_2, "FAULT: each byte in front of an order, of a number, of its end");
        for (int c = 0; c <= 127; c++) {
            String sign = String.valueOf((char) c);
            boolean begins = c == ' ' || c >= '0' && c <= '3' || "+wrpx".indexOf(c) >= 0;
            b.fault("", sign, begins ? 1 : 0);
            boolean figure = c >= '0' && c <= '9';
            b.fault("", "+" + sign, figure || c == ' ' ? 2 : 1);
            boolean town = c >= '0' && c <= '3';
            b.fault("", "w" + sign, town || c == ' ' ? 2 : 1);
            b.fault("", "x" + sign, c == '0' || c == '1' || c == ' ' ? 2 : 1);
            if (c == ';') {
                b.does("", "+1" + sign, 0);
                b.does("", "x0" + sign, 0);
            } else {
                b.fault("", "+1" + sign, figure || c == ' ' ? 3 : 2);
                b.fault("", "x0" + sign, c == ' ' ? 3 : 2);
            }
        }
    }

    private void bAsA() {
        b.sentence(TERMS_2, "FAULT: b as a: b");
        b.fault(BUSY, "001;", 1);
        b.fault(BUSY, "0 0 1;", 2);
        b.fault(BUSY, "331;", 1);
        b.fault(BUSY, "w221;", 2);
        b.fault(BUSY, "w2  2 1;", 4);
        b.fault(BUSY, "r111;", 2);
        b.fault(BUSY, "00", 1);
        b.fault(BUSY, "441;", 0);
        b.does("", "p1 1;p 2 2;", 0);
    }

    private void endsTooEarly() {
        b.sentence(TERMS_2, "FAULT: the TEXT's length, if it ends too early (an empty one, too)");
        b.fault(BUSY, "", 0);
        b.run("does = -10 | told 9 = 0 | clear = 0 | does = -10");
        String[] wholes = {"0 1 24;", "+12;", "w 0 1 30;", "r 0 1 30;", "p 23 9;", "x 1;", "011;+1;", "x0;w01 3;"};
        for (String whole : wholes) {
            for (int length = 0; length < whole.length(); length++) {
                if (whole.charAt(Math.max(0, length - 1)) != ';') {
                    b.fault(BUSY, whole.substring(0, length), length);
                }
            }
            b.does("", whole, whole.startsWith("0") ? 1 : 0);
        }
        b.sentence(TERMS_2, "FAULT: ends too early: blanks alone, blanks behind what is not ended");
        b.fault(BUSY, " ", 1);
        b.fault(BUSY, "   ", 3);
        b.fault(BUSY, " ".repeat(120), 120);
        b.fault(BUSY, "+1 ", 3);
        b.fault(BUSY, "011;0 ", 6);
        b.sentence(TERMS_2, "FAULT: a TEXT of 120 bytes that ends too early");
        b.fault(BUSY, "+10;".repeat(29) + "+ 10", 120);
        b.fault(BUSY, "+10;".repeat(29) + "+10 ", 120);
        b.fault(BUSY, "+1;".repeat(39) + "+10", 120);
        b.run("text '" + "+1;".repeat(39) + "+10' | does = -130 | type 59 = FULL | does = -130 | told 7 = 0");
    }

    private void nothingIsDone() {
        b.sentence(TERMS_2, "If there is one, nothing is done");
        b.run("text '011;+5;w010;r015;p1 1;x1;q' | does = -35 | told 6 = 0 | told 7 = 0 | of 0 1 0 = 5 | of 0 1 1 = 0 | load 1 0 = 0 | told 5 = 0");
        b.fault(BUSY, "011;+5;w010;r015;p1 1;x1;q", 25);
        b.fault(BUSY, "011;+5;w010;r015;p1 1;x1", 24);
        b.fault(BUSY, "+99;".repeat(29) + "+100", 117);
        b.sentence(TERMS_2, "the TEXT stays, and is read anew each time");
        b.run("text '+1' | does = -12 | type 59 = 3 | does = 0 | does = 0 | told 7 = 2 | told 3 = 3 | told 9 = 2");
        b.run("towns 6 | text '051;' | does = 1 | towns 5 | does = -11 | towns 6 | does = 1");
    }

    private void byAFaultNothingCounts() {
        b.sentence(TERMS_2, "By a FAULT nothing counts");
        b.run("does = -10 | text 'q' | does = -10 | told 0 = 0 | told 1 = 0 | told 2 = 0 | told 9 = 0");
        b.run("back 2 | undo | text '01 25;' | does = -13 | told 0 = 1 | told 1 = 1 | told 2 = 0");
        b.fault(FULL_OF_CALLS, "01 25;", 3);
    }

    private void ordersOneByOne() {
        b.sentence(DOES, "ORDERS are done: as they stand, one behind the other");
        b.run("text 'w010;011;w012;011;' | does = 2 | going 0 2 = 2 | going 1 2 = NONE");
        b.run("text '011;+1;' | does = 1 | told 6 = 0 | text '+1;011;' | does = 1 | told 6 = 1");
        b.run("text 'x1;x0;x1;' | does = 0 | told 5 = 1");
        b.run("text 'p1 2;+1;p1 0;+24;' | does = 0 | all 0 = 2 | told 7 = 25");
        b.sentence(DOES, "how many CALLS told in it were not REFUSED");
        b.does("", "011;", 1);
        b.does("", "+1;", 0);
        b.does("links 0 0", "011;121;", 0);
        b.does("link 0 1 0 0", "011;", 1);
        b.does("link 0 1 0 1 | link 0 2 0 1", "019;019;019;", 2);
        b.does("link 0 1 0 1 | link 0 2 0 1 | back 1", "019;019;019;019;", 2);
        b.run("links 0 0 | text '011;121;' | does = 0 | all 0 = 2 | all 4 = 2 | told 0 = 0 | told 2 = 0");
        b.sentence(DOES, "CALLS told in it: what comes by LOADS is not counted");
        b.run("load 1 9 | text '+1;015;' | does = 1 | all 0 = 10");
    }

    private void callsThatFindEighty() {
        b.sentence(DOES, "one that finds 80 going on is (REFUSED)");
        b.run(FULL_OF_CALLS + "told 6 = 80 | text '011;' | does = 0 | told 6 = 80 | told 2 = 0 | all 4 = 1 | pair 0 1 4 = 1 | told 8 = 1");
        b.run(FULL_OF_CALLS + "ends 0 = 79 | text '011;011;' | does = 1 | told 6 = 80 | all 4 = 1");
        b.run(FULL_OF_CALLS + "text '+24;011;' | does = 1 | told 6 = 1 | all 4 = 0");
        b.run(FULL_OF_CALLS + "text '011;+24;011;' | does = 1 | all 4 = 1 | told 9 = 5");
    }

    private void oneState() {
        b.sentence(DOES, "S (one)");
        b.run("text '011;+1;w012;r011;p1 1;x1;' | does = 1 | told 9 = 1 | undo = 0 | told 6 = 0 | told 7 = 0 | told 5 = 0 | of 0 1 0 = 5");
        b.leaves("seed 5 | text '011;+1;w012;r011;p1 1;x1;021;'", "does", 2);
        b.leaves("links 0 0 | back 1 | text '011;'", "does", 0);
        b.leaves("text '+0;'", "does", 0);
        b.run("seed 1 | seed 2 | seed 3 | seed 4 | seed 5 | text '+1;+2;' | does = 0 | told 9 = 5 | undo = 4 | told 8 = 5 | told 7 = 0 | told 3 = 6");
        b.sentence(DOES, "-10 less the FAULT");
        b.run("text '0011;' | does = -11 | text '' | does = -10 | text '+1;q' | does = -13");
    }
}
