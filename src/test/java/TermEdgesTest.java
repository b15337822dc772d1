/** Promises 17 to 20: a test for each sentence that names an edge. */
public final class TermEdgesTest {
    private static final int NONE = -1, FULL = -2, NOT = -4;
    private static final int ROYALTY = 0, FUND = 1, CURE = 2;
    private static final int[] FAR_OUT = {Integer.MIN_VALUE, -1000000, -1, Integer.MAX_VALUE};
    private static final Checks checks = new Checks();

    public static void main(String[] args) throws ReflectiveOperationException {
        checks.runSentences(TermEdgesTest.class);
        checks.end();
    }

    private static Office office(int... doors) {
        return new Office(checks, doors);
    }

    /** What a text gives for the only shop in month 0. */
    private static void gives(int want, String text) {
        Office o = office(5);
        o.open(0, 150);
        int number = o.make(ROYALTY, 0, text);
        checks.due(0, number, "terms of " + text);
        o.told(want, x -> x.gives(0, 0, 0), text);
    }

    private static void sound(String... texts) {
        for (String text : texts) checks.due(0, office().make(ROYALTY, 0, text), "terms of " + text);
    }

    private static void faulty(int fault, String... texts) {
        for (String text : texts) {
            Office o = office();
            checks.due(-100 - fault, o.make(ROYALTY, 0, text), "terms of " + text);
            o.told(0, x -> x.count(4), "no terms are made of " + text);
            o.told(NOT, x -> x.inForce(ROYALTY, 9999, 9999), "nothing is in force of " + text);
        }
    }

    /** Behind a beginning, these bytes alone of all 256 go on. */
    private static void goesOn(String beginning, String bytes) {
        for (int b = 0; b < 256; b++) {
            Office o = office();
            int number = o.make(ROYALTY, 0, beginning + (char) b);
            boolean isFaultThere = number == -100 - beginning.length();
            checks.holds(isFaultThere == bytes.indexOf(b) < 0, "byte " + b + " behind '" + beginning + "' answers " + number);
        }
    }

    // Promise 17: "n (1 .. 4) bytes come to THE TAPE, the lowest of v first: how many it has. NONE, FULL." At most 120 bytes.

    private static void p17_nFrom1To4() {
        Office o = office(1);
        o.refused(NONE, x -> x.feed(0, 49), "n 0");
        o.refused(NONE, x -> x.feed(5, 49), "n 5");
        for (int v : FAR_OUT) o.refused(NONE, x -> x.feed(v, 49), "n " + v);
        o.due(1, x -> x.feed(1, '1'), "n 1");
        o.due(3, x -> x.feed(2, 0x2b31), "n 2");
        o.due(6, x -> x.feed(3, 0x2b2b2b), "n 3");
        o.due(10, x -> x.feed(4, 0x2b2b2b2b), "n 4");
        o.told(10, x -> x.count(7), "bytes");
    }

    private static void p17_lowestFirst() {
        for (int n = 1; n <= 4; n++) {
            int many = n;
            Office o = office(1);
            o.open(0, 150);
            o.due(many, x -> x.feed(many, 0x34333231), "1, 2, 3, 4");
            o.due(0, x -> x.terms(ROYALTY, 0), "terms");
            o.told(new int[] {0, 1, 12, 123, 1234}[n], x -> x.gives(0, 0, 0), "the lowest bytes alone");
        }
    }

    private static void p17_bytesAbove127() {
        Office o = office(1);
        o.due(4, x -> x.feed(4, 0xff313131), "the highest byte is 255");
        o.due(-103, x -> x.terms(ROYALTY, 0), "255 is no byte of a text");
        o.due(1, x -> x.feed(1, 0x131), "bits above the byte");
        o.due(0, x -> x.terms(ROYALTY, 0), "are none of it");
        o.due(4, x -> x.feed(4, Integer.MIN_VALUE), "0, 0, 0, 128");
        o.due(-100, x -> x.terms(ROYALTY, 0), "0 is no byte of a text");
    }

    private static void p17_fullBehind120() {
        int[][] steps = {{1, 119}, {2, 118}, {3, 117}, {4, 116}};
        for (int[] step : steps) {
            int n = step[0];
            Office o = office(1);
            o.open(0, 150);
            o.feed("1+".repeat(60).substring(0, step[1]));
            for (int more = n + 1; more <= 4; more++) {
                int many = more;
                o.refused(FULL, x -> x.feed(many, 0x31313131), more + " behind " + step[1]);
            }
            o.told(step[1], x -> x.count(7), "bytes");
            o.due(120, x -> x.feed(n, 0x31313131), n + " behind " + step[1]);
            for (int more = 1; more <= 4; more++) {
                int many = more;
                o.refused(FULL, x -> x.feed(many, 0x31313131), more + " behind 120");
            }
            o.told(120, x -> x.count(7), "bytes");
        }
    }

    private static void p17_all120BytesCount() {
        Office o = office(1);
        o.open(0, 150);
        o.feed("0+".repeat(58) + "9876");
        o.told(120, x -> x.count(7), "bytes");
        o.due(0, x -> x.terms(ROYALTY, 0), "terms of 120 bytes");
        o.told(9876, x -> x.gives(0, 0, 0), "the last byte counts");
    }

    private static void p17_noneAheadOfFull() {
        Office o = office(1);
        o.feed("1".repeat(120));
        o.refused(NONE, x -> x.feed(0, 49), "n 0 when full");
        o.refused(NONE, x -> x.feed(5, 49), "n 5 when full");
        o.refused(NONE, x -> x.feed(-1, 49), "n -1 when full");
        o.refused(FULL, x -> x.feed(1, 49), "full");
    }

    private static void p17_emptyBehindTerms() {
        Office o = office(1);
        o.feed("1".repeat(6));
        o.due(0, x -> x.terms(ROYALTY, 0), "terms");
        o.due(1, x -> x.feed(1, '1'), "the first byte again");
        o.feed("1".repeat(119));
        o.due(-106, x -> x.terms(ROYALTY, 0), "a fault");
        o.due(2, x -> x.feed(2, 0x3131), "the first bytes again");
    }

    // Promise 18: "THE TAPE becomes TERMS of a KIND for DAYS from one on, made TODAY, and is empty then: their number (0 .. 19);
    // -100 less the FAULT. NONE (day 0 .. 9999), FULL (THE TAPE stays)."

    private static void p18_kindFrom0To2() {
        Office o = office(1);
        o.open(0, 150);
        o.feed("12");
        o.refused(NONE, x -> x.terms(-1, 0), "kind -1");
        o.refused(NONE, x -> x.terms(3, 0), "kind 3");
        for (int v : FAR_OUT) o.refused(NONE, x -> x.terms(v, 0), "kind " + v);
        o.told(2, x -> x.count(7), "the tape stays");
        o.due(0, x -> x.terms(0, 0), "kind 0");
        checks.due(1, o.make(1, 0, "1"), "kind 1");
        checks.due(2, o.make(2, 0, "1"), "kind 2");
        o.told(12, x -> x.gives(0, 0, 0), "what was on the tape");
    }

    private static void p18_dayFrom0To9999() {
        Office o = office(1);
        o.feed("12");
        o.refused(NONE, x -> x.terms(0, -1), "day -1");
        o.refused(NONE, x -> x.terms(0, 10000), "day 10000");
        for (int v : FAR_OUT) o.refused(NONE, x -> x.terms(0, v), "day " + v);
        o.due(0, x -> x.terms(0, 9999), "day 9999");
        o.told(NOT, x -> x.inForce(0, 9998, 0), "ahead of it");
        o.told(0, x -> x.inForce(0, 9999, 0), "from it on");
        checks.due(1, o.make(0, 0, "1"), "day 0");
        o.told(1, x -> x.inForce(0, 0, 0), "from it on");
    }

    private static void p18_numbersFrom0To19() {
        Office o = office(1);
        o.open(0, 150);
        for (int i = 0; i < 20; i++) {
            int number = i;
            checks.due(i, o.make(i % 3, 0, "" + (100 + i)), "the next number");
            o.told(0, x -> x.count(7), "the tape is empty");
            o.told(100 + i, x -> x.gives(number, 0, 0), "its own text");
        }
        o.told(100, x -> x.gives(0, 0, 0), "the first stands");
        o.told(20, x -> x.count(4), "TERMS");
    }

    private static void p18_fullAt20TheTapeStays() {
        Office o = office(1);
        o.open(0, 150);
        for (int i = 0; i < 20; i++) o.terms(i % 3, 0, "1");
        o.feed("77");
        o.refused(FULL, x -> x.terms(0, 0), "the 21st");
        o.refused(FULL, x -> x.terms(2, 9999), "the 21st");
        o.told(2, x -> x.count(7), "the tape stays");
        o.told(20, x -> x.count(4), "TERMS");
        o.told(NONE, x -> x.gives(20, 0, 0), "none of number 20");
        o.due(3, x -> x.feed(1, '+'), "the tape goes on");
    }

    private static void p18_noneAheadOfFull() {
        Office o = office(1);
        for (int i = 0; i < 20; i++) o.terms(i % 3, 0, "1");
        o.feed("7");
        o.refused(NONE, x -> x.terms(3, 0), "kind 3 when full");
        o.refused(NONE, x -> x.terms(0, 10000), "day 10000 when full");
        o.told(1, x -> x.count(7), "the tape stays");
    }

    private static void p18_noneAheadOfAFault() {
        Office o = office(1);
        o.feed("1+");
        o.refused(NONE, x -> x.terms(3, 0), "kind 3 with a fault");
        o.refused(NONE, x -> x.terms(0, -1), "day -1 with a fault");
        o.told(2, x -> x.count(7), "the tape stays");
        o.due(-102, x -> x.terms(0, 0), "the fault");
        o.told(0, x -> x.count(7), "the tape is empty then");
    }

    private static void p18_fullAheadOfAFault() {
        Office o = office(1);
        for (int i = 0; i < 20; i++) o.terms(i % 3, 0, "1");
        o.refused(FULL, x -> x.terms(0, 0), "an empty tape when full");
        o.feed("1+");
        o.refused(FULL, x -> x.terms(0, 0), "a fault when full");
        o.told(2, x -> x.count(7), "the tape stays");
    }

    private static void p18_aFaultTakesNoNumber() {
        Office o = office(1);
        o.open(0, 150);
        checks.due(-100, o.make(0, 0, ""), "an empty tape");
        checks.due(-101, o.make(0, 0, "("), "a fault");
        o.told(0, x -> x.count(4), "TERMS");
        checks.due(0, o.make(0, 0, "5"), "the first number");
        checks.due(-103, o.make(0, 0, "5+6)"), "a fault behind it");
        checks.due(1, o.make(0, 0, "6"), "the next number");
        o.told(5, x -> x.gives(0, 0, 0), "the first stands");
    }

    private static void p18_madeToday() {
        Office o = office(1);
        o.ask(x -> x.days(7));
        o.terms(0, 0, "1");
        o.told(NOT, x -> x.inForce(0, 9999, 6), "not known the day ahead");
        o.told(0, x -> x.inForce(0, 9999, 7), "known that day");
        Office late = office(1);
        late.until(9999);
        late.terms(0, 0, "1");
        late.told(NOT, x -> x.inForce(0, 9999, 9998), "not known the day ahead");
        late.told(0, x -> x.inForce(0, 9999, 9999), "known that day");
    }

    // "TEXT: THE TAPE: BANDS, one or more, parted by ;"

    private static void p18_bandsOneOrMore() {
        faulty(0, "", ";", ";1");
        faulty(2, "1;", "1;;", "t;,", "1;;1");
        faulty(4, "1;2;", "1;2;;");
        sound("1", "1;2", "1;2;3", "t;1<2,3;f", "1<2,3;4<5,6");
    }

    // "BAND: E, or T , E (T a TEST). T = S < S, S = S, or S > S. E = S."

    private static void p18_aBandIsEOrTAndE() {
        sound("1", "1<2,3", "1=2,3", "1>2,3", "t+1<f-1,m*2");
        faulty(1, "1,2", "t,", "1,");
        faulty(2, "1<", "1=", "1>", "1<,2", "1<;", "1<<2", "1<=2,3", "1>=2,3", "1==2,3", "1<>2,3", "1=<2,3");
        faulty(3, "1<2", "1=2", "1>2", "1<2;3", "1<2<3", "1<2=3", "1<2>3");
        faulty(4, "1<2,", "1<2,;", "1<2,,3", "1<2,<");
        faulty(5, "1<2,3,", "1<2,3<4", "1<2,3=4", "1<2,3>4", "1<2,3,4");
        faulty(0, "<2,3", "=", ">1", ",1");
        faulty(6, "1;2<3,", "1;2<3,;");
        faulty(3, "1;2,3");
    }

    // "S = P { + P, - P }. P = O { * O, / O }."

    private static void p18_signsStandBetween() {
        sound("1+2", "1-2", "1*2", "1/2", "1+2-3*4/5", "t*t/t", "1-1-1");
        faulty(0, "+1", "-1", "*1", "/1", "-", "+");
        faulty(2, "1+", "1-", "1*", "1/", "1++2", "1+-2", "1--2", "1*-2", "1**2", "1//2", "1/*2", "1+*2");
        faulty(4, "1+2+", "1*2*", "1*2/", "1+2*;");
        faulty(2, "1+<2,3", "1*=2,3", "1-,3", "1+;2", "1+)");
    }

    // "O = a number (1 to 6 digits), a NAME, ( S )."

    private static void p18_numbersOf1To6Digits() {
        sound("0", "9", "12", "123", "1234", "12345", "123456", "000000", "999999", "123456+123456");
        faulty(6, "1234567", "0000000", "0000001", "12345678", "999999t", "1234560");
        faulty(8, "1+1234567", "t*1234567;1");
        faulty(7, "(1234567)");
    }

    private static void p18_numbersMayBeginWith0() {
        gives(5, "000005");
        gives(0, "000000");
        gives(123456, "123456");
        gives(999999, "999999");
        gives(7, "07");
    }

    private static void p18_names() {
        sound("t", "f", "m", "y", "s", "t+f+m+y+s");
        faulty(0, "a", "T", "F", "M", "Y", "S", "x", "d", "_", "k");
        faulty(1, "tt", "tf", "t1", "1t", "s(", "1(", "t(1)");
        faulty(2, "1+x", "t*T");
    }

    private static void p18_brackets() {
        sound("(1)", "((t))", "(1+2)*(3-4)", "((1)+(2))", "(1)<(2),(3)", "(1);(2)");
        faulty(1, "()", "()1", "(+1)", "(", "(;", "(<", "(,", "1)", "(*1)");
        faulty(2, "(1", "(1;", "(1,", "(1<2),3", "(1=2)", "(1>2)", "(1;2)", "(1,2)", "(t(", "((", "((+");
        faulty(3, "(1)(2)", "(1)2", "(1)t", "(1))", "(1+", "(1+)");
        faulty(0, ")", ")1", ")(");
    }

    private static void p18_noBlanks() {
        faulty(0, " ", " 1", "\n1", "\t1");
        faulty(1, "1 ", "1 +2", "t ", "1\n", "( 1)");
        faulty(2, "1+ 2", "(1 )", "1; 2", "1< 2,3");
        faulty(4, "1<2, 3");
    }

    // "at most 8 ( are open at once"

    private static void p18_atMost8OpenAtOnce() {
        for (int deep = 1; deep <= 8; deep++) sound("(".repeat(deep) + "1" + ")".repeat(deep));
        faulty(8, "(".repeat(9), "(".repeat(9) + "1" + ")".repeat(9), "(".repeat(8), "(".repeat(8) + ")", "(".repeat(20));
        faulty(9, "(".repeat(8) + "1");
        faulty(16, "(".repeat(8) + "1" + ")".repeat(7));
        faulty(17, "(".repeat(8) + "1" + ")".repeat(9));
        faulty(10, "(".repeat(8) + "1+(2");
    }

    private static void p18_closedOnesAreNotOpen() {
        String eight = "(".repeat(8) + "1" + ")".repeat(8);
        sound(eight + "+" + eight, eight + "<" + eight + "," + eight, eight + ";" + eight, "(1)+(2)+(3)+(4)+(5)+(6)+(7)+(8)+(9)+(1)");
        sound("(" + "(".repeat(7) + "1" + ")".repeat(7) + "+" + "(".repeat(7) + "1" + ")".repeat(7) + ")");
        faulty(18 + 8, eight + "+" + "(".repeat(9));
        faulty(1 + 15 + 1 + 7, "(" + "(".repeat(7) + "1" + ")".repeat(7) + "+" + "(".repeat(8));
        faulty(18 + 8, eight + "<" + "(".repeat(9), eight + ";" + "(".repeat(9));
        faulty(4 + 8, "1<2," + "(".repeat(9));
    }

    // "FAULT: the place (from 0) of the first byte with which no TEXT goes on; the length, if it ends too early."

    private static void p18_firstByteThatGoesOnNowhere() {
        String digits = "0123456789";
        String begin = digits + "tfmys(";
        String signs = "+-*/";
        goesOn("", begin);
        goesOn("t", signs + "<=>;");
        goesOn("1", digits + signs + "<=>;");
        goesOn("12345", digits + signs + "<=>;");
        goesOn("123456", signs + "<=>;");
        goesOn("(1)", signs + "<=>;");
        goesOn("t+", begin);
        goesOn("t-", begin);
        goesOn("t*", begin);
        goesOn("t/", begin);
        goesOn("t<", begin);
        goesOn("t=", begin);
        goesOn("t>", begin);
        goesOn("t<t", signs + ",");
        goesOn("t=1", digits + signs + ",");
        goesOn("t<t,", begin);
        goesOn("t>t,t", signs + ";");
        goesOn("t<t,t;", begin);
        goesOn("t<t,t;t", signs + "<=>;");
        goesOn("t;", begin);
        goesOn("t;t<t", signs + ",");
        goesOn("(", begin);
        goesOn("(t", signs + ")");
        goesOn("(1", digits + signs + ")");
        goesOn("((t)", signs + ")");
        goesOn("((((((((", digits + "tfmys");
        goesOn("(((((((", begin);
        goesOn("t<(t", signs + ")");
    }

    private static void p18_theLengthIfItEndsTooEarly() {
        String text = "(t+1)*2<(f/3),(m-4);y>5,s;6";
        for (int length = 0; length <= text.length(); length++) {
            String cut = text.substring(0, length);
            boolean isWhole = length == 5 || length == 7 || length == 19 || length == 21 || length == 25 || length == 27;
            if (isWhole) sound(cut);
            else faulty(length, cut);
        }
    }

    private static void p18_endsTooEarlyAt120() {
        faulty(120, "1+".repeat(60), "(" + "1+".repeat(59) + "1", "t;".repeat(60));
        faulty(119, "1+".repeat(59) + "1)", "1+".repeat(59) + "1,");
        sound("1+".repeat(59) + "12", "t;".repeat(59) + "t");
    }

    // Promise 19: "TERMS of a KIND in force on a DAY AS KNOWN on DAY k; NOT. NONE."

    private static void p19_kindFrom0To2() {
        Office o = office();
        for (int kind = 2; kind >= 0; kind--) o.terms(kind, 0, "1");
        o.told(NONE, x -> x.inForce(-1, 0, 0), "kind -1");
        o.told(NONE, x -> x.inForce(3, 0, 0), "kind 3");
        for (int v : FAR_OUT) o.told(NONE, x -> x.inForce(v, 0, 0), "kind " + v);
        for (int i = 0; i < 3; i++) {
            int kind = i;
            o.told(2 - kind, x -> x.inForce(kind, 0, 0), "kind " + i);
        }
    }

    private static void p19_daysFrom0To9999() {
        Office o = office();
        o.terms(ROYALTY, 0, "1");
        o.told(NONE, x -> x.inForce(0, -1, 0), "day -1");
        o.told(NONE, x -> x.inForce(0, 10000, 0), "day 10000");
        o.told(NONE, x -> x.inForce(0, 0, -1), "k -1");
        o.told(NONE, x -> x.inForce(0, 0, 10000), "k 10000");
        for (int v : FAR_OUT) {
            o.told(NONE, x -> x.inForce(0, v, 0), "day " + v);
            o.told(NONE, x -> x.inForce(0, 0, v), "k " + v);
        }
        o.told(0, x -> x.inForce(0, 0, 0), "day 0, k 0");
        o.told(0, x -> x.inForce(0, 9999, 9999), "day 9999, k 9999");
        o.told(0, x -> x.inForce(0, 0, 9999), "known later than the day");
        o.told(0, x -> x.inForce(0, 9999, 0), "known ahead of the day");
    }

    private static void p19_noneAheadOfNot() {
        Office o = office();
        o.told(NOT, x -> x.inForce(0, 0, 0), "without any");
        o.told(NONE, x -> x.inForce(3, 0, 0), "kind 3 without any");
        o.told(NONE, x -> x.inForce(0, 10000, 0), "day 10000 without any");
        o.told(NONE, x -> x.inForce(0, 0, 10000), "k 10000 without any");
    }

    private static void p19_madeOnDayKOrAhead() {
        Office o = office();
        o.ask(x -> x.days(5));
        o.terms(ROYALTY, 0, "1");
        o.told(NOT, x -> x.inForce(0, 100, 4), "made the day behind k");
        o.told(0, x -> x.inForce(0, 100, 5), "made on day k");
        o.told(0, x -> x.inForce(0, 100, 6), "made ahead of it");
        o.told(0, x -> x.inForce(0, 0, 5), "for a day that was ahead of its making");
    }

    private static void p19_forThatDayOrAnEarlierOne() {
        Office o = office();
        o.terms(ROYALTY, 20, "1");
        o.told(NOT, x -> x.inForce(0, 19, 9999), "for the day behind it");
        o.told(0, x -> x.inForce(0, 20, 9999), "for that day");
        o.told(0, x -> x.inForce(0, 21, 9999), "for an earlier one");
    }

    private static void p19_theOneMadeLast() {
        Office o = office();
        o.terms(ROYALTY, 20, "1");
        o.terms(ROYALTY, 10, "2");
        o.told(1, x -> x.inForce(0, 20, 0), "made last on one day, though for an earlier day");
        o.told(1, x -> x.inForce(0, 10, 0), "made last");
        o.terms(ROYALTY, 15, "3");
        o.told(2, x -> x.inForce(0, 20, 0), "made last");
        o.told(1, x -> x.inForce(0, 14, 0), "the last one is for a later day");
        o.ask(x -> x.days(1));
        o.terms(ROYALTY, 0, "4");
        o.told(3, x -> x.inForce(0, 20, 1), "made last of all");
        o.told(2, x -> x.inForce(0, 20, 0), "not known yet");
        o.told(3, x -> x.inForce(0, 0, 1), "the only one for that day");
        o.told(NOT, x -> x.inForce(0, 0, 0), "not known yet");
    }

    private static void p19_ofItsKind() {
        Office o = office();
        o.terms(FUND, 0, "1");
        o.told(NOT, x -> x.inForce(ROYALTY, 9999, 9999), "of another kind");
        o.told(NOT, x -> x.inForce(CURE, 9999, 9999), "of another kind");
        o.terms(CURE, 0, "2");
        o.told(0, x -> x.inForce(FUND, 9999, 9999), "made last of its kind");
        o.told(NOT, x -> x.inForce(ROYALTY, 9999, 9999), "of another kind");
    }

    // Promise 20: "What TERMS would give for a SHOP in a MONTH (0 .. 332), as they count (of CURE likewise by that MONTH's last DAY).
    // NONE."

    private static void p20_termsThatAre() {
        Office o = office(1);
        o.open(0, 150);
        o.told(NONE, x -> x.gives(0, 0, 0), "no terms");
        o.terms(ROYALTY, 0, "7");
        o.told(NONE, x -> x.gives(1, 0, 0), "terms that are not yet");
        for (int v : FAR_OUT) o.told(NONE, x -> x.gives(v, 0, 0), "terms " + v);
        o.told(7, x -> x.gives(0, 0, 0), "terms 0");
    }

    private static void p20_terms19() {
        Office o = office(1);
        o.open(0, 150);
        for (int i = 0; i < 19; i++) o.terms(ROYALTY, 0, "1");
        o.told(NONE, x -> x.gives(19, 0, 0), "not yet");
        o.terms(ROYALTY, 0, "8");
        o.told(8, x -> x.gives(19, 0, 0), "terms 19");
        o.told(NONE, x -> x.gives(20, 0, 0), "terms 20");
    }

    private static void p20_shopsThatAre() {
        Office o = office(1);
        o.terms(ROYALTY, 0, "7");
        o.told(NONE, x -> x.gives(0, 0, 0), "no shops");
        o.open(0, 150);
        o.told(NONE, x -> x.gives(0, 1, 0), "a shop that is not yet");
        for (int v : FAR_OUT) o.told(NONE, x -> x.gives(0, v, 0), "shop " + v);
        o.ask(x -> x.close(0));
        o.told(7, x -> x.gives(0, 0, 0), "a closed one");
    }

    private static void p20_monthFrom0To332() {
        Office o = office(1);
        o.open(0, 150);
        o.terms(ROYALTY, 0, "m+1");
        o.told(NONE, x -> x.gives(0, 0, -1), "month -1");
        o.told(NONE, x -> x.gives(0, 0, 333), "month 333");
        for (int v : FAR_OUT) o.told(NONE, x -> x.gives(0, 0, v), "month " + v);
        o.told(1, x -> x.gives(0, 0, 0), "month 0");
        o.told(333, x -> x.gives(0, 0, 332), "month 332");
    }

    private static void p20_whateverDaysAndKindTheyAreOf() {
        Office o = office(1);
        o.open(0, 150);
        for (int kind = 0; kind <= 2; kind++) {
            int number = kind;
            o.terms(kind, 9999, "m*10+y");
            o.told(120 + 1, x -> x.gives(number, 0, 12), "kind " + kind + ", for days from 9999 on");
        }
    }

    // "What it gives counts as 0 at least, 1000000 at most."

    private static void p20_0AtLeast() {
        gives(0, "0-1");
        gives(0, "0");
        gives(1, "1");
        gives(0, "0-999999*2000");
        gives(0, "5-6");
        gives(1, "6-5");
    }

    private static void p20_1000000AtMost() {
        gives(999999, "999999");
        gives(1000000, "999999+1");
        gives(1000000, "999999+2");
        gives(1000000, "1000*1000+1");
        gives(1000000, "46340*46340");
        gives(999999, "1000*1000-1");
    }

    private static void p20_onlyTheWholeIsBounded() {
        gives(5, "0-5+10");
        gives(7, "000000/1+7");
        gives(3, "999999*2-999999-999996");
        gives(9, "0-1<0,9;8");
        gives(9, "999999*2>999999+1,9;8");
    }

    // "Ints that wrap; / towards 0, by 0 it gives 0."

    private static void p20_intsThatWrap() {
        // 65536 * 32768 is the least int.
        gives(0, "65536*32768");
        gives(1000000, "65536*32768-1");
        gives(0, "65536*32767+65535+1");
        gives(1000000, "65536*32767+65535");
        gives(4, "65536*65536+4");
        gives(1, "65536*32768<0,1;2");
        gives(2, "65536*32768-1<0,1;2");
        gives(1, "0-65536*32768=65536*32768,1;2");
    }

    private static void p20_divisionTowards0() {
        gives(3, "7/2");
        gives(97, "100+(0-7)/2");
        gives(97, "100+7/(0-2)");
        gives(3, "(0-7)/(0-2)");
        gives(10, "10+(0-1)/2");
        gives(0, "1/2");
        gives(0, "0/5");
    }

    private static void p20_divisionBy0() {
        gives(0, "5/0");
        gives(3, "5/0+3");
        gives(7, "0/0+7");
        gives(0, "5/0*9");
        gives(4, "5/(3-3)+4");
        gives(2, "5/0=0,2;1");
        gives(6, "5/0/0+6");
        gives(0, "0-5/0");
    }

    private static void p20_theLeastIntByMinus1() {
        gives(0, "65536*32768/(0-1)");
        gives(1, "65536*32768/(0-1)=65536*32768,1;2");
    }

    private static void p20_fromTheLeft() {
        gives(1, "10-5-4");
        gives(9, "10-5+4");
        gives(2, "20/5/2");
        gives(8, "20/5*2");
        gives(14, "2+3*4");
        gives(10, "2*3+4");
        gives(20, "(2+3)*4");
        gives(9, "10-(5-4)");
        gives(8, "10-6/3");
        gives(20, "20/(5/5)");
    }

    // "The TEXT gives the E of its first BAND that has no TEST, or whose TEST is so; 0 if none."

    private static void p20_testsAtTheirEdges() {
        gives(8, "1<2,8;9");
        gives(9, "2<2,8;9");
        gives(9, "3<2,8;9");
        gives(9, "1=2,8;9");
        gives(8, "2=2,8;9");
        gives(9, "3=2,8;9");
        gives(9, "1>2,8;9");
        gives(9, "2>2,8;9");
        gives(8, "3>2,8;9");
        gives(8, "0-1<1,8;9");
    }

    private static void p20_firstBandThatIsSo() {
        gives(5, "5;6;7");
        gives(6, "1>2,5;6;7");
        gives(5, "1<2,5;6;7");
        gives(7, "1>2,5;2=3,6;7;8");
        gives(6, "1>2,5;2=2,6;7;8");
        gives(5, "1=1,5;1=1,6");
        gives(0, "0;6");
        gives(0, "1=1,0;6");
        gives(0, "1=1,0-5;6");
    }

    private static void p20_0IfNone() {
        gives(0, "1>2,5");
        gives(0, "1>2,5;2=3,6");
        gives(6, "1>2,5;2=3,6;3<4,6");
    }

    // NAMES

    private static void p20_takingsAndFlourTold() {
        Office o = office(1, 1);
        o.open(0, 150);
        o.open(1, 150);
        o.terms(CURE, 0, "t");
        o.terms(CURE, 0, "f");
        o.ask(x -> x.days(90));
        o.told(0, x -> x.gives(0, 0, 1), "0 if none is told");
        o.told(0, x -> x.gives(1, 0, 1), "0 if none is told");
        o.ask(x -> x.month(0, 1, 99999, 9999, 5));
        o.told(99999, x -> x.gives(0, 0, 1), "TAKINGS told");
        o.told(9999, x -> x.gives(1, 0, 1), "FLOUR told");
        o.told(0, x -> x.gives(0, 0, 0), "of the month ahead");
        o.told(0, x -> x.gives(0, 0, 2), "of the month behind");
        o.told(0, x -> x.gives(0, 1, 1), "of another shop");
        o.ask(x -> x.month(0, 0, 0, 0, 0));
        o.told(0, x -> x.gives(0, 0, 0), "told as 0");
    }

    private static void p20_wholeYears() {
        Office o = office(1, 1);
        o.terms(ROYALTY, 0, "y");
        o.ask(x -> x.days(29));
        o.open(0, 150);
        o.ask(x -> x.days(1));
        o.open(1, 150);
        o.told(0, x -> x.gives(0, 0, 0), "opened on THE DAY");
        o.told(0, x -> x.gives(0, 0, 11), "330 days");
        o.told(1, x -> x.gives(0, 0, 12), "360 days");
        o.told(1, x -> x.gives(0, 0, 23), "690 days");
        o.told(2, x -> x.gives(0, 0, 24), "720 days");
        o.told(0, x -> x.gives(0, 1, 12), "359 days");
        o.told(1, x -> x.gives(0, 1, 13), "389 days");
        o.told(27, x -> x.gives(0, 0, 332), "9960 days");
        o.ask(x -> x.close(0));
        o.told(27, x -> x.gives(0, 0, 332), "of a closed one, too");
    }

    private static void p20_yearsOfAShopOpenedLater() {
        Office o = office(1);
        o.terms(ROYALTY, 0, "y+5");
        o.until(9999);
        o.open(0, 150);
        o.told(5, x -> x.gives(0, 0, 0), "0 if that is ahead");
        o.told(5, x -> x.gives(0, 0, 332), "0 if that is ahead by 10 days");
        o.told(5, x -> x.gives(0, 0, 320), "0 if that is ahead by more than a year");
    }

    private static void p20_shopsOfItsOwnerOpenedByThen() {
        Office o = office(1, 1, 1, 1);
        o.terms(ROYALTY, 0, "s");
        o.ask(x -> x.days(29));
        o.open(0, 150);
        o.ask(x -> x.days(1));
        o.open(1, 150);
        o.open(2, 250);
        o.told(1, x -> x.gives(0, 0, 0), "opened on THE DAY; the other a day later");
        o.told(2, x -> x.gives(0, 0, 1), "both");
        o.told(1, x -> x.gives(0, 2, 1), "of its OWNER");
        o.told(0, x -> x.gives(0, 2, 0), "it was not open itself");
    }

    private static void p20_shopsOfItsOwnerNotClosedByThen() {
        Office o = office(1, 1, 1);
        o.terms(ROYALTY, 0, "s");
        for (int i = 0; i < 3; i++) o.open(i, 150);
        o.told(3, x -> x.gives(0, 0, 332), "as far as is told now");
        o.ask(x -> x.days(29));
        o.ask(x -> x.close(1));
        o.told(2, x -> x.gives(0, 0, 0), "closed on THE DAY");
        o.ask(x -> x.days(1));
        o.ask(x -> x.close(2));
        o.told(2, x -> x.gives(0, 0, 0), "closed the day behind it");
        o.told(1, x -> x.gives(0, 0, 1), "closed by then");
        o.ask(x -> x.close(0));
        o.told(0, x -> x.gives(0, 0, 332), "all closed");
    }
}
