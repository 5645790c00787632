/** Edges of Terms 4 and of the promises 23 to 27 (P23 to P27): a tape that is empty or full, FAULTS, wraps, refused calls. */
public final class TextsEdgesTest {
    private static final Due DUE = new Due("TextsEdgesTest");
    private static final String EIGHT = "((((((((";
    private static final String SHUT = "))))))))";
    private static final String NOTS = "!!!!!!!!";

    public static void main(String[] args) {
        t4NumbersHaveFourDigits();
        t4WordsNeedABlank();
        t4Blanks();
        t4OtherBytesAreSigns();
        t4EndTooSoon();
        t4KeyIsOneOfThree();
        t4NamesAreOfTheirKey();
        t4OneTestAlone();
        t4LoosestFirst();
        t4NinthParenthesis();
        t4NinthNot();
        t4EachByItself();
        t4IntsWrap();
        t4ByZero();
        t4CutsTowardsZero();
        t4TruthIsNotZero();
        t4BothSidesAreWorkedOut();
        t4LastToldCounts();
        t4LongestTexts();
        p23HighestFirst();
        p23Room();
        p23Full();
        p24Ends();
        p24Bad();
        p25EmptyTape();
        p25Fault();
        p25FaultLeavesTheRest();
        p25Full();
        p25FaultAheadOfFull();
        p25RoomBehindBack();
        p26Bad();
        p26Ends();
        p27Bad();
        p27None();
        p27Last();
        DUE.end();
    }

    private static void right(String which, String text) {
        WhiteSlope x = new WhiteSlope();
        DUE.is(which + ": '" + text + "'", Due.text(x, text), 0);
        DUE.is(which + ": the tape is used up by '" + text + "'", x.count(8), 0);
    }

    private static void fault(String which, String text, int place) {
        WhiteSlope x = new WhiteSlope();
        DUE.is(which + ": '" + text + "'", Due.text(x, text), -100 - place);
        DUE.is(which + ": no TEXT of '" + text + "'", x.count(6), 0);
        DUE.is(which + ": the tape is used up by '" + text + "'", x.count(8), 0);
    }

    /** What risk gives at STEEP 7, LOAD 100, DANGER 5. */
    private static void gives(String which, String e, int want) {
        WhiteSlope x = new WhiteSlope();
        x.place(0, 0, 7, 100);
        x.today(0, 5);
        DUE.is(which + ": '" + e + "' is read", Due.text(x, "risk " + e), 0);
        DUE.is(which + ": " + e, x.told(0, 3), want);
    }

    // Terms 4: "NUMBER (1 to 4 digits)"; FAULT: "a NUMBER of more than 4 digits".
    private static void t4NumbersHaveFourDigits() {
        gives("T4 NUMBER: 1 digit", "9", 9);
        gives("T4 NUMBER: 4 digits", "0998", 998);
        gives("T4 NUMBER: 4 digits, the greatest", "9999/11", 909);
        gives("T4 NUMBER: the least", "0", 0);
        fault("T4 NUMBER: 5 digits", "risk 12345", 5);
        fault("T4 NUMBER: 5 digits, though it is small", "risk 00001", 5);
        fault("T4 NUMBER: 5 digits further on", "risk (1+ 10000)", 9);
        fault("T4 NUMBER: many digits", "risk 1234567890123456789012345678901234567890", 5);
    }

    // Terms 4: "a word right behind another one needs one"; FAULT: "a word that needs a blank ahead of it".
    private static void t4WordsNeedABlank() {
        fault("T4 word: a NUMBER right behind the KEY", "risk5", 4);
        fault("T4 word: a NUMBER of 5 digits right behind the KEY", "risk12345", 4);
        fault("T4 word: a letter right behind the KEY makes it another word", "risks", 0);
        fault("T4 word: a NAME right behind a NUMBER", "risk 5s", 6);
        fault("T4 word: a NUMBER right behind a NAME", "risk s5", 6);
        fault("T4 word: two letters are one word", "risk ss", 5);
        fault("T4 word: a is a letter", "risk sa", 5);
        fault("T4 word: z is a letter", "risk sz", 5);
        fault("T4 word: 0 is a digit", "risk 10000", 5);
        fault("T4 word: 9 is a digit", "risk 99999", 5);
        fault("T4 word: with a blank no TEXT goes on, either", "risk 5 s", 7);
        right("T4 word: a sign needs none", "risk(s)");
        right("T4 word: a sign needs none", "risk!s");
        right("T4 word: one blank is enough", "risk s");
        gives("T4 word: signs part words", "5*s", 35);
    }

    // Terms 4: "Between words and signs, and at the ends, there may be blanks (byte 32)".
    private static void t4Blanks() {
        right("T4 blanks: none but the one that is needed", "risk 1+2");
        right("T4 blanks: ahead", "     risk 1");
        right("T4 blanks: behind", "risk 1     ");
        right("T4 blanks: everywhere", " risk ( 1 + ! s ) < 2 & l | d ");
        fault("T4 blanks: not within a KEY", "ri sk 1", 0);
        fault("T4 blanks: not within a NUMBER", "risk 1 2", 7);
        fault("T4 blanks: a tab is a sign", "risk\t1", 4);
        fault("T4 blanks: byte 0 is a sign", "risk 1\0", 6);
        fault("T4 blanks: byte 31 is a sign", "risk 1\037", 6);
        fault("T4 blanks: a line's end is a sign", "risk 1\n", 6);
    }

    // Terms 4: "any other byte is a sign by itself", those around a .. z and 0 .. 9, and above 127, too.
    private static void t4OtherBytesAreSigns() {
        for (char c : new char[] {'`', '{', ':', '@', 'A', 'S', 'Z', '[', '_', '.', ',', '%',
            '\u007f', '\u0080', '\u00ff', '\u00f3'}) {
            fault("T4 sign: byte " + (int) c + " as a piece", "risk " + c, 5);
            fault("T4 sign: byte " + (int) c + " behind a NAME", "risk s" + c, 6);
            fault("T4 sign: byte " + (int) c + " behind the KEY", "risk" + c + "1", 4);
            fault("T4 sign: byte " + (int) c + " ahead of the KEY", c + "risk 1", 0);
        }
        fault("T4 sign: / stands ahead of 0 in the order of bytes", "risk /", 5);
    }

    // Terms 4, FAULT: "the end (the place behind the last byte), if it comes too soon".
    private static void t4EndTooSoon() {
        fault("T4 end: no byte", "", 0);
        fault("T4 end: a blank", " ", 1);
        fault("T4 end: behind the KEY", "risk", 4);
        fault("T4 end: behind the KEY and blanks", "  step  ", 8);
        for (char sign : "+-*/<=>&|".toCharArray()) {
            fault("T4 end: behind " + sign, "hold s" + sign, 7);
            fault("T4 end: behind " + sign + " and a blank", "hold s " + sign + " ", 9);
        }
        fault("T4 end: behind !", "hold !", 6);
        fault("T4 end: behind (", "hold (", 6);
        fault("T4 end: ahead of )", "hold (s", 7);
        fault("T4 end: ahead of the second )", "hold ((s)", 9);
        StringBuilder blanks = new StringBuilder();
        for (int i = 0; i < 96; i++) {
            blanks.append(' ');
        }
        fault("T4 end: 96 blanks", blanks.toString(), 96);
        fault("T4 end: a KEY at the end of 96", blanks.substring(4) + "risk", 96);
    }

    // Terms 4: "KEY: risk | hold | step".
    private static void t4KeyIsOneOfThree() {
        for (String key : new String[] {"ris", "riskk", "rist", "hol", "holds", "hole", "ste", "steps", "stem",
            "r", "s"}) {
            fault("T4 KEY: none is", key + " 1", 0);
        }
        for (int i = 0; i < 4; i++) {
            for (String key : new String[] {"risk", "hold", "step"}) {
                fault("T4 KEY: one letter off", key.substring(0, i) + "x" + key.substring(i + 1) + " 1", 0);
            }
        }
        fault("T4 KEY: a NUMBER is none", "1 risk", 0);
        fault("T4 KEY: a sign is none", "(risk 1)", 0);
        fault("T4 KEY: none of capitals", "Risk 1", 0);
        fault("T4 KEY: not twice", "risk risk 1", 5);
        fault("T4 KEY: not behind a piece", "risk 1 hold 1", 7);
        fault("T4 KEY: none, behind blanks", "   rist 1", 3);
        right("T4 KEY: risk", "risk 1");
        right("T4 KEY: hold", "hold 1");
        right("T4 KEY: step", "step 1");
    }

    // Terms 4: "NAMES, each one letter: of risk s, l, d; of hold s, r; of step s, u".
    private static void t4NamesAreOfTheirKey() {
        String[] keys = {"risk", "hold", "step"};
        String[] has = {"sld", "sr", "su"};
        for (int key = 0; key < 3; key++) {
            for (char c = 'a'; c <= 'z'; c++) {
                if (has[key].indexOf(c) >= 0) {
                    right("T4 NAME: " + c + " of " + keys[key], keys[key] + " " + c);
                } else {
                    fault("T4 NAME: " + c + " is none of " + keys[key], keys[key] + " 1+" + c, 7);
                }
            }
        }
        fault("T4 NAME: two letters", "risk ld", 5);
        fault("T4 NAME: the word STEEP is none", "risk steep", 5);
    }

    // Terms 4: "TEST: SUM [ (< | = | >) SUM ]": one at most, others in ( ).
    private static void t4OneTestAlone() {
        for (String two : new String[] {"<<", "<=", "=<", "==", ">="}) {
            fault("T4 TEST: two signs", "risk 1" + two + "1", 7);
            fault("T4 TEST: two tests", "risk 1" + two.charAt(0) + "1" + two.charAt(1) + "1", 8);
        }
        right("T4 TEST: in ( )", "risk (1<2)<3");
        right("T4 TEST: by &", "risk 1<2&2<3|3<4");
        fault("T4 TEST: two in ( )", "risk (1<2<3)", 9);
    }

    // Terms 4: "E, the loosest first".
    private static void t4LoosestFirst() {
        gives("T4 loosest: | ahead of &", "1|1&0", 1);
        gives("T4 loosest: | ahead of &, the other way", "0&1|1", 1);
        gives("T4 loosest: & ahead of tests", "2>1&1", 1);
        gives("T4 loosest: & ahead of tests, the other way", "2&3>2", 1);
        gives("T4 loosest: tests ahead of sums", "3<2+2", 1);
        gives("T4 loosest: sums ahead of products", "2+3*4", 14);
        gives("T4 loosest: products ahead of !", "!0*7", 7);
        gives("T4 loosest: from the left, -", "9-4-3", 2);
        gives("T4 loosest: from the left, /", "80/4/5", 4);
        gives("T4 loosest: from the left, / and *", "9/2*2", 8);
    }

    // Terms 4, FAULT: "the ninth ( that would be open within others".
    private static void t4NinthParenthesis() {
        right("T4 ninth (: eight are right", "risk " + EIGHT + "1" + SHUT);
        fault("T4 ninth (", "risk " + EIGHT + "(1" + SHUT + ")", 13);
        fault("T4 ninth (: at it, ahead of what comes", "risk " + EIGHT + "(", 13);
        fault("T4 ninth (: behind a piece", "risk " + EIGHT + "1+(1" + SHUT + ")", 15);
        right("T4 ninth (: those that are shut are not open", "risk " + EIGHT + "1)+(1" + SHUT);
        right("T4 ninth (: eight, and eight again", "risk " + EIGHT + "1" + SHUT + "+" + EIGHT + "1" + SHUT);
        fault("T4 ninth (: in the second row of them", "risk (1)+" + EIGHT + "(1" + SHUT + ")", 17);
    }

    // Terms 4, FAULT: "the ninth ! likewise".
    private static void t4NinthNot() {
        right("T4 ninth !: eight are right", "risk " + NOTS + "1");
        fault("T4 ninth !", "risk " + NOTS + "!1", 13);
        fault("T4 ninth !: at it, ahead of what comes", "risk " + NOTS + "!", 13);
        fault("T4 ninth !: with blanks", "risk ! ! ! ! ! ! ! ! ! 1", 21);
        right("T4 ninth !: eight, and eight again", "risk " + NOTS + "1+" + NOTS + "1");
        fault("T4 ninth !: within ( )", "risk " + NOTS + "(!1)", 14);
        right("T4 ninth !: one that has ended is not open", "risk !!!!!!!(!1+!1)");
    }

    // Terms 4, FAULT: "each by itself": eight ( and eight ! may be open at once.
    private static void t4EachByItself() {
        right("T4 each by itself: eight and eight", "risk !(!(!(!(!(!(!(!(1" + SHUT);
        right("T4 each by itself: eight !, then eight (", "risk " + NOTS + EIGHT + "1" + SHUT);
        right("T4 each by itself: eight (, then eight !", "risk " + EIGHT + NOTS + "1" + SHUT);
        fault("T4 each by itself: the ninth !", "risk " + EIGHT + NOTS + "!1" + SHUT, 21);
        fault("T4 each by itself: the ninth (", "risk " + NOTS + EIGHT + "(1)" + SHUT, 21);
    }

    // Terms 4: "Ints wrap".
    private static void t4IntsWrap() {
        // 8192 * 8192 * 32 is 2 to the 31, the lowest int.
        String lowest = "8192*8192*32";
        gives("T4 wrap: * to the lowest int", lowest + "<0", 1);
        gives("T4 wrap: * by 2 is 0", lowest + "*2=0", 1);
        gives("T4 wrap: the lowest less 1 is the highest", lowest + "-1>0", 1);
        gives("T4 wrap: + behind the highest", "(" + lowest + "-1)+1=" + lowest, 1);
        gives("T4 wrap: 0 less the lowest is the lowest", "0-" + lowest + "=" + lowest, 1);
        gives("T4 wrap: the lowest by -1 is the lowest", lowest + "/(0-1)=" + lowest, 1);
        gives("T4 wrap: a product's lowest 32 bits", "9999*9999*9999", Math.max(0, Math.min(999, 9999 * 9999 * 9999)));
        gives("T4 wrap: tests are by what it wrapped to", "9999*9999*25<0", 1);
    }

    // Terms 4: "/ is 0 by 0".
    private static void t4ByZero() {
        gives("T4 by 0: a NUMBER", "7+5/0", 7);
        gives("T4 by 0: 0 by 0", "7+0/0", 7);
        gives("T4 by 0: what is 0", "7+5/(s-7)", 7);
        gives("T4 by 0: and on", "7+5/0/0*3", 7);
        gives("T4 by 0: below 0", "7+(0-5)/0", 7);
        gives("T4 by 0: the lowest int", "7+8192*8192*32/0", 7);
    }

    // Terms: "/ cuts towards 0".
    private static void t4CutsTowardsZero() {
        gives("T4 cut: 7 / 2", "7/2", 3);
        gives("T4 cut: -7 / 2", "10+(0-7)/2", 7);
        gives("T4 cut: 7 / -2", "10+7/(0-2)", 7);
        gives("T4 cut: -7 / -2", "(0-7)/(0-2)", 3);
        gives("T4 cut: -1 / 2", "10+(0-1)/2", 10);
    }

    // Terms 4: "tests, & | ! give 1 or 0 (what is not 0 is true ..".
    private static void t4TruthIsNotZero() {
        gives("T4 truth: below 0 is true for &", "(0-5)&(0-6)", 1);
        gives("T4 truth: below 0 is true for |", "0|(0-6)", 1);
        gives("T4 truth: below 0 is true for !", "!(0-1)", 0);
        gives("T4 truth: ! of 0", "!0", 1);
        gives("T4 truth: ! of 1", "7+!1", 7);
        gives("T4 truth: ! of 5, of 0", "(!5)*2+!0", 1);
        gives("T4 truth: ! of !", "7+!!5*10", 17);
        gives("T4 truth: & gives 0 else", "7+(3&0)", 7);
        gives("T4 truth: | gives 0 else", "7+(0|0)", 7);
        gives("T4 truth: tests give 0 else", "7+(1<0)+(1=0)+(0>1)", 7);
        gives("T4 truth: & gives 1, not a bit", "4&2", 1);
        gives("T4 truth: | gives 1, not a sum", "4|2", 1);
        gives("T4 truth: & with 0", "(4&0)+(0&4)+(0&0)", 0);
        gives("T4 truth: | with 0", "(4|0)+(0|4)+(0|0)", 2);
        gives("T4 truth: < = > at equals", "100*(7<s)+10*(7=s)+(7>s)", 10);
        gives("T4 truth: < = > just below", "100*(6<s)+10*(6=s)+(6>s)", 100);
        gives("T4 truth: < = > just above", "100*(8<s)+10*(8=s)+(8>s)", 1);
    }

    // Terms 4: "both sides are worked out": a / by 0 on a side that no longer counts does no harm.
    private static void t4BothSidesAreWorkedOut() {
        gives("T4 both sides: of |", "1|5/0", 1);
        gives("T4 both sides: of &", "0&5/0", 0);
    }

    // Terms 4: "Of a KEY that TEXT counts that was told last".
    private static void t4LastToldCounts() {
        WhiteSlope x = new WhiteSlope();
        Due.text(x, "risk 11");
        Due.text(x, "hold 12");
        DUE.is("T4 last told: the only one of its KEY", x.told(0, 3), 11);
        Due.text(x, "risk 13");
        DUE.is("T4 last told: the later one", x.told(0, 3), 13);
        Due.text(x, "risk 14+");
        DUE.is("T4 last told: a FAULT is not told", x.told(0, 3), 13);
        DUE.is("T4 last told: another KEY's stays", x.told(0, 6), 12);
    }

    // Terms 4: "THE TAPE (96 bytes at most ..": TEXTS of 96 bytes.
    private static void t4LongestTexts() {
        StringBuilder sum = new StringBuilder("risk 2");
        StringBuilder nots = new StringBuilder("risk ");
        while (sum.length() < 96) {
            sum.append("+2");
        }
        while (nots.length() < 92) {
            nots.append("!0|");
        }
        nots.append("!!!0");
        WhiteSlope x = new WhiteSlope();
        DUE.is("T4 longest: 46 pieces", Due.text(x, sum.toString()), 0);
        DUE.is("T4 longest: they are counted", x.textTold(0, 1), 46);
        DUE.is("T4 longest: they are worked out", x.told(0, 3), 92);
        DUE.is("T4 longest: 61 signs", Due.text(x, nots.toString()), 1);
        DUE.is("T4 longest: its pieces are counted", x.textTold(1, 1), 30);
        DUE.is("T4 longest: its signs are worked out", x.told(0, 3), 1);
        fault("T4 longest: a FAULT in the last of 96 bytes", sum.substring(0, 95) + ")", 95);
        fault("T4 longest: the end behind 96 bytes", sum.substring(0, 95) + "(", 96);
    }

    // Promise 23: "the highest of each number first".
    private static void p23HighestFirst() {
        WhiteSlope x = new WhiteSlope();
        DUE.is("P23 feed: twelve", x.feed(0x7269736b, 0x20333030, 0x2b732a37), 12);
        DUE.is("P23 feed: 'risk 300+s*7'", x.text(), 0);
        DUE.is("P23 feed: what it gives", x.told(0, 3), 300);
        // Bytes above 127, as of numbers below 0, are signs that no TEXT has.
        for (int i = 0; i < 12; i++) {
            int[] v = {0x20202020, 0x20202020, 0x20202020};
            v[i / 4] = v[i / 4] ^ 0x20 << 24 - 8 * (i % 4) ^ 0xf2 << 24 - 8 * (i % 4);
            x = new WhiteSlope();
            x.feed(v[0], v[1], v[2]);
            DUE.is("P23 feed: byte " + i + " is where it is due", x.text(), -100 - i);
        }
        x = new WhiteSlope();
        DUE.is("P23 feed: the lowest and the highest int", x.feed(Due.LOWEST, Due.HIGHEST, -1), 12);
        DUE.is("P23 feed: their first byte is the first FAULT", x.text(), -100);
    }

    // Promise 23: "FULL: it would have more than 96": 96 are not.
    private static void p23Room() {
        WhiteSlope x = new WhiteSlope();
        for (int i = 1; i <= 8; i++) {
            DUE.is("P23 feed: room for " + 12 * i, x.feed(0, 0, 0), 12 * i);
        }
        DUE.is("P23 feed: FULL at 96", x.feed(0, 0, 0), Due.FULL);
        DUE.is("P23 feed: 96 stay", x.count(8), 96);
        for (int n = 95; n >= 85; n--) {
            x.trim(n);
            DUE.is("P23 feed: FULL at " + n, x.feed(0, 0, 0), Due.FULL);
            DUE.is("P23 feed: " + n + " stay", x.count(8), n);
        }
        x.trim(84);
        DUE.is("P23 feed: room at 84", x.feed(0, 0, 0), 96);
    }

    // Promise 23: "FULL" changes nothing: what is on the tape is read as it was.
    private static void p23Full() {
        Twins.refused(DUE, "P23 feed: FULL", Due.FULL, x -> Due.feed(x, blanks(80)), x -> x.feed(-1, -1, -1));
    }

    private static String blanks(int many) {
        StringBuilder all = new StringBuilder();
        for (int i = 0; i < many; i++) {
            all.append(' ');
        }
        return all.toString();
    }

    // Promise 24: "keeps its first n bytes": none, all.
    private static void p24Ends() {
        WhiteSlope x = new WhiteSlope();
        DUE.is("P24 trim: 0 of an empty tape", x.trim(0), 0);
        Due.feed(x, "risk 123+456");
        DUE.is("P24 trim: all", x.trim(12), 12);
        DUE.is("P24 trim: all are there", x.count(8), 12);
        DUE.is("P24 trim: all but 4", x.trim(8), 8);
        DUE.is("P24 trim: the first 8 are a TEXT", x.text(), 0);
        DUE.is("P24 trim: which gives", x.told(0, 3), 123);
        Due.feed(x, "risk 5");
        DUE.is("P24 trim: to none", x.trim(0), 0);
        DUE.is("P24 trim: none is left", x.count(8), 0);
        DUE.is("P24 trim: nothing to read", x.text(), -100);
    }

    // Promise 24: "BAD": below 0, or more than it has.
    private static void p24Bad() {
        for (int n : new int[] {-1, 10, 12, 96, 97, Due.LOWEST, Due.HIGHEST}) {
            Twins.refused(DUE, "P24 trim: BAD " + n + " of 9", Due.BAD, x -> x.trim(n));
        }
        DUE.is("P24 trim: BAD 1 of an empty tape", new WhiteSlope().trim(1), Due.BAD);
        Twins.refused(DUE, "P24 trim: BAD 97 of 96", Due.BAD, x -> {
            x.trim(0);
            Due.feed(x, blanks(96));
        }, x -> x.trim(97));
    }

    // Promise 25: an empty tape is no TEXT: its end comes too soon, at 0.
    private static void p25EmptyTape() {
        Twins.refused(DUE, "P25 text: an empty tape", -100, x -> x.trim(0), WhiteSlope::text);
        DUE.is("P25 text: an empty tape of a new object", new WhiteSlope().text(), -100);
    }

    // Promise 25: "-100 less the place of its FAULT", from the first to the last place.
    private static void p25Fault() {
        for (int place = 0; place < 91; place++) {
            fault("P25 text: FAULT at " + place, blanks(place) + "#risk", place);
        }
    }

    // Promise 25, Terms 4: a FAULT changes nothing but the tape ("an act that reads it uses it up, whatever it answers").
    private static void p25FaultLeavesTheRest() {
        WhiteSlope asked = Twins.rich();
        WhiteSlope left = Twins.rich();
        DUE.is("P25 text: FAULT behind 9 bytes", Due.text(asked, "+"), -110);
        left.trim(0);
        Twins.alike(DUE, "P25 text: a FAULT changes nothing but the tape", asked, left);
    }

    /** A rich object has two TEXTS; this tells so many that it has 14. */
    private static void tellTexts(WhiteSlope x) {
        x.trim(0);
        for (int i = 2; i < 14; i++) {
            DUE.is("TEXT " + i, Due.text(x, i % 2 == 0 ? "risk 40" : "hold 9"), i);
        }
    }

    // Promise 25: "FULL": "TEXTS, 14 at most".
    private static void p25Full() {
        WhiteSlope asked = Twins.rich();
        WhiteSlope left = Twins.rich();
        tellTexts(asked);
        tellTexts(left);
        DUE.is("P25 text: FULL, the 15th", Due.text(asked, "risk 900"), Due.FULL);
        DUE.is("P25 text: FULL uses up the tape", asked.count(8), 0);
        Twins.alike(DUE, "P25 text: FULL changes nothing but the tape", asked, left);
    }

    // Promise 25: the FAULT stands ahead of FULL.
    private static void p25FaultAheadOfFull() {
        WhiteSlope x = Twins.rich();
        tellTexts(x);
        DUE.is("P25 text: a FAULT goes ahead of FULL", Due.text(x, "risk"), -104);
        DUE.is("P25 text: an empty tape goes ahead of FULL", x.text(), -100);
        DUE.is("P25 text: 14 stay", x.count(6), 14);
    }

    // Promise 25: behind an IMAGE with fewer TEXTS there is room again.
    private static void p25RoomBehindBack() {
        WhiteSlope x = Twins.rich();
        tellTexts(x);
        x.back();
        DUE.is("P25 text: two behind back", x.count(6), 2);
        tellTexts(x);
        DUE.is("P25 text: FULL again", Due.text(x, "risk 1"), Due.FULL);
    }

    // Promise 26: "BAD".
    private static void p26Bad() {
        for (int text : new int[] {-1, 2, 3, 13, 14, Due.LOWEST, Due.HIGHEST}) {
            Twins.refused(DUE, "P26 textTold: BAD text " + text + " of two", Due.BAD, x -> x.textTold(text, 0));
            DUE.is("P26 textTold: BAD text " + text + " of none", new WhiteSlope().textTold(text, 1), Due.BAD);
        }
        DUE.is("P26 textTold: BAD text 0 of none", new WhiteSlope().textTold(0, 0), Due.BAD);
        for (int what : new int[] {-1, 2, Due.LOWEST, Due.HIGHEST}) {
            Twins.refused(DUE, "P26 textTold: BAD what " + what, Due.BAD, x -> x.textTold(0, what));
        }
        Twins.refused(DUE, "P26 textTold: BAD text 14 of 14", Due.BAD, TextsEdgesTest::tellTexts, x -> x.textTold(14, 0));
    }

    // Promise 26: the first and the last TEXT; the fewest NUMBERS and NAMES.
    private static void p26Ends() {
        WhiteSlope x = Twins.rich();
        tellTexts(x);
        DUE.is("P26 textTold: KEY of the first", x.textTold(0, 0), 1);
        DUE.is("P26 textTold: pieces of the first", x.textTold(0, 1), 3);
        DUE.is("P26 textTold: KEY of the 14th", x.textTold(13, 0), 1);
        DUE.is("P26 textTold: one piece", x.textTold(13, 1), 1);
        DUE.is("P26 textTold: the KEY is none of its pieces", x.textTold(12, 1), 1);
    }

    // Promise 27: "BAD".
    private static void p27Bad() {
        for (int key : new int[] {-1, 3, Due.LOWEST, Due.HIGHEST}) {
            Twins.refused(DUE, "P27 why: BAD key " + key, Due.BAD, x -> x.why(key));
            DUE.is("P27 why: BAD goes ahead of NONE, key " + key, new WhiteSlope().why(key), Due.BAD);
        }
    }

    // Promise 27: "NONE".
    private static void p27None() {
        Twins.refused(DUE, "P27 why: NONE for risk, though others have one", Due.NONE, x -> x.why(0));
        for (int key = 0; key < 3; key++) {
            DUE.is("P27 why: NONE for " + key + " of a new object", new WhiteSlope().why(key), Due.NONE);
        }
    }

    // Promise 27: the last of 14, and the first one.
    private static void p27Last() {
        WhiteSlope x = Twins.rich();
        tellTexts(x);
        DUE.is("P27 why: the last of 14", x.why(1), 13);
        DUE.is("P27 why: the last but one", x.why(0), 12);
        DUE.is("P27 why: one of the first", x.why(2), 1);
        x = new WhiteSlope();
        Due.text(x, "step 1");
        DUE.is("P27 why: number 0", x.why(2), 0);
    }
}
