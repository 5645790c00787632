/** Promises 23 to 27: the tape and texts. */
public final class TextsTest {
    private static final Due DUE = new Due("TextsTest");

    public static void main(String[] args) {
        feed();
        trim();
        text();
        blanks();
        faults();
        open();
        names();
        worths();
        textTold();
        fullTexts();
        why();
        longTexts();
        DUE.end();
    }

    private static void feed() {
        WhiteSlope x = new WhiteSlope();
        DUE.is("feed", x.feed(Due.four("risk", 0), Due.four(" 250", 0), Due.four("+s/2", 0)), 12);
        DUE.is("bytes", x.count(8), 12);
        DUE.is("the highest byte first", x.text(), 0);
        DUE.is("what it gives", x.told(0, 3), 250);
        for (int i = 1; i <= 8; i++) {
            DUE.is("feed on", x.feed(-1, Due.LOWEST, 7), 12 * i);
        }
        DUE.is("FULL", x.feed(0, 0, 0), Due.FULL);
        DUE.is("bytes stay", x.count(8), 96);
        x.trim(85);
        DUE.is("FULL by one byte", x.feed(0, 0, 0), Due.FULL);
        x.trim(84);
        DUE.is("just room", x.feed(0, 0, 0), 96);
    }

    private static void trim() {
        WhiteSlope x = new WhiteSlope();
        DUE.is("trim(0) of none", x.trim(0), 0);
        DUE.is("trim(1) of none", x.trim(1), Due.BAD);
        x.feed(Due.four("risk", 0), Due.four(" 12+", 0), 0);
        DUE.is("trim(13)", x.trim(13), Due.BAD);
        DUE.is("trim(-1)", x.trim(-1), Due.BAD);
        DUE.is("trim to all", x.trim(12), 12);
        DUE.is("trim(7)", x.trim(7), 7);
        DUE.is("not more again", x.trim(8), Due.BAD);
        DUE.is("bytes", x.count(8), 7);
        DUE.is("the first ones are kept", x.text(), 0);
        DUE.is("what it gives", x.told(0, 3), 12);
    }

    private static void text() {
        WhiteSlope x = new WhiteSlope();
        DUE.is("first", Due.text(x, "hold 7"), 0);
        DUE.is("the tape is used up", x.count(8), 0);
        DUE.is("second", Due.text(x, "risk(s<7|l>2&d=2)*9"), 1);
        DUE.is("TEXTS", x.count(6), 2);
        DUE.is("a FAULT", Due.text(x, "risk 1+"), -107);
        DUE.is("the tape is used up by a FAULT, too", x.count(8), 0);
        DUE.is("TEXTS stay", x.count(6), 2);
        DUE.is("none on the tape", x.text(), -100);
        DUE.is("third", Due.text(x, "step !u"), 2);
    }

    private static void blanks() {
        String[] right = {"  risk 5", "risk 5   ", "risk(5)", "risk!5", "risk ( 5 ) ", "risk 1 + 2 * 3", "risk    s",
            "risk 1<2", "risk s&l|d", "risk !!(s)", "risk 0000", "risk 9999"};
        for (String t : right) {
            DUE.is("'" + t + "'", Due.text(new WhiteSlope(), t), 0);
        }
    }

    private static void fault(String text, int place) {
        WhiteSlope x = new WhiteSlope();
        DUE.is("'" + text + "'", Due.text(x, text), -100 - place);
        DUE.is("no TEXT of '" + text + "'", x.count(6), 0);
        DUE.is("no byte is left of '" + text + "'", x.count(8), 0);
    }

    private static void faults() {
        fault("", 0);
        fault("   ", 3);
        fault("ris", 0);
        fault("  ris k", 2);
        fault("risks", 0);
        fault("rissk 5", 0);
        fault("1234 5", 0);
        fault("(risk 5)", 0);
        fault("RISK 5", 0);
        fault("risk", 4);
        fault("risk  ", 6);
        fault("risk5", 4);
        fault("xisk 5", 0);
        fault("risl 5", 0);
        fault("riska 5", 0);
        fault("risk sa", 5);
        fault("risk sz", 5);
        fault("risk 5s", 6);
        fault("risk 5 s", 7);
        fault("risk s5", 6);
        fault("risk 12345", 5);
        fault("risk 00001", 5);
        fault("risk 1+12345", 7);
        fault("risk 1 2", 7);
        fault("risk ss", 5);
        fault("risk s s", 7);
        fault("risk -1", 5);
        fault("risk 1+-1", 7);
        fault("risk 1+ ", 8);
        fault("risk 1**2", 7);
        fault("risk 1<2<3", 8);
        fault("risk 1=2>3", 8);
        fault("risk (1<2)<3<4", 12);
        fault("risk 1<", 7);
        fault("risk 1!", 6);
        fault("risk !", 6);
        fault("risk ()", 6);
        fault("risk (1", 7);
        fault("risk (1  ", 9);
        fault("risk (1 2)", 8);
        fault("risk 1)", 6);
        fault("risk (1))", 8);
        fault("risk 1 risk 2", 7);
        fault("risk S", 5);
        fault("risk 1\t+2", 6);
        fault("risk\0005", 4);
        fault("risk 1#", 6);
        fault("risk 1\u00ff", 6);
        fault("\u00f2isk 1", 0);
        fault("risk 1&", 7);
        fault("risk |1", 5);
        fault("risk 1||1", 7);
        fault("risk 1%2", 6);
    }

    private static void open() {
        String eight = "((((((((";
        String shut = "))))))))";
        String nots = "!!!!!!!!";
        DUE.is("eight (", Due.text(new WhiteSlope(), "risk " + eight + "1" + shut), 0);
        fault("risk (" + eight + "1" + shut + ")", 13);
        DUE.is("eight ( twice", Due.text(new WhiteSlope(), "risk " + eight + "1" + shut + "+" + eight + "1" + shut), 0);
        DUE.is("eight !", Due.text(new WhiteSlope(), "risk " + nots + "1"), 0);
        fault("risk !" + nots + "1", 13);
        DUE.is("eight ! twice", Due.text(new WhiteSlope(), "risk " + nots + "1+" + nots + "s"), 0);
        DUE.is("eight of each", Due.text(new WhiteSlope(), "risk !(!(!(!(!(!(!(!(1))))))))"), 0);
        fault("risk !(!(!(!(!(!(!(!(!1))))))))", 21);
        fault("risk !(!(!(!(!(!(!(!((1)))))))))", 21);
        DUE.is("a ! that has ended is not open", Due.text(new WhiteSlope(), "risk !(!(!(!(!(!(!(!1+!2)))))))"), 0);
        fault("risk " + eight + "1", 14);
        fault("risk " + eight, 13);
    }

    private static void names() {
        String[] keys = {"risk", "hold", "step"};
        String[] has = {"sld", "sr", "su"};
        for (int key = 0; key < 3; key++) {
            for (char c = 'a'; c <= 'z'; c++) {
                DUE.is(keys[key] + " " + c, Due.text(new WhiteSlope(), keys[key] + " " + c),
                    has[key].indexOf(c) >= 0 ? 0 : -105);
            }
        }
    }

    /** What risk gives at STEEP 7, LOAD 100, DANGER 5. */
    private static void worth(String e, int want) {
        WhiteSlope x = new WhiteSlope();
        x.place(0, 0, 7, 100);
        x.today(0, 5);
        DUE.is("'risk " + e + "' is read", Due.text(x, "risk " + e), 0);
        DUE.is("risk " + e, x.told(0, 3), want);
    }

    private static void worths() {
        worth("s", 7);
        worth("l", 100);
        worth("d", 5);
        worth("2+3*4", 14);
        worth("(2+3)*4", 20);
        worth("20-3-4", 13);
        worth("100/7/2", 7);
        worth("7/2*2", 6);
        worth("100*(1<2)+10*(2<1)+(2=2)", 101);
        worth("100*(2>1)+10*(1>2)+(1>1)", 100);
        worth("(2<2)+(2>2)", 0);
        worth("1+1=2", 1);
        worth("3|0", 1);
        worth("0|0", 0);
        worth("3&2", 1);
        worth("3&0", 0);
        worth("1|1&0", 1);
        worth("(1|1)&0", 0);
        worth("5>3&2", 1);
        worth("!5+7", 7);
        worth("!0+7", 8);
        worth("!(0+7)", 0);
        worth("!!9", 1);
        worth("5/0", 0);
        worth("5/(s-7)+3", 3);
        worth("(0-7)/2+10", 7);
        worth("9999*9999*9999*0+7", 7);
        // Both are above the highest int; one wraps to a number above 0, the other one does not.
        worth("(9999*9999*99>0)+1", 1 + (9999 * 9999 * 99 > 0 ? 1 : 0));
        worth("(9999*9999*25<0)+1", 1 + (9999 * 9999 * 25 < 0 ? 1 : 0));
        // The lowest int by -1 wraps to itself.
        worth("(0-8192*8192*32)/(0-1)<0", 1);
        worth("0-1&1", 1);
        worth("!(0-1)", 0);
        worth("0-1|0", 1);
        worth("l=100&s=7&d=5", 1);
        worth("1<2|5", 1);
        worth("0007+1", 8);
    }

    private static void textTold() {
        WhiteSlope x = new WhiteSlope();
        Due.text(x, "step u");
        Due.text(x, "risk 1+s*(l-22)/!d&4");
        Due.text(x, "hold ((s))");
        int[] keys = {2, 0, 1};
        int[] pieces = {1, 6, 1};
        for (int i = 0; i < 3; i++) {
            DUE.is("KEY of " + i, x.textTold(i, 0), keys[i]);
            DUE.is("pieces of " + i, x.textTold(i, 1), pieces[i]);
        }
        int[][] bad = {{-1, 0}, {3, 0}, {14, 0}, {Due.HIGHEST, 0}, {0, -1}, {0, 2}};
        for (int[] b : bad) {
            DUE.is("bad textTold", x.textTold(b[0], b[1]), Due.BAD);
        }
    }

    private static void fullTexts() {
        WhiteSlope x = new WhiteSlope();
        for (int i = 0; i < 14; i++) {
            DUE.is("TEXT " + i, Due.text(x, "risk " + i), i);
        }
        DUE.is("a FAULT goes ahead of FULL", Due.text(x, "risk risk"), -105);
        DUE.is("FULL", Due.text(x, "risk 500"), Due.FULL);
        DUE.is("the tape is used up", x.count(8), 0);
        DUE.is("TEXTS", x.count(6), 14);
        DUE.is("the last one counts still", x.told(0, 3), 13);
        DUE.is("its number", x.why(0), 13);
    }

    private static void why() {
        WhiteSlope x = new WhiteSlope();
        DUE.is("why(-1)", x.why(-1), Due.BAD);
        DUE.is("why(3)", x.why(3), Due.BAD);
        Due.text(x, "hold 1");
        Due.text(x, "risk 2");
        Due.text(x, "hold 3");
        DUE.is("why(0)", x.why(0), 1);
        DUE.is("why(1)", x.why(1), 2);
        DUE.is("why(2)", x.why(2), Due.NONE);
        DUE.is("HOLD is by the last one", x.told(0, 6), 3);
        x.keep();
        Due.text(x, "risk 4");
        Due.text(x, "step 5");
        DUE.is("why(0) then", x.why(0), 3);
        DUE.is("why(2) then", x.why(2), 4);
        x.back();
        DUE.is("TEXTS behind back", x.count(6), 3);
        DUE.is("why(0) behind back", x.why(0), 1);
        DUE.is("why(2) behind back", x.why(2), Due.NONE);
        DUE.is("PLAIN RISK behind back", x.told(0, 3), 2);
        DUE.is("gone ones are not told", x.textTold(3, 0), Due.BAD);
        DUE.is("a number is given again", Due.text(x, "risk 6"), 3);
        DUE.is("PLAIN RISK by it", x.told(0, 3), 6);
    }

    /** As many pieces as the tape has room for, and as many that wait for their signs. */
    private static void longTexts() {
        StringBuilder sum = new StringBuilder("risk 1");
        while (sum.length() < 96) {
            sum.append("+1");
        }
        WhiteSlope x = new WhiteSlope();
        DUE.is("96 bytes", Due.text(x, sum.toString()), 0);
        DUE.is("46 pieces", x.textTold(0, 1), 46);
        DUE.is("what they give", x.told(0, 3), 46);
        StringBuilder nested = new StringBuilder("risk ");
        for (int i = 0; i < 8; i++) {
            nested.append("0|1&(");
        }
        nested.append("0|1&1=1+1*2))))))))");
        DUE.is("many wait", Due.text(x, nested.toString()), 1);
        DUE.is("what that gives", x.told(0, 3), 0);
    }
}
