/** COMMANDS of the document and promises 19 to 21, sentence by sentence: where a text begins, ends and is wrong. */
public final class TextEdgesTest {
    private static final Due DUE = new Due("TextEdgesTest");
    private static final String DIGITS = "0123456789", STARTS = "n+twz";

    public static void main(String[] args) {
        emptyAtFirst();
        atMost120Bytes();
        everyByteIsKept();
        whatCanStandWhere();
        shortTextsAgainstThePattern();
        endsTooEarly();
        oneToThreeDigits();
        minusSign();
        blanks();
        oneOrMoreCommands();
        asTheCalls();
        indexOfTheWrongCommand();
        rangesOfTheNumbers();
        faultsAndErrorsTogether();
        textStays();
        DUE.end();
    }

    private static PairSymbols typed(String text) {
        PairSymbols x = new PairSymbols();
        Starts.type(x, text);
        return x;
    }

    private static void reads(String text, long want) {
        DUE.is("reads() of '" + text + "'", typed(text).reads(), want);
    }

    /** "The text has at most 120 bytes and is empty at first." */
    private static void emptyAtFirst() {
        PairSymbols x = new PairSymbols();
        DUE.is("told(3) at first", x.told(3), 0);
        DUE.is("clear() at first", x.clear(), 0);
        DUE.is("reads() at first", x.reads(), -10);
        DUE.is("type() at first", x.type('z'), 1);
        DUE.is("clear() of one byte", x.clear(), 1);
        DUE.is("reads() when emptied", x.reads(), -10);
    }

    private static void atMost120Bytes() {
        PairSymbols x = new PairSymbols();
        for (int k = 1; k <= 119; k++) {
            DUE.is("type()", x.type(k % 2 == 1 ? 'z' : ';'), k);
        }
        DUE.is("119 bytes, the last command open", x.reads(), -129);
        DUE.is("byte 120", x.type(';'), 120);
        DUE.is("120 bytes", x.reads(), 60);
        for (int k = 1; k <= 3; k++) {
            DUE.is("byte 121", x.type(' '), -4);
            DUE.is("told(2) then", x.told(2), k);
            DUE.is("told(3) then", x.told(3), 120);
        }
        DUE.is("a refused byte is not in the text", x.reads(), 60);
        DUE.is("byte 121 out of range", x.type(128), -2);
        DUE.is("told(0) then", x.told(0), 1);
        DUE.is("told(2) then", x.told(2), 3);
        DUE.is("clear() of 120", x.clear(), 120);
        DUE.is("type() after clear()", x.type('z'), 1);
        DUE.is("told(2) stays", x.told(2), 3);
        reads(" ".repeat(118) + "z;", 1);
        reads("z;" + " ".repeat(118), 1);
        reads(" ".repeat(119) + "z", -130);
        reads(" ".repeat(120), -130);
        reads(" ".repeat(119) + ";", -129);
        reads("z;".repeat(59) + "z ", -130);
        reads("z;".repeat(59) + ";z", -128);
        reads("z;".repeat(59) + "zz", -129);
        reads("z;".repeat(57) + "+0 12;", -1057);
        reads("z;".repeat(57) + "+0 11;", 58);
        reads("z;".repeat(57) + "n1234;", -128);
    }

    /** The text shows only in reads(): a lone byte can go on to a command or cannot stand there. */
    private static void everyByteIsKept() {
        PairSymbols x = new PairSymbols();
        for (int c = 0; c <= 127; c++) {
            x.clear();
            DUE.is("type(" + c + ")", x.type(c), 1);
            DUE.is("reads() of byte " + c, x.reads(), c == ' ' || STARTS.indexOf(c) >= 0 ? -11 : -10);
        }
        int[] outside = {-1, 128, 256 + ' ', -256 + 'z', Integer.MIN_VALUE, Integer.MAX_VALUE};
        x = new PairSymbols();
        for (int k = 0; k < outside.length; k++) {
            DUE.is("type(" + outside[k] + ")", x.type(outside[k]), -2);
            DUE.is("told(0) then", x.told(0), k + 1);
            DUE.is("told(3) then", x.told(3), 0);
        }
    }

    /** Behind each beginning all 128 bytes: those in the list can stand there, the others are the fault. */
    private static void whatCanStandWhere() {
        behind("", " " + STARTS, "");
        behind("  ", " " + STARTS, "");
        behind("z", " ", ";");
        behind("z ", " ", ";");
        behind("z;", STARTS, " ");
        behind("z; ", STARTS, " ");
        behind("n", " " + DIGITS, "");
        behind("n ", " " + DIGITS, "");
        behind("n1", " " + DIGITS, ";");
        behind("n01", " " + DIGITS, ";");
        behind("n001", " ", ";");
        behind("n1 ", " ", ";");
        behind("t", " " + DIGITS, "");
        behind("t7", " " + DIGITS, ";");
        behind("t007", " ", ";");
        behind("t7 ", " ", ";");
        behind("+", " -" + DIGITS, "");
        behind("+ ", " -" + DIGITS, "");
        behind("+-", DIGITS, "");
        behind("+-1", " " + DIGITS, "");
        behind("+-12", " " + DIGITS, "");
        behind("+-123", " ", "");
        behind("+1", " " + DIGITS, "");
        behind("+123", " ", "");
        behind("+1 ", " " + DIGITS, "");
        behind("+1 0", " " + DIGITS, ";");
        behind("+1 00", " " + DIGITS, ";");
        behind("+1 000", " ", ";");
        behind("+1 0 ", " ", ";");
        behind("w", " " + DIGITS, "");
        behind("w ", " " + DIGITS, "");
        behind("w1", " " + DIGITS, "");
        behind("w001", " ", "");
        behind("w1 ", " " + DIGITS, "");
        behind("w1 2", " " + DIGITS, ";");
        behind("w1 002", " ", ";");
        behind("w1 2 ", " ", ";");
    }

    /** Open bytes leave the text without its end, closing ones complete it. */
    private static void behind(String beginning, String open, String closing) {
        PairSymbols x = new PairSymbols();
        int calls = 0;
        for (int c = 0; c <= 127; c++) {
            if (calls > 480) {
                x = new PairSymbols();
                calls = 0;
            }
            String text = beginning + (char) c;
            Starts.type(x, text);
            long answer = x.reads();
            calls += text.length() + 2;
            if (closing.indexOf(c) >= 0) {
                DUE.holds("no fault in '" + text + "'", answer >= 1);
            } else {
                int fault = open.indexOf(c) >= 0 ? text.length() : beginning.length();
                DUE.is("reads() of '" + beginning + "' and byte " + c, answer, -10 - fault);
            }
        }
    }

    /** All texts of up to five of these signs, against the model's pattern. */
    private static void shortTextsAgainstThePattern() {
        String signs = "n+wz; -15";
        PairSymbols x = new PairSymbols();
        int calls = 0;
        for (int length = 0; length <= 5; length++) {
            int texts = (int) Math.pow(signs.length(), length);
            for (int code = 0; code < texts; code++) {
                StringBuilder text = new StringBuilder();
                for (int k = 0, rest = code; k < length; k++, rest /= signs.length()) {
                    text.append(signs.charAt(rest % signs.length()));
                }
                if (calls > 500) {
                    x = new PairSymbols();
                    calls = 0;
                }
                Starts.type(x, text.toString());
                long answer = x.reads();
                calls += length + 2;
                int fault = Model.fault(text.toString());
                if (fault >= 0) {
                    DUE.is("reads() of '" + text + "'", answer, -10 - fault);
                } else {
                    DUE.holds("no fault in '" + text + "'", answer >= 1 || answer <= -1000);
                }
            }
        }
    }

    /** "it is the length of the text if the text ends too early, also if it is empty or contains only blanks" */
    private static void endsTooEarly() {
        String whole = " n 5 ; + -12 3 ; t 4 ; w 1 2 ; z ; ";
        for (int length = 0; length <= whole.length(); length++) {
            String text = whole.substring(0, length);
            boolean complete = text.trim().endsWith(";");
            int commands = text.length() - text.replace(";", "").length();
            reads(text, complete ? commands : -10 - length);
        }
        for (int length = 0; length <= 120; length++) {
            reads(" ".repeat(length), -10 - length);
        }
    }

    /** "A number has one to three digits." "(also of a fourth digit)" */
    private static void oneToThreeDigits() {
        reads("n;", -11);
        reads("n1;", 1);
        reads("n11;", 1);
        reads("n011;", 1);
        reads("n0011;", -14);
        reads("n 0000;", -15);
        reads("t;", -11);
        reads("t0001;", -14);
        reads("+;", -11);
        reads("+-;", -12);
        reads("+1;", -12);
        reads("+1 ;", -13);
        reads("+0001 1;", -14);
        reads("+-0001 1;", -15);
        reads("+1 0001;", -16);
        reads("+999 000;", 1);
        reads("+-999 011;", 1);
        reads("w;", -11);
        reads("w1;", -12);
        reads("w 0000 1;", -15);
        reads("w 1 0001;", -17);
        reads("w 099 099;", 1);
        DUE.is("level 7 with zeros in front", levelAfter("n007;"), 7);
        DUE.is("level 25 with a zero in front", levelAfter("n025;"), 25);
        DUE.is("level 10 is not read in base eight", levelAfter("n010;"), 10);
        reads("n100;", -1000);
        reads("n999;", -1000);
        reads("n000;", -1000);
        reads("n026;", -1000);
    }

    private static int levelAfter(String text) {
        PairSymbols x = typed(text);
        x.reads();
        return x.told(4);
    }

    /** "V can have a minus sign directly in front", and nothing else can. */
    private static void minusSign() {
        PairSymbols x = typed("+-999 0;");
        DUE.is("reads()", x.reads(), 1);
        DUE.is("sum(0, 0) then", x.sum(0, 0), -999);
        x = typed("+ -1 0;");
        DUE.is("a blank in front of the minus sign", x.reads(), 1);
        DUE.is("sum(0, 0) then", x.sum(0, 0), -1);
        x = typed("+ -0 0;+-000 0;");
        DUE.is("minus zero", x.reads(), 2);
        DUE.is("sum(0, 0) then", x.sum(0, 0), 0);
        x = typed("+-1 0;+2 0;");
        DUE.is("the sign is not kept for the next number", x.reads(), 2);
        DUE.is("sum(0, 0) then", x.sum(0, 0), 1);
        reads("+- 1 0;", -12);
        reads("+--1 0;", -12);
        reads("+1 -0;", -13);
        reads("+1 - 0;", -13);
        reads("+-1 -1;", -14);
        reads("+1-1;", -12);
        reads("+1- 1;", -12);
        reads("n-1;", -11);
        reads("n -1;", -12);
        reads("t-1;", -11);
        reads("w-1 1;", -11);
        reads("w1 -1;", -13);
        reads("-", -10);
        reads("z-;", -11);
        reads("++1 0;", -11);
        reads("+ +1 0;", -12);
    }

    /** "Blanks (byte 32) may stand anywhere except within a number and after a minus sign" */
    private static void blanks() {
        reads("n11;t1;w1 2;+1 2;z;", 5);
        reads("  n  11  ;  t  1  ;  w  1  2  ;  +  -1  2  ;  z  ;  ", 5);
        reads("n1 1;", -13);
        reads("n 1 1 ;", -14);
        reads("t 0 1;", -14);
        reads("+1 2 3;", -15);
        reads("+ 1 2 3 ;", -16);
        reads("w1 2 3;", -15);
        reads("+- 5 0;", -12);
        reads("+12;", -13);
        reads("w12;", -13);
        int[] others = {0, 9, 10, 11, 12, 13, 31, 33, 95, 127};
        for (int c : others) {
            reads("z" + (char) c + ";", -11);
            reads((char) c + "z;", -10);
            reads("z;" + (char) c, -12);
            reads("w1" + (char) c + "2;", -12);
        }
    }

    /** "It consists of one or more commands" */
    private static void oneOrMoreCommands() {
        for (int count = 1; count <= 60; count++) {
            reads("z;".repeat(count), count);
        }
        reads(";", -10);
        reads("z;;", -12);
        reads("z; ;", -13);
        reads("z z;", -12);
        reads("zz;", -11);
        reads("nz;", -11);
        reads("Z;", -10);
        reads("N1;", -10);
        reads("T1;", -10);
        reads("W1 1;", -10);
    }

    /** Each command as its call, on a twin; the numbers of + stand the other way round there. */
    private static void asTheCalls() {
        PairSymbols x = typed("n 14;");
        PairSymbols y = new PairSymbols();
        DUE.is("n", x.reads(), 1);
        y.level(14);
        same("n 14;", x, y);
        Starts.type(x, "+ 7 8;");
        DUE.is("+", x.reads(), 1);
        y.adds(8, 7);
        same("+ 7 8;", x, y);
        Starts.type(x, "w 4 9;");
        DUE.is("w", x.reads(), 1);
        y.walks(4, 9);
        same("w 4 9;", x, y);
        Starts.type(x, "t 5;");
        DUE.is("t", x.reads(), 1);
        y.applies(5);
        same("t 5;", x, y);
        Starts.type(x, "z;");
        DUE.is("z", x.reads(), 1);
        for (int i = 0; i < 5; i++) {
            DUE.is("sum after z", x.sum(i, 0), 0);
        }
        DUE.is("z leaves the level", x.told(4), 14);
        DUE.is("z is a change for back()", x.back(), 4);
        same("back over z", x, y);
    }

    private static void same(String when, PairSymbols x, PairSymbols y) {
        DUE.is(when + " level", x.told(4), y.told(4));
        DUE.is(when + " kept", x.told(5), y.told(5));
        for (int i = 0; i < y.space(0); i++) {
            DUE.is(when + " sum " + i, x.sum(i, 0), y.sum(i, 0));
        }
    }

    /** "-1000 minus the index, from 0, of the first command that would return an error" */
    private static void indexOfTheWrongCommand() {
        for (int index = 0; index <= 58; index++) {
            reads("z;".repeat(index) + "t0;", -1000 - index);
        }
        reads("t0;t0;t0;", -1000);
        reads("z;t8;t0;", -1001);
        reads("n5;t5;", -1001);
        reads("n7;t5;n5;t5;", -1003);
    }

    /** The last number inside and the first one outside of each range, as the calls have them; level 11 is set. */
    private static void rangesOfTheNumbers() {
        reads("n1;", 1);
        reads("n0;", -1000);
        reads("n25;", 1);
        reads("n26;", -1000);
        reads("+999 0;", 1);
        reads("+-999 0;", 1);
        reads("+1 0;", 1);
        reads("+1 11;", 1);
        reads("+1 12;", -1000);
        reads("n24;+1 47;", 2);
        reads("n24;+1 48;", -1001);
        reads("n1;+999 0;", 2);
        reads("n1;+1 1;", -1001);
        reads("t1;", 1);
        reads("t0;", -1000);
        reads("t7;", 1);
        reads("t8;", -1000);
        reads("w0 1;", 1);
        reads("w99 1;", 1);
        reads("w100 1;", -1000);
        reads("w0 0;", -1000);
        reads("w0 99;", 1);
        reads("w0 100;", -1000);
    }

    /** A fault anywhere comes before an error of a command, and neither is counted. */
    private static void faultsAndErrorsTogether() {
        String[] texts = {"n0;n", "t9;;", "w1 0;x"};
        int[] faults = {4, 3, 5};
        for (int k = 0; k < texts.length; k++) {
            PairSymbols x = typed(texts[k]);
            DUE.is("reads() of '" + texts[k] + "'", x.reads(), -10 - faults[k]);
            for (int what = 0; what < 3; what++) {
                DUE.is("told(" + what + ") then", x.told(what), 0);
            }
            DUE.is("told(5) then", x.told(5), 0);
        }
    }

    /** "The text stays." So it does after a reads() that fails, after back() and at another level. */
    private static void textStays() {
        PairSymbols x = typed("+ 2 11; n 2;");
        DUE.is("reads()", x.reads(), 2);
        DUE.is("told(3) then", x.told(3), 12);
        DUE.is("at level 2 there is no symbol 11", x.reads(), -1000);
        DUE.is("told(3) then", x.told(3), 12);
        DUE.is("back()", x.back(), 0);
        DUE.is("told(3) then", x.told(3), 12);
        DUE.is("reads() again", x.reads(), 2);
        x.level(20);
        DUE.is("the text at another level", x.reads(), 2);
        DUE.is("type() goes on behind it", x.type('z'), 13);
        DUE.is("an open command behind it", x.reads(), -10 - 13);
        DUE.is("clear()", x.clear(), 13);
        DUE.is("told(3) then", x.told(3), 0);
    }
}
