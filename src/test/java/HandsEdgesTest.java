import java.util.Arrays;

/** Edges of section 3 and of promises 23 to 31: the tape, texts, hands, ruled flight, rows and their reader. */
public final class HandsEdgesTest {
    private static final int BAD = -1, FULL = -2, NONE = -3;
    private static final int NORTH = 0, EAST = 1, WEST = 3;
    /** The least LINE: twelve bytes. */
    private static final String LINE = "left if 1=1;";

    public static void main(String[] args) {
        Edges.run(HandsEdgesTest.class);
    }

    /** A TEXT on a new object: how many LINES, or -100 less its FAULT. */
    private static void read(String text, int due) {
        Due.is("read of '" + text + "'", Due.read(new DeadStick(), text), due);
    }

    private static void faults(String text, int place) {
        read(text, -100 - place);
    }

    private static void holds(DeadStick x, String cond, int due) {
        Due.is("read of " + cond, Due.read(x, "left if " + cond + ";"), 1);
        Due.is(cond, x.line(0, 1), due);
    }

    private static void joined(DeadStick x, String cond, boolean due) {
        holds(x, cond, due ? 1 : 0);
    }

    private static void place(DeadStick x, int cell, int heading, int speed, int height) {
        int[] v = {cell, heading, speed, height};
        for (int what = 0; what < 4; what++) x.craft(what, v[what]);
    }

    /** Each TICK takes 1, turns take nothing. */
    private static DeadStick cheap(int cell, int heading, int height) {
        DeadStick x = new DeadStick();
        x.table(1, 1);
        x.table(3, 0);
        place(x, cell, heading, 1, height);
        return x;
    }

    // ---- section 3: the tape and texts

    @Edge(at = "Terms 3", says = "THE TAPE takes bytes, 240 at most")
    private static void terms3TapeTakes240() {
        DeadStick x = new DeadStick();
        Due.is("none", x.many(9), 0);
        for (int i = 1; i <= 30; i++) Due.is("by eights", x.feed(0x2020202020202020L, 8), 8 * i);
        for (int n = 1; n <= 8; n++) Due.is(n + " more than 240", x.feed(0x2020202020202020L, n), FULL);
        Due.is("240", x.many(9), 240);
        Due.is("all of them are read", x.read(), 0);
        for (int i = 1; i <= 29; i++) x.feed(0x2020202020202020L, 8);
        Due.is("233", x.feed(0x20, 1), 233);
        Due.is("241", x.feed(0x2020202020202020L, 8), FULL);
        Due.is("233 still", x.many(9), 233);
        Due.is("240", x.feed(0x3B3B3B3B3B3B3BL, 7), 240);
        Due.is("the first of the last seven", x.read(), -100 - 233);
    }

    @Edge(at = "Terms 3", says = "THE TAPE takes bytes, 240 at most")
    private static void terms3TapeOf240Parts() {
        faults("=".repeat(240), 0);
        faults("1=".repeat(120), 0);
        faults("left if " + "(".repeat(232), 12);
        faults("left if 1=1" + ")".repeat(229), 11);
        faults("left if " + "1=".repeat(116), 11);
        faults("left if 1=1" + ";".repeat(229), 12);
        DeadStick x = new DeadStick();
        Due.is("parts that are no TEXT", Due.read(x, ";".repeat(240)), -100);
        Due.is("the next TEXT", Due.read(x, LINE.repeat(9)), 9);
    }

    @Edge(at = "Terms 3", says = "read() uses it up.")
    private static void terms3ReadUsesTheTapeUp() {
        DeadStick x = new DeadStick();
        Due.is("good", Due.read(x, LINE), 1);
        Due.is("used up", x.many(9), 0);
        Due.is("FAULT", Due.read(x, "left right"), -105);
        Due.is("used up", x.many(9), 0);
        Due.is("from 0 again", x.feed(';', 1), 1);
        Due.is("FAULT at 0", x.read(), -100);
        Due.feed(x, " ".repeat(240));
        Due.is("FULL", x.feed(';', 1), FULL);
        Due.is("blanks", x.read(), 0);
        Due.is("room again", Due.feed(x, " ".repeat(240)), 240);
    }

    @Edge(at = "Terms 3", says = "read() uses it up.")
    private static void terms3NothingIsLeftOfWhatWasRead() {
        DeadStick x = new DeadStick();
        Due.is("good", Due.read(x, "left if 123=123 and height=60;"), 1);
        // each is the beginning of what was read
        for (String part : new String[] {"lef", "left i", "left if", "left if 12", "left if 123=12", "left if 123=123 an", "left if 123=123 and heigh"}) {
            int last = part.lastIndexOf(' ') + 1;
            boolean isWhole = part.endsWith("if") || part.endsWith("12");
            Due.is(part, Due.read(x, part), -100 - (isWhole ? part.length() : last));
        }
        Due.is("a NUMBER at the end", Due.read(x, "left if 12=1 or 12=12"), -100 - 21);
        Due.is("stays", x.line(0, 1), 1);
    }

    @Edge(at = "Terms 3", says = "TEXT: { LINE ; }")
    private static void terms3TextOfNoLines() {
        DeadStick x = new DeadStick();
        Due.is("no bytes", x.read(), 0);
        read(" ", 0);
        read(" ".repeat(240), 0);
        read(LINE, 1);
        read(LINE + LINE, 2);
        faults(";", 0);
        faults(LINE + ";", 12);
        faults(";" + LINE, 0);
    }

    @Edge(at = "Terms 3", says = "9 LINES at most")
    private static void terms3NineLinesAtMost() {
        for (int lines = 0; lines <= 9; lines++) read(LINE.repeat(lines), lines);
        read(LINE.repeat(9) + " ".repeat(132), 9);
        faults(LINE.repeat(10), 108);
        faults(LINE.repeat(20), 108);
        DeadStick x = new DeadStick();
        Due.is("nine", Due.read(x, LINE.repeat(8) + "faster if 1=2;"), 9);
        Due.is("the last does", x.line(8, 0), 3);
        Due.is("the last doesn't hold", x.line(8, 1), 0);
        Due.is("there is no tenth", x.line(9, 0), -9);
    }

    @Edge(at = "Terms 3", says = "DO: left | right | slower | faster")
    private static void terms3DoIsOneOfFour() {
        String[] words = {"left", "right", "slower", "faster"};
        for (int i = 0; i < 4; i++) {
            DeadStick x = new DeadStick();
            Due.is(words[i], Due.read(x, words[i] + " if 1=1;"), 1);
            Due.is(words[i], x.line(0, 0), i);
        }
        String[] others = {"lef", "lefts", "eft", "rights", "slow", "fast", "if", "or", "and", "not", "height", "clear", "a", "1"};
        for (String other : others) faults(other + " if 1=1;", 0);
    }

    @Edge(at = "Terms 3", says = "COND: ALL { or ALL }")
    private static void terms3OneOrMoreJoinedByOr() {
        read("left if 1=1;", 1);
        read("left if 1=1 or 1=1;", 1);
        read("left if 1=1" + " or 1=1".repeat(32) + ";", 1);
        faults("left if or 1=1;", 8);
        faults("left if 1=1 or;", 14);
        faults("left if 1=1 or or 1=1;", 15);
        faults("left if 1=1 1=1;", 12);
        DeadStick x = new DeadStick();
        holds(x, "1=2" + " or 1=2".repeat(30) + " or 1=1", 1);
        holds(x, "1=2" + " or 1=2".repeat(31), 0);
        holds(x, "1=1" + " or 1=2".repeat(31), 1);
    }

    @Edge(at = "Terms 3", says = "ALL: ONE { and ONE }")
    private static void terms3OneOrMoreJoinedByAnd() {
        read("left if 1=1 and 1=1;", 1);
        faults("left if and 1=1;", 8);
        faults("left if 1=1 and;", 15);
        faults("left if 1=1 and and 1=1;", 16);
        faults("left if 1=1 and or 1=1;", 16);
        DeadStick x = new DeadStick();
        holds(x, "1=1" + " and 1=1".repeat(27), 1);
        holds(x, "1=1" + " and 1=1".repeat(26) + " and 1=2", 0);
        holds(x, "1=2" + " and 1=1".repeat(27), 0);
        holds(x, "1=1 or 1=1 and 1=2", 1);
        holds(x, "1=2 and 1=1 or 1=1", 1);
    }

    @Edge(at = "Terms 3", says = "COND: ALL { or ALL }")
    private static void terms3OrJoinsWhatAndHasJoined() {
        DeadStick x = new DeadStick();
        for (int bits = 0; bits < 16; bits++) {
            boolean[] b = {(bits & 1) > 0, (bits & 2) > 0, (bits & 4) > 0, (bits & 8) > 0};
            String[] s = new String[4];
            for (int i = 0; i < 4; i++) s[i] = b[i] ? "1=1" : "1=2";
            joined(x, s[0] + " or " + s[1] + " and " + s[2], b[0] || b[1] && b[2]);
            joined(x, s[0] + " and " + s[1] + " or " + s[2], b[0] && b[1] || b[2]);
            joined(x, s[0] + " and " + s[1] + " or " + s[2] + " and " + s[3], b[0] && b[1] || b[2] && b[3]);
            joined(x, s[0] + " or " + s[1] + " and " + s[2] + " or " + s[3], b[0] || b[1] && b[2] || b[3]);
        }
    }

    @Edge(at = "Terms 3", says = "ALL: ONE { and ONE }")
    private static void terms3AndJoinsWhatStandsInBrackets() {
        DeadStick x = new DeadStick();
        for (int bits = 0; bits < 16; bits++) {
            boolean[] b = {(bits & 1) > 0, (bits & 2) > 0, (bits & 4) > 0, (bits & 8) > 0};
            String[] s = new String[4];
            for (int i = 0; i < 4; i++) s[i] = b[i] ? "1=1" : "1=2";
            joined(x, "(" + s[0] + " or " + s[1] + ") and " + s[2], (b[0] || b[1]) && b[2]);
            joined(x, s[0] + " and (" + s[1] + " or " + s[2] + " and " + s[3] + ")", b[0] && (b[1] || b[2] && b[3]));
            joined(x, s[0] + " or (" + s[1] + " or " + s[2] + ") and " + s[3], b[0] || (b[1] || b[2]) && b[3]);
            joined(x, "not " + s[0] + " and " + s[1] + " or not(" + s[2] + " and not " + s[3] + ")", !b[0] && b[1] || !(b[2] && !b[3]));
        }
    }

    @Edge(at = "Terms 3", says = "ONE: { not } (")
    private static void terms3NoneOrMoreNots() {
        DeadStick x = new DeadStick();
        for (int nots = 0; nots <= 57; nots += nots < 4 ? 1 : 53) holds(x, "not ".repeat(nots) + "1=1", 1 - nots % 2);
        holds(x, "not not(1=1)", 1);
        holds(x, "not(not 1=1)", 1);
        holds(x, "not 1=2 and 1=2", 0);
        faults("left if not;", 11);
        faults("left if not", 11);
        faults("left if 1=1 not;", 12);
        faults("left if 1 not = 1;", 10);
    }

    @Edge(at = "Terms 3", says = "VALUE: N | height | speed | heading | tick | ground | houses | clear")
    private static void terms3ValueIsANumberOrOneOfSevenNames() {
        String[] names = {"height", "speed", "heading", "tick", "ground", "houses", "clear"};
        for (String name : names) {
            read("left if " + name + "=1;", 1);
            read("left if 1=" + name + ";", 1);
            faults("left if " + name + "s=1;", 8);
            faults("left if " + name.substring(1) + "=1;", 8);
            faults("left if 1=" + name.substring(0, name.length() - 1) + ";", 10);
        }
        for (String other : new String[] {"left", "right", "slower", "faster", "if", "or", "and", "x"}) {
            faults("left if " + other + "=1;", 8);
            faults("left if 1=" + other + ";", 10);
        }
        // not can stand ahead of a VALUE, but is none
        faults("left if not=1;", 11);
        faults("left if 1=not;", 10);
        faults("left if 1=not 1;", 10);
        faults("left if -1=1;", 8);
        faults("left if 1=-1;", 10);
    }

    @Edge(at = "Terms 3", says = "VALUE: N | height | speed | heading | tick | ground | houses | clear")
    private static void terms3ValueOfEachByte() {
        for (int sign = 0; sign < 256; sign++) {
            boolean isDigit = sign >= '0' && sign <= '9';
            // behind a blank or a "(" the = can't stand there
            read("left if " + (char) sign + "=1;", isDigit ? 1 : sign == ' ' || sign == '(' ? -109 : -108);
            read("left if 1=" + (char) sign + ";", isDigit ? 1 : sign == ' ' ? -111 : -110);
            read("left if 1=1" + (char) sign + "=1;", isDigit ? -112 : sign == ';' || sign == ' ' ? -112 : -111);
        }
    }

    @Edge(at = "Terms 3", says = "FAULT: the place (from 0) of the first byte of the first NAME, NUMBER or other byte that can't stand there")
    private static void terms3NumbersAreNoOtherBytes() {
        // NUMBERS that are told as the bytes ( ) ; < = > are
        faults("left if 1=1 59", 12);
        faults("left if 1=1 0059", 12);
        faults("left if 40 1=1 41;", 11);
        faults("left if 0040 1=1 41;", 8);
        faults("left if (1=1 41;", 13);
        faults("left if (1=1 0041;", 13);
        faults("left if 1 0061 1;", 10);
        for (int number = 0; number < 256; number++) {
            faults("left if 1 " + number + " 1;", 10);
            faults(LINE + number, 12);
            faults("left if 1=1 " + number + ";", 12);
        }
        for (int number = 0; number < 20; number++) {
            faults(number + " if 1=1;", 0);
            faults("left " + number + " 1=1;", 5);
            faults("left if 1=1 " + number + " 1=1;", 12);
        }
        // a NUMBER of four digits is none, though it were told as a byte or a NAME is
        for (int number = 0; number < 100; number++) faults("left if 1=" + String.format("%04d", number) + ";", 10);
    }

    @Edge(at = "Terms 3", says = "SIGN: < | = | >")
    private static void terms3SignsAtEqualNumbersAndBeside() {
        DeadStick x = new DeadStick();
        String[] signs = {"<", "=", ">"};
        int[][] dues = {{1, 0, 0}, {0, 1, 0}, {0, 0, 1}};
        for (int i = 0; i < 3; i++) {
            holds(x, "59" + signs[i] + "height", dues[i][0]);
            holds(x, "60" + signs[i] + "height", dues[i][1]);
            holds(x, "61" + signs[i] + "height", dues[i][2]);
            holds(x, "0" + signs[i] + "999", dues[i][0]);
            holds(x, "0" + signs[i] + "0", dues[i][1]);
            holds(x, "999" + signs[i] + "0", dues[i][2]);
        }
        for (int sign = 0; sign < 256; sign++) {
            int due = sign >= '<' && sign <= '>' ? 1 : -109;
            // a digit goes on with the NUMBER up to the ;, behind a blank the second NUMBER can't stand
            if (sign >= '0' && sign <= '9') due = -111;
            if (sign == ' ') due = -110;
            read("left if 1" + (char) sign + "1;", due);
        }
        faults("left if 1<=1;", 10);
        faults("left if 1==1;", 10);
        faults("left if 1<2<3;", 11);
    }

    @Edge(at = "Terms 3", says = "N are NUMBERS 0 to 999.")
    private static void terms3NumbersAre0To999() {
        DeadStick x = new DeadStick();
        x.craft(3, 0);
        holds(x, "height=0", 1);
        holds(x, "height<1", 1);
        holds(x, "999>998", 1);
        holds(x, "998<999", 1);
        holds(x, "999=999", 1);
        holds(x, "999>height", 1);
        faults("left if 1000>1;", 8);
        faults("left if 1<1000;", 10);
    }

    @Edge(at = "Terms 3", says = "NUMBERS rows of digits (1 to 3)")
    private static void terms3NumbersHave1To3Digits() {
        String[] good = {"0", "9", "00", "09", "10", "99", "000", "007", "100", "999"};
        for (String g : good) {
            read("left if " + g + "=" + g + ";", 1);
            holds(new DeadStick(), g + "=" + Integer.parseInt(g), 1);
        }
        String[] bad = {"0000", "0001", "1000", "9999", "00000", "99999999999"};
        for (String b : bad) {
            faults("left if " + b + "=1;", 8);
            faults("left if 1=" + b + ";", 10);
        }
        faults("left if =1;", 8);
        faults("left if 1=;", 10);
        faults("left if 100 1=1;", 12);
    }

    @Edge(at = "Terms 3", says = "NAMES are rows of letters a to z")
    private static void terms3LettersAreAToZ() {
        for (int sign = 0; sign < 256; sign++) {
            // a letter makes the NAME another; of other bytes a blank alone can stand behind it
            int due = sign >= 'a' && sign <= 'z' ? -100 : sign == ' ' ? 1 : -104;
            read("left" + (char) sign + " if 1=1;", due);
        }
        faults("LEFT if 1=1;", 0);
        faults("lefT if 1=1;", 0);
        faults("lef\u00f4 if 1=1;", 0);
    }

    @Edge(at = "Terms 3", says = "both as long as they go")
    private static void terms3AsLongAsTheyGo() {
        faults("leftif 1=1;", 0);
        faults("left ifheight=1;", 5);
        faults("left if 1=1or 1=1", 17);
        read("left if1=1;", 1);
        read("left if 1=1or 1=1and 1=1;", 1);
        faults("left if 1=heightor 1=1;", 10);
        faults("left if not1=1 notheight=1;", 15);
        read("left if not1=1;", 1);
        faults("left if 12a=1;", 10);
        faults("left if a12=1;", 8);
        faults("left if 1 2=1;", 10);
        faults("l".repeat(240), 0);
        faults("left if " + "1".repeat(232), 8);
        faults("left if hei ght=1;", 8);
    }

    @Edge(at = "Terms 3", says = "blanks (32) part them, and stand elsewhere as one likes.")
    private static void terms3BlanksAreByte32Alone() {
        read("  left   if  (  1  =  1  )  ;  ", 1);
        read("left if(1=1);right if(1=1);", 2);
        for (int sign = 0; sign < 256; sign++) {
            boolean isDigit = sign >= '0' && sign <= '9';
            int due = sign == ' ' || isDigit ? 1 : sign == ';' ? -112 : -111;
            read("left if 1=1" + (char) sign + ";", due);
            read((char) sign + LINE, sign == ' ' ? 1 : -100);
            read(LINE + (char) sign, sign == ' ' ? 1 : -112);
        }
    }

    @Edge(at = "Terms 3", says = "At most 4 \"(\" are open within one another.")
    private static void terms3FourOpen() {
        for (int open = 0; open <= 4; open++) read("left if " + "(".repeat(open) + "1=1" + ")".repeat(open) + ";", 1);
        read("left if ((((1=1)))) and ((((1=1)))) or not ((((1=1))));", 1);
        read("left if ((((1=1) and (1=1)))) or (1=1);", 1);
        read("left if ((((1=1))) or (((1=1))));", 1);
        read("left if (((1=1 and (1=1)) and (1=1 and (1=1))));", 1);
        read("left if ((((1=1))));left if ((((1=1))));", 2);
        DeadStick x = new DeadStick();
        holds(x, "1=2 or (1=1 and (1=2 or (1=1 and (1=1))))", 1);
        holds(x, "1=2 or (1=1 and (1=2 or (1=1 and (1=2))))", 0);
        holds(x, "not (1=1 and not (1=1 and not (1=1 and not (1=1))))", 1);
    }

    @Edge(at = "Terms 3", says = "the fifth \"(\"")
    private static void terms3TheFifthOpenIsAFault() {
        faults("left if (((((1=1)))));", 12);
        faults("left if ((((  (", 14);
        faults("left if ((((not (1=1)))));", 16);
        faults("left if (1=1 and (1=1 and (1=1 and (1=1 and (1=1)))));", 44);
        faults("left if ((((1=1))) or ((((1=1)))));", 25);
        faults("left if ((((1=1)))) or (((((1=1)))));", 27);
    }

    @Edge(at = "Terms 3", says = "FAULT: the place (from 0) of the first byte of the first NAME, NUMBER or other byte that can't stand there")
    private static void terms3FaultIsTheFirstThatCantStandThere() {
        Object[][] bad = {
            {"right right", 6}, {"left 1=1;", 5}, {"left ;", 5}, {"left (1=1);", 5}, {"left not 1=1;", 5}, {"left iff 1=1;", 5},
            {"left if ;", 8}, {"left if );", 8}, {"left if =1;", 8}, {"left if if", 8}, {"left if left=1;", 8},
            {"left if ()", 9}, {"left if (;", 9}, {"left if (1)=1;", 10}, {"left if (1=1;", 12}, {"left if (1=1 1);", 13},
            {"left if (1=1) 1=1;", 14}, {"left if (1=1)(1=1);", 13}, {"left if 1=1);", 11}, {"left if 1;", 9},
            {"left if 1=(1);", 10}, {"left if 1=1,right if 1=1;", 11}, {"left if 1=1 right if 1=1;", 12},
            {"left if 1=1;right;left", 17}, {"left if 1=1; 1", 13}, {"left if 1=1;x;;;;", 12}, {"left if 1+1=2;", 9},
            {"left if not or 1=1;", 12}, {"left if 1=1 if 1=1;", 12}, {"7", 0}, {"(", 0}, {"=", 0},
        };
        for (Object[] b : bad) faults((String) b[0], (Integer) b[1]);
    }

    @Edge(at = "Terms 3", says = "(a NUMBER of more digits")
    private static void terms3FaultOfANumberIsItsFirstDigit() {
        faults("left if   1234=1;", 10);
        faults("left if 1=1 and 1 > 0123;", 20);
        faults("left if 1=1 and 1 > 01234567", 20);
        faults("1234", 0);
        faults("left if height 1234;", 15);
        // the first that can't stand there counts, not the longest NUMBER
        faults("left if 1=1 12;1234", 12);
        faults("left if 1234=12345;", 8);
    }

    @Edge(at = "Terms 3", says = "the first NAME of the tenth LINE, too)")
    private static void terms3FaultOfTheTenthLine() {
        faults(LINE.repeat(9) + "left", 108);
        faults(LINE.repeat(9) + "   left if 1=1;", 111);
        faults(LINE.repeat(9) + "if", 108);
        faults(LINE.repeat(9) + " ;", 109);
        faults(LINE.repeat(9) + "7", 108);
        faults(LINE.repeat(8) + "left if 1=1,", 107);
        faults(LINE.repeat(8) + "left if 1=1", 107);
    }

    @Edge(at = "Terms 3", says = "or the end (how many bytes there are), if more must come.")
    private static void terms3FaultIsTheEnd() {
        String[] parts = {
            "left", "left ", "left if", "left if  ", "left if not", "left if (", "left if 1", "left if height", "left if 1=",
            "left if 1=1", "left if 1=1   ", "left if 1=1 and", "left if 1=1 or ", "left if (1=1", "left if ((((1=1)))",
            "left if (1=1)", LINE + "left", LINE + "left if 1=1",
        };
        for (String part : parts) faults(part, part.length());
        faults(" ".repeat(236) + "left", 240);
        faults(" ".repeat(229) + "left if 1=1", 240);
        read(" ".repeat(228) + "left if 1=1;", 1);
        faults(" ".repeat(230) + "left if 1=", 240);
        faults(" ".repeat(100) + "left" + " ".repeat(136), 240);
    }

    // ---- section 3: hands

    @Edge(at = "Terms 3", says = "HANDS are those read last (none at first).")
    private static void terms3HandsNoneAtFirst() {
        DeadStick x = new DeadStick();
        Due.is("none", x.many(4), 0);
        Due.is("none", x.line(0, 0), -9);
        Due.is("straight", x.hand(), 4);
        x.craft(0, 63);
        x.craft(1, NORTH);
        Due.is("nine", Due.read(x, LINE.repeat(9)), 9);
        Due.is("left", x.hand(), 1);
        Due.is("one: slower", Due.read(x, "slower if 1=1;"), 1);
        Due.is("one", x.many(4), 1);
        Due.is("the second is none any more", x.line(1, 0), -9);
        Due.is("slower, not left", x.hand(), 3);
        Due.is("none", x.read(), 0);
        Due.is("none", x.many(4), 0);
        Due.is("straight", x.hand(), 4);
    }

    @Edge(at = "Terms 3", says = "clear: HEIGHT less GROUND (0 at least).")
    private static void terms3ClearIs0AtLeast() {
        DeadStick x = new DeadStick();
        x.land(2, 1);
        Due.lay(x, 0, 30, 99);
        int[][] heights = {{99, 69}, {32, 2}, {31, 1}, {30, 0}, {29, 0}, {0, 0}};
        for (int[] h : heights) {
            x.craft(3, h[0]);
            holds(x, "clear=" + h[1], 1);
        }
        x.craft(3, 99);
        holds(x, "clear=69 and ground=30", 1);
        x.craft(0, 1);
        holds(x, "clear=0 and ground=99", 1);
    }

    @Edge(at = "Terms 3", says = "ground, houses: of the cell;")
    private static void terms3ValuesLeastAndMost() {
        DeadStick x = new DeadStick();
        x.land(2, 1);
        Due.lay(x, 0, 0, 99);
        Due.lay(x, 1, 99, 0);
        place(x, 0, NORTH, 0, 0);
        holds(x, "height=0 and speed=0 and heading=0 and tick=0 and ground=0 and houses=99", 1);
        place(x, 1, WEST, 2, 99);
        holds(x, "height=99 and speed=2 and heading=3 and tick=0 and ground=99 and houses=0", 1);
        x.land(8, 8);
        place(x, 27, EAST, 1, 99);
        x.fly(4);
        holds(x, "tick=1 and ground=0 and houses=0", 1);
    }

    @Edge(at = "Terms 3", says = "left or right by the first LINE of these two that holds, slower or faster likewise")
    private static void terms3TheFirstLineThatHolds() {
        DeadStick x = new DeadStick();
        place(x, 27, EAST, 1, 60);
        Object[][] texts = {
            {"left if 1=1;right if 1=1;", 1}, {"right if 1=1;left if 1=1;", 7}, {"left if 1=2;right if 1=1;", 7},
            {"right if 1=2;left if 1=2;", 4}, {"slower if 1=1;faster if 1=1;", 3}, {"faster if 1=1;slower if 1=1;", 5},
            {"slower if 1=2;faster if 1=1;", 5}, {"faster if 1=2;slower if 1=2;", 4},
            {"slower if 1=1;left if 1=1;", 0}, {"left if 1=1;faster if 1=1;", 2}, {"right if 1=1;slower if 1=1;", 6},
            {"faster if 1=1;right if 1=1;left if 1=1;slower if 1=1;", 8},
            {"left if 1=2;".repeat(8) + "right if 1=1;", 7}, {"slower if 1=2;".repeat(8) + "faster if 1=1;", 5},
        };
        for (Object[] t : texts) {
            Due.read(x, (String) t[0]);
            Due.is((String) t[0], x.hand(), (Integer) t[1]);
        }
    }

    @Edge(at = "Terms 3", says = "if that MAY not BE straight (ACT 4), if that MAY not BE none.")
    private static void terms3StraightThenNone() {
        DeadStick x = new DeadStick();
        Due.read(x, "left if 1=1;");
        place(x, 7, EAST, 1, 60);
        Due.is("left and straight are off", x.hand(), NONE);
        place(x, 15, EAST, 1, 60);
        Due.is("straight is off, left isn't", x.hand(), 1);
        place(x, 6, EAST, 1, 60);
        Due.is("left is off, straight isn't", x.hand(), 4);
        Due.read(x, "left if 1=1;faster if 1=1;");
        place(x, 11, EAST, 1, 60);
        Due.is("left alone MAY BE, but both MAY not", x.hand(), 4);
        place(x, 19, EAST, 1, 60);
        Due.is("both MAY BE", x.hand(), 2);
        place(x, 19, EAST, 2, 60);
        Due.is("faster than fast: straight, not left", x.hand(), 4);
        place(x, 30, EAST, 2, 60);
        Due.is("fast, one cell left: none", x.hand(), NONE);
        place(x, 19, EAST, 1, 0);
        Due.is("DOWN: none", x.hand(), NONE);
    }

    @Edge(at = "Terms 3", says = "left or right by the first LINE of these two that holds, slower or faster likewise")
    private static void terms3HandsDoEachAct() {
        String[] turns = {"left if tick=0;", "", "right if tick=0;"};
        String[] paces = {"slower if tick=0;", "", "faster if tick=0;"};
        int[] steps = {-8, 1, 8};
        int[] takes = {3 + 2 + 1, 2 + 2, 4 + 2 + 1, 3 + 1, 2, 4 + 1, 3 + 2 + 1, 2 + 2, 4 + 2 + 1};
        for (int act = 0; act < 9; act++) {
            // where there is room for four cells ahead, two TICKS by fast
            int from = act < 3 ? 35 : 27;
            int cell = from + steps[act / 3] * (act % 3 == 2 ? 2 : 1);
            DeadStick x = new DeadStick();
            place(x, from, EAST, 1, takes[act]);
            Due.read(x, turns[act / 3] + paces[act % 3]);
            Due.is("ACT " + act, x.hand(), act);
            int[] dues = {-9, cell, 1, 999, 1};
            for (int what = 0; what < 5; what++) Due.is("ruled " + what + " by ACT " + act, x.ruled(what), dues[what]);
            x.craft(3, takes[act] + 1);
            Due.is("one more TICK behind ACT " + act, x.ruled(2), 2);
        }
    }

    @Edge(at = "Terms 3", says = "RULED FLIGHT: so on from now (60 TICKS at most")
    private static void terms3Ruled60TicksAtMost() {
        int[][] heights = {{59, 59, 1}, {60, 60, 1}, {61, 60, 0}, {99, 60, 0}};
        for (int[] h : heights) {
            DeadStick x = cheap(27, EAST, h[0]);
            Due.read(x, "right if 1=1;");
            for (int cell : new int[] {27, 26, 34, 35}) x.end(1, cell, 0, 2, 7);
            Due.is("TICKS from " + h[0], x.ruled(2), h[1]);
            Due.is("DOWN from " + h[0], x.ruled(4), h[2]);
            Due.is("cost from " + h[0], x.ruled(3), h[2] == 1 ? 7 : 999);
            // the 59th TICK ends one cell ahead of where it began
            Due.is("END from " + h[0], x.ruled(0), h[2] == 0 ? -9 : h[1] == 60 ? 0 : 1);
            Due.is("cell from " + h[0], x.ruled(1), h[1] == 60 ? 27 : 26);
        }
    }

    @Edge(at = "Terms 2", says = "or behind 60 TICKS (likewise no END, COST 999).")
    private static void terms2NoEndBehind60Ticks() {
        DeadStick x = cheap(27, EAST, 61);
        Due.read(x, "right if 1=1;");
        x.end(1, 27, 0, 2, 7);
        int[] houses = new int[64];
        houses[27] = 99;
        Due.lay(x, 1, houses);
        int[] left = {-9, 27, 60, 999, 0};
        for (int what = 0; what < 5; what++) Due.is("not DOWN behind 60", x.ruled(what), left[what]);
        x.craft(3, 60);
        int[] down = {0, 27, 60, 106, 1};
        for (int what = 0; what < 5; what++) Due.is("DOWN in the 60th", x.ruled(what), down[what]);
    }

    @Edge(at = "Terms 3", says = "no ENGINE) till THE CRAFT is DOWN, or has LEFT.")
    private static void terms3RuledTillDownOrLeft() {
        DeadStick x = new DeadStick();
        x.land(8, 1);
        x.scene(1, 9, 0, 20);
        int[][] heights = {{15, -9, 7, 7, 999, 0}, {14, 0, 7, 7, 40, 1}, {13, 0, 7, 7, 40, 1}, {12, -9, 6, 6, 999, 1}, {0, -9, 0, 0, 999, 1}};
        x.end(1, 7, 0, 2, 40);
        for (int[] h : heights) {
            x.craft(3, h[0]);
            for (int what = 0; what < 5; what++) Due.is("ruled " + what + " from " + h[0], x.ruled(what), h[what + 1]);
        }
        x.craft(0, 7);
        x.craft(3, 60);
        int[] left = {-9, 7, 0, 999, 0};
        for (int what = 0; what < 5; what++) Due.is("LEFT at once", x.ruled(what), left[what]);
    }

    @Edge(at = "Terms 3", says = "no ENGINE) till THE CRAFT is DOWN, or has LEFT.")
    private static void terms3RuledHasNotLeftWhereATurnIsDone() {
        DeadStick x = new DeadStick();
        place(x, 7, EAST, 1, 60);
        Due.read(x, "right if 1=1;");
        // at cell 7 straight flight MAY not BE, right MAY; 4 a TICK, from 7 by 15, 14, 6 to 7 again
        int[] round = {-9, 6, 15, 999, 1};
        for (int what = 0; what < 5; what++) Due.is("round and round: " + what, x.ruled(what), round[what]);
        Due.read(x, "right if tick=4;");
        int[] left = {-9, 7, 0, 999, 0};
        for (int what = 0; what < 5; what++) Due.is("no turn: " + what, x.ruled(what), left[what]);
        x.craft(0, 3);
        // four TICKS to cell 7, right to 15, then straight to 63
        int[] turned = {-9, 63, 11, 999, 0};
        for (int what = 0; what < 5; what++) Due.is("a turn in time: " + what, x.ruled(what), turned[what]);
    }

    // ---- section 3: rows and their reader

    @Edge(at = "Terms 3", says = "ROWS are what was proved of a PLAN flown without ENGINE: (ACT, HEIGHT behind it) for each TICK till it ended, 30 at most.")
    private static void terms3RowsNoneToTheMost() {
        DeadStick x = cheap(25, EAST, 99);
        Due.is("none at first", x.many(8), 0);
        x.scene(1, 9, 0, 20);
        int[] turns = new int[20];
        Arrays.fill(turns, 7);
        Due.is("plan", Due.plan(x, turns), 0);
        // 20 ACTS and six more cells to the border are the most that 8 by 8 cells have room for
        Due.is("prove", x.prove(0), 26);
        for (int i = 0; i < 26; i++) {
            Due.is("ACT of row " + i, x.row(i, 0), i < 20 ? 7 : 4);
            Due.is("HEIGHT of row " + i, x.row(i, 1), 98 - i);
        }
        Due.is("no more", x.row(26, 0), -9);
        x.craft(3, 21);
        Due.is("DOWN in the 21st", x.prove(0), 21);
        Due.is("with HEIGHT 0", x.row(20, 1), 0);
        Due.is("no more", x.row(21, 1), -9);
        x.craft(3, 1);
        Due.is("DOWN in the first", x.prove(0), 1);
        x.craft(3, 0);
        Due.is("DOWN now", x.prove(0), 0);
        Due.is("none", x.many(8), 0);
        Due.is("none", x.row(0, 0), -9);
    }

    /** ROWS of straight flight over four cells with HEIGHTS 58, 56, 54. */
    private static DeadStick proved() {
        DeadStick x = new DeadStick();
        x.land(4, 1);
        Due.is("plan", Due.plan(x), 0);
        Due.is("prove", x.prove(0), 3);
        return x;
    }

    @Edge(at = "Terms 3", says = "right is one whose ACT MAY BE then")
    private static void terms3RightIsOneWhoseActMayBe() {
        DeadStick x = proved();
        for (int i = 0; i < 3; i++) {
            for (int act : new int[] {-1, 9, 1, 7, Integer.MIN_VALUE, Integer.MAX_VALUE, 13}) {
                x.alterRow(i, 0, act);
                Due.is("ACT " + act + " in row " + i, x.judge(), i + 1);
            }
            x.alterRow(i, 0, 4);
            Due.is("right again", x.judge(), 0);
        }
        // faster by two cells from the last but one is off
        x.alterRow(2, 0, 5);
        Due.is("off the land", x.judge(), 3);
        x.craft(3, 0);
        Due.is("DOWN", x.judge(), 1);
    }

    @Edge(at = "Terms 3", says = "and whose HEIGHT is that behind it")
    private static void terms3RightIsOneWhoseHeightIsThat() {
        DeadStick x = proved();
        for (int i = 0; i < 3; i++) {
            int right = 58 - 2 * i;
            for (int height : new int[] {right - 1, right + 1, right + 256, right - 65536, -right, 0}) {
                Due.is("it was", x.alterRow(i, 1, height), right);
                Due.is("HEIGHT " + height + " in row " + i, x.judge(), i + 1);
                x.alterRow(i, 1, right);
            }
            Due.is("right again", x.judge(), 0);
        }
        x.craft(3, 61);
        Due.is("from another HEIGHT", x.judge(), 1);
        // 0 at least: 2 less than 1 is 0
        x.craft(3, 1);
        x.prove(0);
        Due.is("HEIGHT 0", x.row(0, 1), 0);
        Due.is("right", x.judge(), 0);
        x.craft(3, 2);
        Due.is("HEIGHT 0 by 2 less, too", x.judge(), 0);
        x.craft(3, 3);
        Due.is("1 by 2 less", x.judge(), 1);
    }

    @Edge(at = "Terms 3", says = "behind all, if there are fewer than 30, straight flight MAY not BE any more.")
    private static void terms3BehindAllNoStraightFlight() {
        DeadStick x = proved();
        Due.is("at the border", x.judge(), 0);
        x.land(5, 1);
        Due.is("one cell more: too early", x.judge(), 99);
        x.land(3, 1);
        Due.is("one cell less: the third MAY not BE", x.judge(), 3);
        x.land(5, 1);
        Due.lay(x, 0, 0, 0, 0, 54, 0);
        Due.is("DOWN behind all", x.judge(), 0);
        Due.lay(x, 0, 0, 0, 0, 53, 0);
        Due.is("one above it: too early", x.judge(), 99);
        DeadStick y = new DeadStick();
        Due.is("no ROWS, straight flight MAY BE", y.judge(), 99);
        y.craft(3, 0);
        Due.is("no ROWS, DOWN", y.judge(), 0);
        y.craft(3, 60);
        y.craft(0, 7);
        Due.is("no ROWS, at the border", y.judge(), 0);
        Due.is("a turn MAY BE all the same", y.acts() > 0 ? 1 : 0, 1);
    }

    @Edge(at = "Terms 3", says = "behind all, if there are fewer than 30, straight flight MAY not BE any more.")
    private static void terms3BehindAllByEachSpeed() {
        DeadStick x = new DeadStick();
        x.land(4, 1);
        Due.plan(x);
        x.craft(2, 0);
        Due.is("no ROWS, slow", x.judge(), 99);
        Due.is("slow", x.prove(0), 3);
        Due.is("slow at the border", x.judge(), 0);
        x.land(5, 1);
        Due.is("slow, one cell more: slower MAY not BE, but straight MAY", x.judge(), 99);
        x.craft(2, 2);
        Due.is("fast", x.prove(0), 2);
        Due.is("fast at the border", x.judge(), 0);
        x.land(6, 1);
        Due.is("fast, one cell more: slower MAY BE, but straight MAY not", x.judge(), 0);
        x.land(7, 1);
        Due.is("fast, two cells more", x.judge(), 99);
        x.craft(0, 6);
        Due.is("the first MAY not BE", x.judge(), 1);
    }

    // ---- promises 23 to 27

    @Edge(at = "Promise 23", says = "n bytes (1 to 8) come to THE TAPE, the lowest of eight first: how many it has. BAD;")
    private static void promise23From1To8Bytes() {
        DeadStick x = new DeadStick();
        Due.beyond("feed", n -> x.feed(0x2020202020202020L, n), 1, 8, BAD);
        Due.is("none came", x.many(9), 0);
        int sum = 0;
        for (int n = 1; n <= 8; n++) {
            sum += n;
            Due.is("feed of " + n, x.feed(0x2020202020202020L, n), sum);
        }
        Due.is("blanks", x.read(), 0);
        // of less than eight the upper ones are left away; the eighth is the sign of a long
        DeadStick y = new DeadStick();
        Due.is("one", y.feed(0x3B3B3B3B3B3B3B20L, 1), 1);
        Due.is("a blank", y.read(), 0);
        Due.is("eight", y.feed(0x3B20202020202020L, 8), 8);
        Due.is("the eighth", y.read(), -107);
        Due.is("eight", y.feed(0x8020202020202020L, 8), 8);
        Due.is("the eighth", y.read(), -107);
        Due.is("eight", y.feed(-1L, 8), 8);
        Due.is("the first", y.read(), -100);
        Due.is("left by the lowest first", y.feed(0x7466656CL, 4), 4);
        Due.is("the end", y.read(), -104);
    }

    @Edge(at = "Promise 23", says = "BAD; FULL: more than 240.")
    private static void promise23MoreThan240() {
        DeadStick x = new DeadStick();
        Due.is("239", Due.feed(x, " ".repeat(239)), 239);
        for (int n = 2; n <= 8; n++) Due.is("239 and " + n, x.feed(0, n), FULL);
        Due.is("BAD ahead of FULL", x.feed(0, 9), BAD);
        Due.is("BAD ahead of FULL", x.feed(0, Integer.MAX_VALUE), BAD);
        Due.is("none came", x.many(9), 239);
        Due.is("240", x.feed(';', 1), 240);
        Due.is("241", x.feed(';', 1), FULL);
        Due.is("BAD ahead of FULL", x.feed(0, 0), BAD);
        Due.is("the last alone is no blank", x.read(), -100 - 239);
    }

    @Edge(at = "Promise 24", says = "THE TAPE is the TEXT of HANDS: how many LINES;")
    private static void promise24HowManyLines() {
        DeadStick x = new DeadStick();
        Due.is("no bytes", x.read(), 0);
        Due.is("nine", Due.read(x, LINE.repeat(9)), 9);
        Due.is("many", x.many(4), 9);
        Due.is("one", Due.read(x, LINE), 1);
        Due.is("many", x.many(4), 1);
        Due.is("none", x.read(), 0);
        Due.is("many", x.many(4), 0);
    }

    @Edge(at = "Promise 24", says = "-100 less its FAULT")
    private static void promise24LeastAndMostFault() {
        faults("=", 0);
        faults("left if 1=1" + " ".repeat(229), 240);
        faults(" ".repeat(239) + "=", 239);
    }

    @Edge(at = "Promise 24", says = "(HANDS stay)")
    private static void promise24HandsStay() {
        DeadStick x = new DeadStick();
        place(x, 27, EAST, 1, 60);
        Due.is("two", Due.read(x, "right if 1=1;slower if 1=2;"), 2);
        String[] bad = {"faster if 1=1;faster", "=", LINE.repeat(10), "left if 1=1", "left if (((((1=1)))));", "left if 1=1000;"};
        for (String b : bad) {
            Due.is(b + " is a FAULT", Due.read(x, b) <= -100 ? 1 : 0, 1);
            Due.is("two stay", x.many(4), 2);
            Due.is("the first", x.line(0, 0), 1);
            Due.is("the first", x.line(0, 1), 1);
            Due.is("the last", x.line(1, 0), 2);
            Due.is("the last", x.line(1, 1), 0);
            Due.is("no third", x.line(2, 0), -9);
            Due.is("right", x.hand(), 7);
        }
    }

    @Edge(at = "Promise 25", says = "1 whether it holds now (1, 0). -9: there is none such, another what.")
    private static void promise25NoneSuch() {
        DeadStick x = new DeadStick();
        Due.is("none", x.line(0, 0), -9);
        Due.is("none", x.line(0, 1), -9);
        Due.is("read", Due.read(x, "faster if height=60;slower if height=59;"), 2);
        int[] does = {3, 2};
        for (int i = 0; i < 2; i++) {
            Due.is("does", x.line(i, 0), does[i]);
            Due.is("holds", x.line(i, 1), 1 - i);
            int line = i;
            Due.beyond("what", what -> x.line(line, what), 0, 1, -9);
        }
        Due.beyond("line", i -> x.line(i, 0), 0, 1, -9);
        Due.beyond("line", i -> x.line(i, 1), 0, 1, -9);
        x.craft(3, 59);
        for (int i = 0; i < 2; i++) Due.is("holds now", x.line(i, 1), i);
        Due.is("nine", Due.read(x, LINE.repeat(9)), 9);
        Due.is("the ninth", x.line(8, 1), 1);
        Due.beyond("line of nine", i -> x.line(i, 0), 0, 8, -9);
    }

    @Edge(at = "Promise 25", says = "-9: there is none such, another what.")
    private static void promise25NoneSuchOfThoseReadAhead() {
        DeadStick x = new DeadStick();
        Due.is("nine", Due.read(x, LINE.repeat(9)), 9);
        for (int lines = 8; lines >= 0; lines--) {
            Due.is("fewer", Due.read(x, LINE.repeat(lines)), lines);
            for (int i = lines; i < 10; i++) {
                Due.is("line " + i + " of " + lines, x.line(i, 0), -9);
                Due.is("line " + i + " of " + lines, x.line(i, 1), -9);
            }
        }
    }

    @Edge(at = "Promise 26", says = "The ACT by HANDS now. NONE.")
    private static void promise26None() {
        DeadStick x = new DeadStick();
        Due.is("no HANDS", x.hand(), 4);
        x.craft(0, 7);
        Due.is("at the border", x.hand(), NONE);
        Due.read(x, "right if 1=1;");
        Due.is("right MAY BE there", x.hand(), 7);
        x.craft(3, 0);
        Due.is("DOWN", x.hand(), NONE);
        x.craft(3, 1);
        Due.is("not DOWN", x.hand(), 7);
        Due.read(x, "left if 1=1;slower if 1=1;");
        place(x, 63, NORTH, 1, 60);
        Due.is("the least ACT", x.hand(), 0);
        Due.read(x, "right if 1=1;faster if 1=1;");
        place(x, 0, NORTH, 1, 60);
        Due.is("the most ACT", x.hand(), 8);
    }

    @Edge(at = "Promise 27", says = "RULED FLIGHT: what as of flown(). BAD.")
    private static void promise27NoSuchWhat() {
        DeadStick x = new DeadStick();
        int[] dues = {-9, 7, 7, 999, 0};
        for (int what = 0; what < 5; what++) Due.is("ruled " + what, x.ruled(what), dues[what]);
        Due.beyond("ruled", x::ruled, 0, 4, BAD);
        Due.is("no TICK went by", x.craftOf(4), 0);
    }

    // ---- promises 28 to 31

    @Edge(at = "Promise 28", says = "ROWS become those of a PLAN: how many. BAD.")
    private static void promise28NoSuchPlan() {
        DeadStick x = new DeadStick();
        Due.is("no PLANS", x.prove(0), BAD);
        x.land(4, 1);
        Due.plan(x);
        Due.plan(x, 5);
        Due.is("straight", x.prove(0), 3);
        Due.beyond("prove", x::prove, 0, 1, BAD);
        Due.is("ROWS stay", x.many(8), 3);
        Due.is("ROWS stay", x.row(2, 1), 54);
        // 55 by 5 at cell 2, then fast is off by one
        Due.is("fewer", x.prove(1), 1);
        Due.is("one", x.many(8), 1);
        Due.is("faster", x.row(0, 0), 5);
        Due.is("the others are gone", x.row(1, 0), -9);
        x.craft(0, 3);
        Due.is("none", x.prove(0), 0);
        Due.is("gone", x.row(0, 0), -9);
    }

    @Edge(at = "Promise 29", says = "-9: there is none such, another what.")
    private static void promise29NoneSuch() {
        DeadStick none = new DeadStick();
        Due.is("no ROWS", none.row(0, 0), -9);
        Due.is("no ROWS", none.row(0, 1), -9);
        DeadStick x = proved();
        for (int i = 0; i < 3; i++) {
            Due.is("ACT", x.row(i, 0), 4);
            Due.is("HEIGHT", x.row(i, 1), 58 - 2 * i);
        }
        Due.beyond("row", i -> x.row(i, 0), 0, 2, -9);
        Due.beyond("row", i -> x.row(i, 1), 0, 2, -9);
        Due.beyond("what", what -> x.row(0, what), 0, 1, -9);
        Due.beyond("what", what -> x.row(2, what), 0, 1, -9);
    }

    @Edge(at = "Promise 30", says = "It becomes v: what it was. -9 likewise.")
    private static void promise30NoneSuch() {
        DeadStick none = new DeadStick();
        Due.is("no ROWS", none.alterRow(0, 0, 5), -9);
        Due.is("no ROWS", none.many(8), 0);
        DeadStick x = proved();
        Due.beyond("row", i -> x.alterRow(i, 0, 5), 0, 2, -9);
        Due.beyond("row", i -> x.alterRow(i, 1, 5), 0, 2, -9);
        Due.beyond("what", what -> x.alterRow(0, what, 5), 0, 1, -9);
        Due.beyond("what", what -> x.alterRow(2, what, 5), 0, 1, -9);
        Due.is("nothing changed", x.judge(), 0);
        int[] any = {Integer.MIN_VALUE, Integer.MAX_VALUE, -9, 0, 100};
        for (int place = 0; place < 6; place++) {
            int was = place % 2 == 0 ? 4 : 58 - place / 2 * 2;
            for (int v : any) {
                Due.is("alterRow", x.alterRow(place / 2, place % 2, v), was);
                Due.is("it became", x.row(place / 2, place % 2), v);
                was = v;
            }
        }
        Due.is("as many", x.many(8), 3);
    }

    @Edge(at = "Promise 31", says = "0 all is right; else the number of the first ROW that isn't, and 1 more;")
    private static void promise31TheFirstThatIsnt() {
        DeadStick x = proved();
        Due.is("all", x.judge(), 0);
        for (int i = 2; i >= 0; i--) {
            x.alterRow(i, 1, 0);
            Due.is("the first of some", x.judge(), i + 1);
        }
        x.prove(0);
        x.alterRow(2, 1, 0);
        Due.is("the last alone", x.judge(), 3);
        x.prove(0);
        x.alterRow(0, 0, 9);
        Due.is("the first alone", x.judge(), 1);
        DeadStick y = cheap(25, EAST, 99);
        int[] turns = new int[20];
        Arrays.fill(turns, 7);
        Due.plan(y, turns);
        y.prove(0);
        Due.is("all of 26", y.judge(), 0);
        y.alterRow(25, 1, 0);
        Due.is("the 26th", y.judge(), 26);
    }

    @Edge(at = "Promise 31", says = "99: they end too early.")
    private static void promise31TheyEndTooEarly() {
        DeadStick x = new DeadStick();
        Due.is("no ROWS", x.judge(), 99);
        DeadStick y = proved();
        y.land(5, 1);
        Due.is("all are right, but one cell is left", y.judge(), 99);
        y.alterRow(2, 1, 55);
        Due.is("the last is wrong", y.judge(), 3);
        Due.is("now is as it was", y.craftOf(4), 0);
        Due.is("now is as it was", y.craftOf(3), 60);
    }
}
