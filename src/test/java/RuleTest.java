/** Part 7 and promises 46 to 48: rules for ballast as texts, what they are worth, how they are followed. */
public final class RuleTest {
    private static final Checks c = new Checks();
    private static final int RULE = Checks.RULE;
    private static final String LONG = "y:(l>0|d=12)&!s<2?b-10;y:[l+200]*3";

    public static void main(String[] args) {
        howMany();
        clauses();
        conditions();
        sums();
        numbers();
        blanks();
        nesting();
        faults();
        heldWithinAMillion();
        division();
        arithmetic();
        truths();
        firstClauseThatHolds();
        ballastIsHeld();
        letters();
        followed();
        seedsBeginAlike();
        followedByHand();
        outcomes();
        better();
        c.finish();
    }

    private static void howMany() {
        c.part(7, "RULES (4 at most; sort 3 of TEXTS) for BALLAST are TEXTS:");
        GrainShift x = new GrainShift();
        c.promise(48, "How many RULES.");
        c.same("rules()", x.rules(), 0);
        for (int k = 0; k < 4; k++) {
            c.same("text(3)", Checks.tell(x, RULE, "y:" + k), k);
            c.same("rules()", x.rules(), k + 1);
        }
        c.same("one too many", Checks.tell(x, RULE, "y:4"), -1);
        c.same("rules()", x.rules(), 4);
        c.same("the tape stays", x.count(3), 3);
        c.same("it is no FAULT", x.fault(RULE), -1);
    }

    private static void clauses() {
        c.part(7, "CLAUSES with ; between, one at least: y, : , perhaps CONDITION ?, then SUM.");
        c.sound(RULE, "y:0");
        c.sound(RULE, "y:1=1?0");
        c.sound(RULE, "y:0;y:1=1?0;y:2");
        c.fault(RULE, "", 0);
        c.fault(RULE, ";", 0);
        c.fault(RULE, ":0", 0);
        c.fault(RULE, "0", 0);
        c.fault(RULE, "Y:0", 0);
        c.fault(RULE, "y0", 1);
        c.fault(RULE, "y;", 1);
        c.fault(RULE, "y:;", 2);
        c.fault(RULE, "y:?0", 2);
        c.fault(RULE, "y:y", 2);
        c.fault(RULE, "y:0;;y:0", 4);
        c.fault(RULE, "y:0;0", 4);
        c.fault(RULE, "y:0y:0", 3);
        c.fault(RULE, "y:0,y:0", 3);
        c.fault(RULE, "y:1=1?0?0", 7);
        c.fault(RULE, "y:1=1?1=1?0", 7);
        c.fault(RULE, "y:1=1?;", 6);
        c.fault(RULE, "y:1?2", 3);
        c.fault(RULE, "y:1=1;y:0", 5);
        StringBuilder most = new StringBuilder("y:0");
        for (int k = 1; k < 40; k++) {
            most.append(";y:0");
        }
        c.sound(RULE, most + " ");
        c.same("of 159", most.length(), 159);
        c.part(7, "(A CLAUSE that goes on with ! or ( behind its : has a CONDITION.)");
        c.fault(RULE, "y:(1)", 4);
        c.fault(RULE, "y:(1)?2", 4);
        c.fault(RULE, "y:(1>0)", 7);
        c.fault(RULE, "y:(1>0);", 7);
        c.fault(RULE, "y:(1>0)>1", 7);
        c.fault(RULE, "y:(1>0)+1", 7);
        c.fault(RULE, "y:!1", 4);
        c.fault(RULE, "y:!1;", 4);
        c.fault(RULE, "y:!1?2", 4);
        c.fault(RULE, "y:!1=1", 6);
        c.fault(RULE, "y:!1=1;", 6);
    }

    private static void conditions() {
        c.part(7, "CONDITION: TRUTHS with | between; TRUTH: UNITS with & between; UNIT: ! UNIT, ( CONDITION ), or SUM, one of = < >, SUM.");
        c.sound(RULE, "y:1=1|1<2|1>2?1");
        c.sound(RULE, "y:1=1&1<2&1>2?1");
        c.sound(RULE, "y:1=1|1<2&1>2|1=1?1");
        c.sound(RULE, "y:!1=1?1");
        c.sound(RULE, "y:!!(1=1)&!(!1=1|(1=1))?1");
        c.sound(RULE, "y:l+1>d*2?1");
        c.sound(RULE, "y:[l]>0?1");
        c.fault(RULE, "y:1=1|?1", 6);
        c.fault(RULE, "y:1=1&?1", 6);
        c.fault(RULE, "y:1=1&|1=1?1", 6);
        c.fault(RULE, "y:1=1||1=1?1", 6);
        c.fault(RULE, "y:1=1!1=1?1", 5);
        c.fault(RULE, "y:1=1(1=1)?1", 5);
        c.fault(RULE, "y:1==1?1", 4);
        c.fault(RULE, "y:1<=1?1", 4);
        c.fault(RULE, "y:1<>1?1", 4);
        c.fault(RULE, "y:1=1=1?1", 5);
        c.fault(RULE, "y:1>0>1", 5);
        c.fault(RULE, "y:1=1|1?1", 7);
        c.fault(RULE, "y:1=1&[1=1]?1", 8);
        c.fault(RULE, "y:1&1=1?1", 3);
        c.fault(RULE, "y:1|1=1?1", 3);
        c.fault(RULE, "y:()?1", 3);
        c.fault(RULE, "y:(1=1?1", 6);
        c.fault(RULE, "y:(1=1]?1", 6);
        c.fault(RULE, "y:1=1)?1", 5);
        c.fault(RULE, "y:((1=1)?1", 8);
        c.fault(RULE, "y:(1=1))?1", 7);
        c.fault(RULE, "y:1>!2", 4);
        c.fault(RULE, "y:1>(2)", 4);
        c.fault(RULE, "y:1>0?(2)", 6);
        c.fault(RULE, "y:1>0?!2", 6);
        c.fault(RULE, "y:1>0?2>1", 7);
    }

    private static void sums() {
        c.part(7, "SUM: TERMS with + or - between; TERM: ATOMS with * or / between; ATOM: a number (1 to 4 digits), a letter (l d s w b m), [ SUM ].");
        for (char letter = 33; letter < 127; letter++) {
            boolean atom = "ldswbm0123456789".indexOf(letter) >= 0;
            boolean opens = "([!".indexOf(letter) >= 0;
            c.fault(RULE, "y:" + letter, atom ? -1 : opens ? 3 : 2);
        }
        c.sound(RULE, "y:l+d-s*w/b+m");
        c.sound(RULE, "y:[l]");
        c.sound(RULE, "y:[l+[d-1]*2]/[3]");
        c.fault(RULE, "y:-1", 2);
        c.fault(RULE, "y:+1", 2);
        c.fault(RULE, "y:*1", 2);
        c.fault(RULE, "y:1+-1", 4);
        c.fault(RULE, "y:1+*1", 4);
        c.fault(RULE, "y:1*/1", 4);
        c.fault(RULE, "y:1+", 4);
        c.fault(RULE, "y:1*", 4);
        c.fault(RULE, "y:1+;", 4);
        c.fault(RULE, "y:ld", 3);
        c.fault(RULE, "y:1l", 3);
        c.fault(RULE, "y:l1", 3);
        c.fault(RULE, "y:1[1]", 3);
        c.fault(RULE, "y:[1]1", 5);
        c.fault(RULE, "y:[]", 3);
        c.fault(RULE, "y:[1", 4);
        c.fault(RULE, "y:[1)", 4);
        c.fault(RULE, "y:[1>0]", 4);
        c.fault(RULE, "y:[1|2]", 4);
        c.fault(RULE, "y:1]", 3);
        c.fault(RULE, "y:1)", 3);
        c.fault(RULE, "y:1+(2)", 4);
    }

    private static void numbers() {
        c.part(7, "FAULT likewise: a fifth digit,");
        c.sound(RULE, "y:0");
        c.sound(RULE, "y:9999");
        c.sound(RULE, "y:0000");
        c.fault(RULE, "y:10000", 6);
        c.fault(RULE, "y:00001", 6);
        c.fault(RULE, "y:123456", 6);
        c.fault(RULE, "y:l+12345", 8);
        c.fault(RULE, "y:1234=12345?1", 11);
    }

    private static void blanks() {
        c.part(7, "Blanks likewise;");
        for (int at = 0; at <= LONG.length(); at++) {
            boolean within = at > 0 && at < LONG.length() && Character.isDigit(LONG.charAt(at - 1))
                    && Character.isDigit(LONG.charAt(at));
            c.fault(RULE, LONG.substring(0, at) + "  " + LONG.substring(at), within ? at + 2 : -1);
        }
        c.sound(RULE, " y : ( l > 0 ) ? [ 1 + 2 ] ; y : 0 ");
        c.fault(RULE, "y:1\t", 3);
        c.fault(RULE, "y:l d", 4);
        c.fault(RULE, "y 1", 2);
    }

    private static void nesting() {
        c.part(7, "at most six of ( [ ! within one another.");
        c.sound(RULE, "y:[[[[[[1]]]]]]");
        c.sound(RULE, "y:((((((1>0))))))?1");
        c.sound(RULE, "y:!!!!!!1>0?1");
        c.sound(RULE, "y:1>[[[[[[1]]]]]]?1");
        c.sound(RULE, "y:!(!([[1]]>0))?1");
        c.sound(RULE, "y:(1>0&(1>0|(1>0&(1>0|(1>0&(1>0))))))?1");
        c.part(7, "a seventh of these are such.");
        c.fault(RULE, "y:[[[[[[[1]]]]]]]", 8);
        c.fault(RULE, "y:(((((((1>0)))))))?1", 8);
        c.fault(RULE, "y:!!!!!!!1>0?1", 8);
        c.fault(RULE, "y:1>[[[[[[[1]]]]]]]?1", 10);
        c.fault(RULE, "y:1>0?[[[[[[[1]]]]]]]", 12);
        c.fault(RULE, "y:1>0&[[[[[[[1]]]]]]]>0?1", 12);
        c.fault(RULE, "y:1>0|[[[[[[[1]]]]]]]>0?1", 12);
        c.fault(RULE, "y:1>0&!!!!!!!1>0?1", 12);
        c.fault(RULE, "y:1>0|(((((((1>0)))))))?1", 12);
        c.fault(RULE, "y:!1>0&!!!!!!!1>0?1", 13);
        c.fault(RULE, "y:(1>0)|(((((((1>0)))))))?1", 14);
        c.fault(RULE, "y:1+[[[[[[[1]]]]]]]", 10);
        c.fault(RULE, "y:1*[[[[[[[1]]]]]]]", 10);
        c.fault(RULE, "y:0;y:[[[[[[[1]]]]]]]", 12);
        c.fault(RULE, "y:!!!!!![1]>0?1", 8);
        c.fault(RULE, "y:!!!!!!(1>0)?1", 8);
        c.fault(RULE, "y:((((((!1>0))))))?1", 8);
        c.fault(RULE, "y:((((((1>[0]))))))?1", 10);
        c.fault(RULE, "y:!(!([[[1]]]>0))?1", 8);
        c.fault(RULE, "y:(1>0&(1>0|(1>0&(1>0|(1>0&(1>0&[1]>0))))))?1", 32);
        c.part(7, "at most six of ( [ ! within one another.");
        // Side by side they don't count together.
        c.sound(RULE, "y:!(!([[1]]>[[2]]))&!(!([[1]]>[[2]]))?[[[[[[1]]]]]]");
        c.sound(RULE, "y:1>0|[[[[[[1]]]]]]>0&!!!!!!1>0?1");
        c.sound(RULE, "y:[[[[[[1]]]]]]+[[[[[[1]]]]]];y:[[[[[[1]]]]]]");
        c.sound(RULE, "y:!!!!!!1>0&!!!!!!1>0|((((((1>0))))))?1");
    }

    private static void faults() {
        c.part(7, "FAULT likewise: a fifth digit,");
        c.faultAtEachStrangeSign(RULE, LONG);
        for (int length = 1; length <= LONG.length(); length++) {
            // Whole are only those that end with an ATOM of a SUM behind ? or behind the last :.
            String part = LONG.substring(0, length);
            boolean ends = part.matches("y:.*\\?b(-10?)?|.*;y:\\[l\\+200\\](\\*3)?");
            c.fault(RULE, part, ends ? -1 : length);
        }
    }

    /** What BALLAST is turned by when a day is followed, from BALLAST 0. */
    private static int turned(String rule) {
        GrainShift x = Checks.calm();
        x.set(0, 9999);
        x.set(2, 60);
        c.same("text(3) of " + rule, Checks.tell(x, RULE, rule), 0);
        return x.follow(0, 0, 1, 1, 2);
    }

    private static void equal(String one, String other) {
        c.same(one + " = " + other, turned("y:" + one + "=" + other + "?77"), 77);
    }

    private static void heldWithinAMillion() {
        c.part(7, "Behind each sign numbers are within -1,000,000 .. 1,000,000;");
        equal("9999*100+99", "1000*1000-1");
        equal("9999*100+100", "1000*1000");
        equal("9999*100+101", "1000*1000");
        equal("9999*100+101-1", "1000*1000-1");
        equal("9999*100+9999-9999*100", "100");
        equal("1001*999", "1000*1000-1");
        equal("1000*1000-1+1", "1000*1000");
        equal("1001*1000", "1000*1000");
        equal("9999*9999/1000", "1000");
        equal("1000*1000*[1000*1000]", "1000*1000");
        equal("9999*9999-9999*9999", "0");
        equal("0-9999*100-100", "0-1000*1000");
        equal("0-9999*100-101", "0-1000*1000");
        equal("0-9999*100-101+1", "1-1000*1000");
        equal("[0-9999]*9999+999*1000+1007", "7");
        equal("[0-1000]*1001", "0-1000*1000");
        equal("[0-1000*1000]*[0-1000*1000]", "1000*1000");
        equal("0-9999*100-9999+9999*100+107", "7");
    }

    private static void division() {
        c.part(7, "/ cuts towards 0, by 0 gives 0.");
        equal("7/2", "3");
        equal("[0-7]/2", "0-3");
        equal("7/[0-2]", "0-3");
        equal("[0-7]/[0-2]", "3");
        equal("1/2", "0");
        equal("[0-1]/2", "0");
        equal("9/9", "1");
        equal("8/9", "0");
        equal("5/0", "0");
        equal("[0-5]/0", "0");
        equal("0/0", "0");
        equal("5/[3-3]+1", "1");
    }

    private static void arithmetic() {
        c.part(7, "SUM: TERMS with + or - between; TERM: ATOMS with * or / between; ATOM: a number (1 to 4 digits), a letter (l d s w b m), [ SUM ].");
        equal("1+2*3", "7");
        equal("2*3+1", "7");
        equal("[1+2]*3", "9");
        equal("9-3-2", "4");
        equal("9-[3-2]", "8");
        equal("100/7/2", "7");
        equal("100/[7/2]", "33");
        equal("7/2*2", "6");
        equal("2*7/4", "3");
        equal("10-4/2*3+1", "5");
        equal("0012", "12");
    }

    private static void truth(String text, boolean want) {
        c.same(text, turned("y:" + text + "?1;y:2"), want ? 1 : 2);
    }

    private static void truths() {
        c.part(7, "CONDITION: TRUTHS with | between; TRUTH: UNITS with & between; UNIT: ! UNIT, ( CONDITION ), or SUM, one of = < >, SUM.");
        truth("1=1", true);
        truth("1=2", false);
        truth("1<2", true);
        truth("2<2", false);
        truth("3<2", false);
        truth("3>2", true);
        truth("2>2", false);
        truth("1>2", false);
        truth("1=2&1=1", false);
        truth("1=1&1=2", false);
        truth("1=2|1=1", true);
        truth("1=1|1=2", true);
        truth("!1=1", false);
        truth("!!1=1", true);
        truth("!!!1=1", false);
        truth("1=1|1=1&1=2", true);
        truth("1=2&1=2|1=1", true);
        truth("(1=1|1=1)&1=2", false);
        truth("!1=2&1=2", false);
        truth("!(1=2&1=2)", true);
        truth("1=2|1=2|1=1", true);
        truth("1=2|1=2|1=2", false);
        truth("1=1&1=1&1=2", false);
        truth("1=1&1=1&1=1", true);
        truth("1=2|!(1=1&(1=2|1=1))", false);
        truth("0-5<0", true);
        truth("1+1=4/2", true);
    }

    private static void firstClauseThatHolds() {
        c.part(7, "WORTH: the SUM of the first CLAUSE whose CONDITION holds (or has none), 0 without.");
        c.same("the first", turned("y:1;y:2"), 1);
        c.same("it has none", turned("y:1=2?1;y:2;y:3"), 2);
        c.same("it holds", turned("y:1=2?1;y:1=1?2;y:3"), 2);
        c.same("both hold", turned("y:1=1?1;y:1=1?2"), 1);
        c.same("the last", turned("y:1=2?1;y:1=3?2;y:1=4?3;y:4"), 4);
        GrainShift x = Checks.calm();
        x.set(1, 9);
        Checks.tell(x, RULE, "y:1=2?7");
        c.same("0 without: 9 is turned to 0", x.follow(0, 0, 1, 1, 2), 9);
    }

    private static void ballastIsHeld() {
        c.part(7, "ahead of each DAY (while she is not LOST) BALLAST becomes WORTH, held within -999 .. 999;");
        c.same("998", turned("y:998"), 998);
        c.same("999", turned("y:999"), 999);
        c.same("1,000", turned("y:1000"), 999);
        c.same("a million", turned("y:1000*1000"), 999);
        c.same("-998", turned("y:0-998"), 998);
        c.same("-999", turned("y:0-999"), 999);
        c.same("-1,000", turned("y:0-1000"), 999);
        c.same("a million", turned("y:0-1000*1000"), 999);
        GrainShift x = Checks.calm();
        x.set(0, 10);
        Checks.tell(x, RULE, "y:0-9999");
        c.same("LEAN is -999", x.follow(0, 0, 1, 1, 1), 999);
        c.same("LOST on the first of nine days, it turns no more", x.follow(0, 0, 9, 1, 2), 999);
        Checks.tell(x, RULE, "y:b+30");
        c.same("though it would turn by 30 each day", x.follow(1, 0, 9, 1, 2), 30);
    }

    private static int turned(GrainShift x, String rule, int sea, int days) {
        int number = Checks.tell(x, RULE, rule);
        return x.follow(number, sea, days, 1, 2);
    }

    private static void letters() {
        c.part(7, "letters: l LEAN, d DAYS, s the most any hold is SHAKEN, w the SEA, b BALLAST, m all MOMENTS by 100, cut; all as it is ahead of it.");
        GrainShift x = Checks.loaded("r20,w9", "c12,h40;c2", "f12,t1,k3;f0");
        x.set(0, 10);
        x.set(2, 60);
        x.pour(0, 11, 3);
        // MOMENT 297, LEAN 29 with no BALLAST.
        c.same("l", turned(x, "y:l", 0, 1), 29);
        c.same("m", turned(x, "y:m", 0, 1), 2);
        x.set(1, 3);
        c.same("b and l of then", turned(x, "y:b+l", 0, 1), 32);
        x.set(0, 100);
        x.roll(7);
        c.same("s", turned(x, "y:s+b", 0, 1), 7);
        GrainShift y = Checks.calm();
        c.same("w", turned(y, "y:w", 13, 1), 13);
        c.same("s is 0 ahead of all", turned(Checks.calm(), "y:s", 30, 1), 0);
        c.same("d", turned(y, "y:d*10", 0, 3), 20);
        // Draws 5 0 1 4: SHAKEN is 0 ahead of the first day and 10 ahead of the second.
        c.same("s ahead of each day", turned(y, "y:s", 0, 2), 10);
        c.same("b ahead of each day", turned(y, "y:b*2+1", 0, 3), 7);
        GrainShift z = Checks.calm();
        z.day(0);
        z.day(0);
        c.same("d is DAYS of hers", turned(z, "y:d", 0, 1), 2);
        cutMoments();
    }

    private static void cutMoments() {
        // One in column 11 of 12 by WEIGHT 9 is 99, two are 198.
        int[][] unitsAndWorth = {{11, 1, 0}, {11, 2, 1}, {0, 1, 0}, {0, 2, -1}};
        for (int[] u : unitsAndWorth) {
            GrainShift x = Checks.loaded("r20,w9", "c12,h40", "f0,k3");
            x.pour(0, u[0], u[1]);
            c.same("m of " + x.about(5), turned(x, "y:m=0-1?50;y:m", 0, 1), u[2] == -1 ? 50 : u[2]);
        }
        // One in column 2 of 3 by WEIGHT 2 is 4.
        GrainShift y = Checks.loaded("r20,w2", "c3,h40", "f0,k3");
        y.pour(0, 2, 24);
        c.same("m of 96", turned(y, "y:m", 0, 1), 0);
        y.pour(0, 2, 1);
        c.same("m of 100", turned(y, "y:m", 0, 1), 1);
    }

    private static void followed() {
        c.part(7, "FOLLOWED from as she is, by a SEA (0 .. 30), for DAYS (1 .. 9), n seeds (1 .. 5; 0 .. n less 1 as draws):");
        GrainShift x = Checks.calm();
        x.set(0, 10);
        x.set(1, 5);
        c.same("rule", Checks.tell(x, RULE, "y:d=0?20;y:d=1?0-4;y:9999"), 0);
        c.promise(46, "FOLLOWED: how often LOST (0), LEANS (1), TURNED (2).");
        c.same("15", x.follow(0, 0, 1, 1, 2), 15);
        c.same("15 24", x.follow(0, 0, 2, 1, 2), 39);
        c.same("LEAN -4", x.follow(0, 0, 2, 1, 1), 4);
        c.same("15 24 1003", x.follow(0, 30, 3, 1, 2), 39 + 1003);
        c.same("LOST", x.follow(0, 0, 3, 1, 0), 1);
        c.same("LEAN 999 in the end", x.follow(0, 0, 9, 1, 1), 999);
        c.same("she is as she was", x.about(2), 0);
        c.promise(46, "HIDDEN: no such ones, not loaded, LOST.");
        for (int[] b : new int[][] {{1, 0, 1, 1, 0}, {-1, 0, 1, 1, 0}, {0, -1, 1, 1, 0}, {0, 31, 1, 1, 0},
            {0, 0, 0, 1, 0}, {0, 0, 10, 1, 0}, {0, 0, 1, 0, 0}, {0, 0, 1, 6, 0}, {0, 0, 1, 1, 3}, {0, 0, 1, 1, -1}}) {
            c.same("no such ones", x.follow(b[0], b[1], b[2], b[3], b[4]), Checks.HIDDEN);
        }
        c.same("BALLAST as it was", x.count(5), 5);
        for (GrainShift y : new GrainShift[] {new GrainShift(), Checks.lost()}) {
            Checks.tell(y, RULE, "y:1");
            for (int what = 0; what < 3; what++) {
                c.same("not loaded, LOST", y.follow(0, 0, 1, 1, what), Checks.HIDDEN);
            }
        }
    }

    private static void seedsBeginAlike() {
        c.part(7, "Each seed begins with BALLAST as it is set; it is so again behind.");
        GrainShift x = Checks.calm();
        x.set(0, 10);
        x.set(1, 5);
        Checks.tell(x, RULE, "y:b+2");
        for (int n = 1; n <= 5; n++) {
            c.same("TURNED", x.follow(0, 0, 3, n, 2), 6 * n);
            c.same("LEANS", x.follow(0, 0, 3, n, 1), 11 * n);
            c.same("BALLAST", x.count(5), 5);
        }
        // Seeds as draws: the first day shakes 10, 5, 6, 15 and 15.
        int[] shaken = {10, 5, 6, 15, 15};
        Checks.tell(x, RULE, "y:d=0?0;y:s");
        x.set(1, 0);
        int sum = 0;
        for (int n = 1; n <= 5; n++) {
            sum += shaken[n - 1];
            c.same("SHAKEN of " + n, x.follow(1, 0, 2, n, 2), sum);
        }
    }

    /** Day by day: what the letters are then, the ballast set by it, a day. */
    private static void followedByHand() {
        c.part(7, "FOLLOWED from as she is, by a SEA (0 .. 30), for DAYS (1 .. 9), n seeds (1 .. 5; 0 .. n less 1 as draws):");
        int moved = 0;
        for (int sea = 0; sea <= 14; sea++) {
            // Lost at once, and then not.
            int stiff = sea == 0 ? 30 : 90;
            GrainShift x = Checks.loaded("r1,s4,m1,l90,w9", "c5,h20;c4,h20", "f60;f33");
            x.set(0, stiff);
            x.set(2, 60);
            int[] out = new int[3];
            for (int seed = 0; seed < 3; seed++) {
                moved += byHand(x, seed, sea, 4, out);
            }
            x.set(1, 5);
            Checks.tell(x, RULE, "y:l<0&m<0?0-l*7-m;y:!l>0?d*3-s;y:b-w-l*9-m");
            x.load(0, 0, 77L);
            x.roll(9);
            for (int what = 0; what < 3; what++) {
                c.same("follow by " + sea + ", " + what, x.follow(0, sea, 4, 3, what), out[what]);
            }
        }
        c.yes("grain went between days", moved > 20);
    }

    /** Adds to what comes; how often MOMENTS were others ahead of a day than ahead of the first. */
    private static int byHand(GrainShift x, int seed, int sea, int days, int[] out) {
        int ballast = 5;
        int moved = 0;
        x.set(1, ballast);
        x.load(0, 0, seed);
        x.roll(9);
        int first = x.about(5);
        for (int day = 0; day < days && x.about(3) == 0; day++) {
            int l = x.about(0);
            int m = x.about(5) / 100;
            moved += x.about(5) != first ? 1 : 0;
            int worth = l < 0 && m < 0 ? -l * 7 - m : l <= 0 ? x.about(2) * 3 - x.hold(0, 3) : ballast - sea - l * 9 - m;
            worth = Math.max(-999, Math.min(999, worth));
            out[2] += Math.abs(worth - ballast);
            ballast = worth;
            x.set(1, ballast);
            x.day(sea);
        }
        out[0] += x.about(3);
        out[1] += Math.abs(x.about(0));
        return moved;
    }

    private static void outcomes() {
        c.part(7, "What comes: how often LOST; LEANS (without sign, with the BALLAST of then) in the end together; TURNED: by how much BALLAST was changed, all changes without sign together.");
        GrainShift x = Checks.calm();
        x.set(0, 10);
        x.set(1, -3);
        // LOST where the first day shakes 10 or more: BALLAST 25 then, else -7.
        Checks.tell(x, RULE, "y:d=0?4;y:s>9?25;y:0-7");
        c.same("LOST by seeds 0, 3, 4", x.follow(0, 0, 2, 5, 0), 3);
        c.same("LEANS", x.follow(0, 0, 2, 5, 1), 3 * 25 + 2 * 7);
        c.same("TURNED", x.follow(0, 0, 2, 5, 2), 5 * 7 + 3 * 21 + 2 * 11);
        Checks.tell(x, RULE, "y:d=0?24;y:24");
        c.same("24 is not LOST", x.follow(1, 0, 9, 5, 0), 0);
        Checks.tell(x, RULE, "y:0-25");
        c.same("-25 is", x.follow(2, 0, 1, 5, 0), 5);
        Checks.tell(x, RULE, "y:b");
        c.same("none is turned", x.follow(3, 0, 9, 5, 2), 0);
    }

    private static void better() {
        c.part(7, "BETTER of all RULES: the fewest LOST, of these the least LEANS together, then the least TURNED (of several the lowest).");
        GrainShift x = Checks.calm();
        x.set(0, 10);
        c.promise(47, "NONE: no RULES, no such ones, not loaded, LOST.");
        c.same("no RULES", x.better(0, 1, 1), -1);
        Checks.tell(x, RULE, "y:30");
        c.promise(47, "BETTER: the RULE.");
        c.same("the only one", x.better(0, 1, 1), 0);
        Checks.tell(x, RULE, "y:24");
        c.same("the other is lost", x.better(0, 1, 1), 1);
        Checks.tell(x, RULE, "y:0-3");
        c.same("the least LEANS", x.better(0, 1, 1), 2);
        Checks.tell(x, RULE, "y:3");
        c.same("of several the lowest", x.better(0, 1, 1), 2);
        x.set(1, 1);
        c.same("the least TURNED", x.better(0, 1, 1), 3);
        c.same("nine days, five seeds, the greatest SEA", x.better(30, 9, 5), 3);
        c.same("BALLAST as it was", x.count(5), 1);
        // Lost in some seeds with LEANS less than those of a steady 24.
        GrainShift y = Checks.calm();
        y.set(0, 10);
        Checks.tell(y, RULE, "y:s>11?25;y:0");
        Checks.tell(y, RULE, "y:24");
        c.same("LOST by seeds 3 and 4", y.follow(0, 0, 2, 5, 0), 2);
        c.same("LEANS of these", y.follow(0, 0, 2, 5, 1), 50);
        c.same("LEANS of the other", y.follow(1, 0, 2, 5, 1), 120);
        c.same("the fewest LOST come first", y.better(0, 2, 5), 1);
        c.promise(47, "NONE: no RULES, no such ones, not loaded, LOST.");
        for (int[] b : new int[][] {{-1, 1, 1}, {31, 1, 1}, {0, 0, 1}, {0, 10, 1}, {0, 1, 0}, {0, 1, 6}}) {
            c.same("no such ones", x.better(b[0], b[1], b[2]), -1);
        }
        for (GrainShift z : new GrainShift[] {new GrainShift(), Checks.lost()}) {
            Checks.tell(z, RULE, "y:1");
            c.same("not loaded, LOST", z.better(0, 1, 1), -1);
        }
    }
}
