/** Part 1 and promises 1 to 8 and 49: a new object, the tape, stuffs, ships and plans as texts, their faults. */
public final class TextTest {
    private static final Checks c = new Checks();
    private static final int STUFF = Checks.STUFF;
    private static final int SHIP = Checks.SHIP;
    private static final int PLAN = Checks.PLAN;
    private static final int RULE = Checks.RULE;
    /** Within one row each letter once, with a number that is right with fewer digits too. */
    private static final String[] WHOLE = {"r20,s30,m30,l999,w9", "c2,h40;c2;h4;h40,c2",
        "g5,f480,t1,b40,k3;k1;f11,b3;g2", "y:l>10?[b+200]*2;y:0"};

    public static void main(String[] args) {
        newObject();
        tapeGrows();
        tapeIsFull();
        tapeEnds();
        lettersOfStuffs();
        lettersOfShips();
        lettersOfPlans();
        asManyAsMayBe();
        itemsAndRows();
        digits();
        blanks();
        firstByteAtFault();
        endsTooEarly();
        numbersOutOfBounds();
        lettersTwice();
        fourthSemicolon();
        sorts();
        texts();
        stuffs();
        ships();
        plans();
        counts();
        c.finish();
    }

    private static void newObject() {
        c.promise(1, "No STUFFS, no SHIP.");
        GrainShift x = new GrainShift();
        int[] want = {0, 0, 0, 0, 400, 0, 25, 0, 0, 0};
        for (int k = 0; k < want.length; k++) {
            c.same("count(" + k + ")", x.count(k), want[k]);
        }
        c.same("rules()", x.rules(), 0);
        c.same("stuff", Checks.stuffOrThrown(x, 0, 0), Checks.THROWN);
        c.same("ship", x.ship(0, -1, 0), -1);
        c.same("plan", x.plan(0, -1, 0), -1);
        c.same("about(0)", x.about(0), Checks.HIDDEN);
        c.no("load", x.load(0, 0, 0));
        c.same("image", x.image(), -1);
        c.same("back", x.back(), -1);
    }

    private static void tapeGrows() {
        c.promise(2, "Twenty bytes more come to the TAPE (of each number the highest first; bytes of 0 are left out): how many it has.");
        GrainShift x = new GrainShift();
        c.same("twenty", Checks.feed(x, "r12,s3,m14 ,l567, w8"), 20);
        c.same("in this order", x.text(0), 0);
        int[] want = {12, 3, 14, 567, 8};
        for (int what = 0; what < 5; what++) {
            c.same("stuff(0, " + what + ")", x.stuff(0, what), want[what]);
        }
        c.same("only bytes of 0", x.feed(0, 0, 0, 0, 0), 0);
        c.same("0 left out", x.feed(0x72000031, 0, 0x00320000, 0, 0x0000002C), 4);
        c.same("what is there yet", x.fault(0), 4);
        c.same("it goes on", x.feed(0x73350000, 0, 0, 0, 0), 6);
        c.same("r12,s5", x.text(0), 1);
        c.same("r12", x.stuff(1, 0), 12);
        c.same("s5", x.stuff(1, 1), 5);
        c.same("all bits of a number", x.feed(-1, -1, -1, -1, -1), 20);
        c.same("bytes of 255", x.fault(0), 0);
        c.same("the lowest byte that counts", x.feed(0x01000000, 0x00010000, 0x00000100, 0x00000001, 0), 24);
    }

    private static void tapeIsFull() {
        c.promise(2, "NONE: more than 160.");
        GrainShift x = new GrainShift();
        for (int k = 1; k <= 8; k++) {
            c.same("twenty more", Checks.feed(x, "                    "), 20 * k);
        }
        for (int place = 0; place < 20; place++) {
            int[] w = new int[5];
            w[place / 4] = 1 << 8 * (place % 4);
            c.same("one more, byte " + place, x.feed(w[0], w[1], w[2], w[3], w[4]), -1);
        }
        c.same("160 as before", x.count(3), 160);
        c.same("none more", x.feed(0, 0, 0, 0, 0), 160);
        x.end(159);
        c.same("two in one word", x.feed(0x72000031, 0, 0, 0, 0), -1);
        c.same("two in two words", x.feed(0, 0x72, 0, 0, 0x31), -1);
        c.same("159 as before", x.count(3), 159);
        c.same("nothing of it came", x.fault(0), 159);
        c.same("one may come", x.feed(0, 0, 0, 0, 0xE9), 160);
        c.same("the last byte", x.fault(0), 159);
        x.end(141);
        c.same("twenty are one too many", Checks.feed(x, "r12,s3,m14 ,l567, w8"), -1);
        x.end(140);
        c.same("twenty fill it", Checks.feed(x, "r12,s3,m14 ,l567, w8"), 160);
        c.same("a text of 160", x.text(0), 0);
        c.same("w8", x.stuff(0, 4), 8);
    }

    private static void tapeEnds() {
        c.promise(3, "The TAPE has its first n bytes alone. False: n.");
        GrainShift x = new GrainShift();
        c.yes("end(0) of nothing", x.end(0));
        c.no("end(1) of nothing", x.end(1));
        Checks.put(x, "r1x");
        c.no("end(-1)", x.end(-1));
        c.no("end(4)", x.end(4));
        c.no("end(MIN)", x.end(Integer.MIN_VALUE));
        c.no("end(MAX)", x.end(Integer.MAX_VALUE));
        c.same("as before", x.count(3), 3);
        c.yes("end(3)", x.end(3));
        c.same("all are there", x.fault(0), 2);
        c.yes("end(2)", x.end(2));
        c.same("the first two", x.fault(0), -1);
        c.no("the third is gone", x.end(3));
        c.same("what comes then is the third", x.feed(0x33, 0, 0, 0, 0), 3);
        c.same("r13", x.text(0), 0);
        c.same("r13", x.stuff(0, 0), 13);
        Checks.put(x, "r1");
        c.yes("end(0)", x.end(0));
        c.same("empty", x.count(3), 0);
        for (int k = 0; k < 8; k++) {
            Checks.feed(x, "                    ");
        }
        c.no("end(161)", x.end(161));
        c.yes("end(160)", x.end(160));
    }

    private static int toldBack(GrainShift x, int sort, int item) {
        return sort == STUFF ? x.stuff(0, item) : sort == SHIP ? x.ship(0, 0, item) : x.plan(0, 0, item);
    }

    private static void taken(int sort, String text, int item, int want) {
        GrainShift x = new GrainShift();
        c.same("text of " + text, Checks.tell(x, sort, text), 0);
        c.same(text, toldBack(x, sort, item), want);
    }

    /** The last numbers that are taken and the first that are not, and what it is without. */
    private static void letter(int sort, String letter, int low, int high, int usual) {
        int item = "rsmlw ch    gftbk".indexOf(letter) % 6;
        taken(sort, letter + low, item, low);
        taken(sort, letter + high, item, high);
        taken(sort, letter + (high - 1), item, high - 1);
        if (low > 0) {
            c.fault(sort, letter + (low - 1), 1);
        }
        int digits = String.valueOf(high + 1).length();
        c.fault(sort, letter + (high + 1), digits);
        String other = sort == STUFF ? "rs" : sort == SHIP ? "ch" : "gf";
        String without = other.startsWith(letter) ? other.substring(1) : other.substring(0, 1);
        taken(sort, without + 5, item, usual);
    }

    private static void lettersOfStuffs() {
        c.part(1, "r REST (0 .. 20; 6 without),");
        letter(STUFF, "r", 0, 20, 6);
        c.part(1, "s SETTLES (0 .. 30; 0),");
        letter(STUFF, "s", 0, 30, 0);
        c.part(1, "m WET (0 .. 30; 0),");
        letter(STUFF, "m", 0, 30, 0);
        c.part(1, "l LINE (0 .. 999; 500),");
        letter(STUFF, "l", 0, 999, 500);
        c.part(1, "w WEIGHT (1 .. 9; 2).");
        letter(STUFF, "w", 1, 9, 2);
    }

    private static void lettersOfShips() {
        c.part(1, "c COLUMNS (2 .. 12; 8),");
        letter(SHIP, "c", 2, 12, 8);
        c.part(1, "h HEIGHT (4 .. 40; 20).");
        letter(SHIP, "h", 4, 40, 20);
    }

    private static void lettersOfPlans() {
        c.part(1, "g which STUFF (0 .. 5; 0),");
        letter(PLAN, "g", 0, 5, 0);
        c.part(1, "f UNITS (0 .. 480; 0),");
        letter(PLAN, "f", 0, 480, 0);
        c.part(1, "t whether TRIMMED (0, 1; 0),");
        letter(PLAN, "t", 0, 1, 0);
        c.part(1, "b BOARD (0 .. 40; 0: none),");
        letter(PLAN, "b", 0, 40, 0);
        c.part(1, "k SACKS (0 .. 3; 0).");
        letter(PLAN, "k", 0, 3, 0);
    }

    private static void tellAll(GrainShift x, int sort, String text, int most) {
        for (int k = 0; k < most; k++) {
            c.same("text " + k, Checks.tell(x, sort, text), k);
        }
        c.same("one too many", Checks.tell(x, sort, text), -1);
        c.same("the tape stays", x.count(3), text.length());
        c.same("it is no FAULT", x.fault(sort), -1);
    }

    private static void asManyAsMayBe() {
        GrainShift x = new GrainShift();
        c.part(1, "STUFFS (6 at most) are TEXTS:");
        tellAll(x, STUFF, "r1", 6);
        c.same("count(0)", x.count(0), 6);
        c.same("the sixth", Checks.stuffOrThrown(x, 5, 0), 1);
        c.same("no seventh", Checks.stuffOrThrown(x, 6, 0), Checks.THROWN);
        c.part(1, "SHIPS (3 at most) are TEXTS:");
        tellAll(x, SHIP, "c3", 3);
        c.same("count(1)", x.count(1), 3);
        c.same("the third", x.ship(2, 0, 0), 3);
        c.same("no fourth", x.ship(3, 0, 0), -1);
        c.part(1, "PLANS (6 at most) are TEXTS:");
        tellAll(x, PLAN, "f1", 6);
        c.same("count(2)", x.count(2), 6);
        c.same("the sixth", x.plan(5, 0, 1), 1);
        c.same("no seventh", x.plan(6, 0, 1), -1);
    }

    private static void itemsAndRows() {
        c.part(1, "ITEMS with , between, one at least: a letter, each once at most, and a number:");
        c.sound(STUFF, "r1");
        c.sound(STUFF, "r1,s1");
        c.sound(STUFF, "w9,l999,m30,s30,r20");
        c.fault(STUFF, "", 0);
        c.fault(STUFF, ",", 0);
        c.fault(STUFF, ",r1", 0);
        c.fault(STUFF, "r1,,s1", 3);
        c.fault(STUFF, "r1s1", 2);
        c.fault(STUFF, "1", 0);
        c.fault(STUFF, "r,s1", 1);
        c.fault(STUFF, "rs1", 1);
        c.fault(STUFF, "R1", 0);
        c.fault(STUFF, "c2", 0);
        c.fault(STUFF, "g1", 0);
        c.fault(STUFF, "r1;s1", 2);
        c.part(1, "HOLDS with ; between (1 .. 4): ITEMS with , between, one at least:");
        rows(SHIP, "c2");
        c.fault(SHIP, "r1", 0);
        c.fault(SHIP, "f1", 0);
        c.part(1, "LAYINGS with ; between (1 .. 4, hold by hold): ITEMS with , between, one at least:");
        rows(PLAN, "f2");
        c.fault(PLAN, "w1", 0);
        c.fault(PLAN, "c2", 0);
    }

    private static void rows(int sort, String row) {
        c.fault(sort, "", 0);
        c.fault(sort, ";", 0);
        c.sound(sort, row);
        c.fault(sort, ";" + row, 0);
        c.fault(sort, row + ";;" + row, 3);
        c.fault(sort, row + ";," + row, 3);
        c.fault(sort, row + ",;" + row, 3);
        c.sound(sort, row + ";" + row);
        c.sound(sort, row + ";" + row + ";" + row);
        c.sound(sort, row + ";" + row + ";" + row + ";" + row);
        c.fault(sort, row + ";" + row + ";" + row + ";" + row + ";" + row, 11);
    }

    private static void digits() {
        c.part(1, "Numbers have one to three digits.");
        c.fault(STUFF, "r", 1);
        taken(STUFF, "l9", 3, 9);
        taken(STUFF, "l99", 3, 99);
        taken(STUFF, "l999", 3, 999);
        taken(STUFF, "r020", 0, 20);
        taken(STUFF, "w001", 4, 1);
        taken(STUFF, "s000", 1, 0);
        c.fault(STUFF, "l0999", 4);
        c.fault(STUFF, "r0001", 4);
        c.fault(STUFF, "r-1", 1);
        c.fault(STUFF, "r+1", 1);
        c.fault(STUFF, "r/", 1);
        c.fault(STUFF, "r:", 1);
        c.fault(STUFF, "r" + (char) 178, 1);
    }

    private static void blanks() {
        c.part(1, "Blanks (32) may stand between all signs, not within numbers.");
        for (int sort = STUFF; sort <= PLAN; sort++) {
            String text = WHOLE[sort];
            for (int at = 0; at <= text.length(); at++) {
                boolean within = at > 0 && at < text.length() && Character.isDigit(text.charAt(at - 1))
                        && Character.isDigit(text.charAt(at));
                c.fault(sort, text.substring(0, at) + "  " + text.substring(at), within ? at + 2 : -1);
            }
        }
        taken(STUFF, "  r  1 ,  s 2  ", 1, 2);
        for (int other : new int[] {9, 10, 13, 31, 33, 160}) {
            c.fault(STUFF, "r1" + (char) other, 2);
            c.fault(STUFF, (char) other + "r1", 0);
        }
    }

    private static void firstByteAtFault() {
        c.part(1, "FAULT: the first byte at which no such TEXT can go on");
        for (int sort = STUFF; sort <= PLAN; sort++) {
            c.faultAtEachStrangeSign(sort, WHOLE[sort]);
        }
        c.fault(STUFF, "r1?s?", 2);
        c.fault(STUFF, "r1 ?", 3);
        c.fault(STUFF, "r1,;", 3);
    }

    private static void endsTooEarly() {
        c.part(1, "(the length, if it ends too early):");
        for (int sort = STUFF; sort <= RULE; sort++) {
            c.fault(sort, "", 0);
            c.fault(sort, " ", 1);
            c.fault(sort, "   ", 3);
        }
        for (int sort = STUFF; sort <= PLAN; sort++) {
            String text = WHOLE[sort];
            for (int length = 1; length <= text.length(); length++) {
                boolean whole = Character.isDigit(text.charAt(length - 1));
                c.fault(sort, text.substring(0, length), whole ? -1 : length);
                c.fault(sort, text.substring(0, length) + "  ", whole ? -1 : length + 2);
            }
        }
        c.fault(STUFF, "r1,s1,m1,l1,w1,", 15);
        c.fault(SHIP, "c2,h5,", 6);
    }

    private static void numbersOutOfBounds() {
        c.part(1, "a number out of bounds is wrong at its last digit, a fourth digit itself,");
        c.fault(STUFF, "r21", 2);
        c.fault(STUFF, "r021", 3);
        c.fault(STUFF, "r210", 3);
        c.fault(STUFF, "r999", 3);
        c.fault(STUFF, "r21 ", 2);
        c.fault(STUFF, "r21,r", 2);
        c.fault(STUFF, "r21?", 2);
        c.fault(STUFF, " r 21", 4);
        c.fault(STUFF, "w0", 1);
        c.fault(STUFF, "w00", 2);
        c.fault(STUFF, "w000", 3);
        c.fault(SHIP, "c1", 1);
        c.fault(SHIP, "c01", 2);
        c.fault(SHIP, "c1 2", 1);
        c.fault(SHIP, "c2;h3", 4);
        c.fault(SHIP, "c130", 3);
        c.fault(PLAN, "f1;f1;f1;f481", 12);
        c.fault(STUFF, "r2100", 4);
        c.fault(STUFF, "r0021", 4);
        c.fault(STUFF, "r1000", 4);
        c.fault(STUFF, "r00001", 4);
        c.fault(STUFF, "w0000", 4);
        c.fault(PLAN, "f4800", 4);
        c.fault(PLAN, "f0480", 4);
        c.fault(SHIP, "c2,h0004", 7);
    }

    private static void lettersTwice() {
        c.part(1, "a letter that was there in that ITEM row at it,");
        c.fault(STUFF, "r1,r1", 3);
        c.fault(STUFF, "r1 , r1", 5);
        c.fault(STUFF, "r1,s1,m1,l1,w1,r1", 15);
        c.fault(STUFF, "r1,s1,m1,l1,w1,w1", 15);
        c.fault(STUFF, "r1,s1,r", 6);
        c.fault(SHIP, "c2,c3", 3);
        c.fault(SHIP, "c2,h5,c3", 6);
        c.sound(SHIP, "c2;c3");
        c.fault(SHIP, "c2;c3,h4,h4", 9);
        c.fault(PLAN, "f1,t1,f2", 6);
        c.sound(PLAN, "f1;t1,f2");
        c.fault(PLAN, "f1;t1,f2,t1", 9);
    }

    private static void fourthSemicolon() {
        c.part(1, "a fourth ; in a SHIP or a PLAN at it.");
        c.fault(SHIP, "c2;c2;c2;c2;", 11);
        c.fault(SHIP, "c2;c2;c2;c2 ; c2", 12);
        c.fault(SHIP, "c2;c2;c2;", 9);
        c.fault(PLAN, "f1;f1;f1;f1;", 11);
        c.fault(PLAN, "f1;f1;f1;f1,t1 ;f1", 15);
        c.fault(PLAN, "f1;f1;f1;", 9);
        c.fault(STUFF, "r1;", 2);
    }

    private static void sorts() {
        c.promise(4, "The FAULT of the TAPE as a STUFF (0), a SHIP (1), a PLAN (2), a RULE (3). NONE: none.");
        String[] right = {"r1", "c2", "f1", "y:1"};
        for (int is = STUFF; is <= RULE; is++) {
            GrainShift x = new GrainShift();
            Checks.put(x, right[is]);
            for (int sort = STUFF; sort <= RULE; sort++) {
                c.same("fault(" + sort + ") of " + right[is], x.fault(sort), is == sort ? -1 : 0);
            }
            c.same("the tape stays", x.count(3), right[is].length());
        }
        c.promise(4, "-2: no such sort.");
        GrainShift y = new GrainShift();
        for (int sort : new int[] {-1, 4, 5, -2, Integer.MAX_VALUE, Integer.MIN_VALUE}) {
            c.same("fault(" + sort + ") of nothing", y.fault(sort), -2);
        }
        Checks.put(y, "r1");
        for (int sort : new int[] {-1, 4, 5, -2, Integer.MAX_VALUE, Integer.MIN_VALUE}) {
            c.same("fault(" + sort + ")", y.fault(sort), -2);
        }
    }

    private static void texts() {
        c.promise(5, "The TAPE (empty then) is one of these: its number.");
        GrainShift x = new GrainShift();
        String[] right = {"r1", "c2", "f1", "y:1"};
        for (int k = 0; k < 2; k++) {
            for (int sort = STUFF; sort <= RULE; sort++) {
                c.same("text(" + sort + ")", Checks.tell(x, sort, right[sort]), k);
                c.same("the tape is empty then", x.count(3), 0);
            }
        }
        c.promise(5, "NONE: a FAULT, no such sort, there are so many.");
        c.same("nothing on it", x.text(0), -1);
        Checks.put(x, "r1,");
        c.same("a FAULT", x.text(0), -1);
        c.same("as a ship", x.text(1), -1);
        x.end(2);
        for (int sort : new int[] {-1, 4, -2, Integer.MAX_VALUE, Integer.MIN_VALUE}) {
            c.same("text(" + sort + ")", x.text(sort), -1);
        }
        c.same("the tape is as before", x.count(3), 2);
        c.same("text(0)", x.text(0), 2);
        GrainShift y = new GrainShift();
        int[] most = {6, 3, 6, 4};
        for (int sort = STUFF; sort <= RULE; sort++) {
            for (int k = 0; k < most[sort]; k++) {
                Checks.tell(y, sort, right[sort]);
            }
            c.same("so many of " + sort, Checks.tell(y, sort, right[sort]), -1);
            c.same("its tape", y.count(3), right[sort].length());
        }
    }

    private static void stuffs() {
        c.promise(6, "Of a STUFF: 0 REST, 1 SETTLES, 2 WET, 3 LINE, 4 WEIGHT. NoSuchElementException: no such ones.");
        GrainShift x = new GrainShift();
        Checks.tell(x, 0, "l7");
        Checks.tell(x, 0, "r20,s30,m29,l999,w9");
        Checks.tell(x, 0, "w1");
        int[][] want = {{6, 0, 0, 7, 2}, {20, 30, 29, 999, 9}, {6, 0, 0, 500, 1}};
        for (int s = -1; s <= 3; s++) {
            for (int w = -1; w <= 5; w++) {
                boolean there = s >= 0 && s <= 2 && w >= 0 && w <= 4;
                c.same("stuff(" + s + ", " + w + ")", Checks.stuffOrThrown(x, s, w), there ? want[s][w] : Checks.THROWN);
            }
        }
    }

    private static void ships() {
        GrainShift x = new GrainShift();
        Checks.tell(x, 1, "h7;c12,h40;c2");
        Checks.tell(x, 1, "c5");
        int[][] want = {{8, 7}, {12, 40}, {2, 20}};
        c.promise(7, "Of a hold of a SHIP: 0 COLUMNS, 1 HEIGHT; how many holds (hold NONE, what 0).");
        for (int hold = 0; hold < 3; hold++) {
            for (int w = 0; w < 2; w++) {
                c.same("ship(0, " + hold + ", " + w + ")", x.ship(0, hold, w), want[hold][w]);
            }
        }
        c.same("holds", x.ship(0, -1, 0), 3);
        c.same("holds of 1", x.ship(1, -1, 0), 1);
        c.same("a row keeps nothing of the text ahead", x.ship(1, 0, 1), 20);
        c.promise(7, "NONE: no such ones.");
        for (int[] b : new int[][] {{0, 0, -1}, {0, 0, 2}, {0, 2, 2}, {0, -1, 1}, {0, -1, -1}, {0, 3, 0}, {0, -2, 0},
            {1, 1, 0}, {2, 0, 0}, {2, -1, 0}, {-1, 0, 0}, {-1, -1, 0}, {3, 0, 0}}) {
            c.same("ship(" + b[0] + ", " + b[1] + ", " + b[2] + ")", x.ship(b[0], b[1], b[2]), -1);
        }
    }

    private static void plans() {
        GrainShift x = new GrainShift();
        Checks.tell(x, 2, "g5,f480,t1,b40,k3;f7;k1;b3,g2");
        Checks.tell(x, 2, "t1");
        int[][] want = {{5, 480, 1, 40, 3}, {0, 7, 0, 0, 0}, {0, 0, 0, 0, 1}, {2, 0, 0, 3, 0}};
        c.promise(8, "Of a LAYING of a PLAN: 0 STUFF, 1 UNITS, 2 TRIMMED, 3 BOARD, 4 SACKS; how many (laying NONE, what 0).");
        for (int k = 0; k < 4; k++) {
            for (int w = 0; w < 5; w++) {
                c.same("plan(0, " + k + ", " + w + ")", x.plan(0, k, w), want[k][w]);
            }
        }
        c.same("layings", x.plan(0, -1, 0), 4);
        c.same("layings of 1", x.plan(1, -1, 0), 1);
        c.promise(8, "NONE: no such ones.");
        for (int[] b : new int[][] {{0, 0, -1}, {0, 0, 5}, {0, 3, 5}, {0, -1, 1}, {0, -1, -1}, {0, 4, 0}, {0, -2, 0},
            {1, 1, 0}, {2, 0, 0}, {2, -1, 0}, {-1, 0, 0}, {-1, -1, 0}, {6, 0, 0}}) {
            c.same("plan(" + b[0] + ", " + b[1] + ", " + b[2] + ")", x.plan(b[0], b[1], b[2]), -1);
        }
    }

    private static void counts() {
        c.promise(49, "0 STUFFS, 1 SHIPS, 2 PLANS, 3 bytes of the TAPE, 4 STIFF, 5 BALLAST, 6 LIMIT, 7 COURSES, 8 LOGS, 9 CELLS of the HEAP.");
        GrainShift x = new GrainShift();
        int[] told = {5, 3, 4};
        String[] texts = {"r1", "c2", "f1"};
        for (int sort = STUFF; sort <= PLAN; sort++) {
            for (int k = 0; k < told[sort]; k++) {
                Checks.tell(x, sort, texts[sort]);
            }
        }
        Checks.put(x, "abcdefg");
        x.set(0, 9999);
        x.set(1, -5);
        x.set(2, 60);
        x.course(1, 1);
        x.course(1, 1);
        x.port(1, 1);
        x.log(3);
        for (int k = 0; k < 6; k++) {
            x.heap(4);
        }
        int[] want = {5, 3, 4, 7, 9999, -5, 60, 2, 1, 6};
        for (int k = 0; k < 10; k++) {
            c.same("count(" + k + ")", x.count(k), want[k]);
        }
        c.promise(49, "HIDDEN for others.");
        for (int what : new int[] {10, -1, 11, Integer.MAX_VALUE, Integer.MIN_VALUE}) {
            c.same("count(" + what + ")", x.count(what), Checks.HIDDEN);
        }
    }
}
