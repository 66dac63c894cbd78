import java.util.NoSuchElementException;

/** Promises 1 to 8, 48 and 49: a new object, the tape, faults, texts and what they tell. */
public final class TextTest {
    private static final Checks c = new Checks();

    public static void main(String[] args) {
        newObject();
        tapeGrows();
        tapeEnds();
        stuffFaults();
        shipFaults();
        planFaults();
        ruleFaults();
        noSuchSort();
        asManyAsMayBe();
        stuffs();
        ships();
        plans();
        counts();
        c.finish();
    }

    private static void newObject() {
        GrainShift x = new GrainShift();
        int[] want = {0, 0, 0, 0, 400, 0, 25, 0, 0, 0};
        for (int k = 0; k < want.length; k++) {
            c.same("new: count(" + k + ")", x.count(k), want[k]);
        }
        c.same("new: rules()", x.rules(), 0);
        c.same("new: about(0)", x.about(0), Checks.HIDDEN);
        c.no("new: load", x.load(0, 0, 0));
        c.same("new: ship", x.ship(0, -1, 0), -1);
        c.same("new: plan", x.plan(0, -1, 0), -1);
        c.same("new: back", x.back(), -1);
    }

    private static void tapeGrows() {
        GrainShift x = new GrainShift();
        c.same("only bytes of 0", x.feed(0, 0, 0, 0, 0), 0);
        c.same("0 left out", x.feed(0x72000031, 0, 0x00320000, 0, 0x0000002C), 4);
        c.same("the order of bytes", x.fault(0), 4);
        x.feed(0x73350000, 0, 0, 0, 0);
        c.same("it goes on", x.text(0), 0);
        c.same("r12", x.stuff(0, 0), 12);
        c.same("s5", x.stuff(0, 1), 5);
        for (int k = 1; k <= 8; k++) {
            c.same("full words", x.feed(0x20202020, 0x20202020, 0x20202020, 0x20202020, 0x20202020), 20 * k);
        }
        c.same("more than 160", x.feed(0, 0, 0, 0, 32), -1);
        c.same("byte 1 is a byte", x.feed(0, 0, 0x01000000, 0, 0), -1);
        c.same("byte 1 is a byte", x.feed(0, 0x100, 0, 0, 0), -1);
        c.same("160 as before", x.count(3), 160);
        c.same("none more", x.feed(0, 0, 0, 0, 0), 160);
        x.end(159);
        c.same("two are too many", x.feed(0x20000020, 0, 0, 0, 0), -1);
        c.same("159 as before", x.count(3), 159);
        c.same("two in other words", x.feed(0, 32, 32, 0, 0), -1);
        c.same("two in other words", x.feed(0, 0, 0, 32, 32), -1);
        c.same("two in one word", x.feed(0, 0, 0x2020, 0, 0), -1);
        c.same("two in one word", x.feed(0, 0, 0, 0x202000, 0), -1);
        c.same("159 as before", x.count(3), 159);
        c.same("one may come", x.feed(0, 0, 0, 0, 0xE9), 160);
        c.same("a byte above 127", x.fault(0), 159);
    }

    private static void tapeEnds() {
        GrainShift x = new GrainShift();
        Checks.put(x, "r1x");
        c.no("end(-1)", x.end(-1));
        c.no("end(4)", x.end(4));
        c.same("as before", x.count(3), 3);
        c.yes("end(3)", x.end(3));
        c.same("fault", x.fault(0), 2);
        c.yes("end(2)", x.end(2));
        c.same("no fault", x.fault(0), -1);
        c.no("end(3)", x.end(3));
        c.yes("end(0)", x.end(0));
        c.same("empty", x.count(3), 0);
        c.no("end(MIN)", x.end(Integer.MIN_VALUE));
        c.no("end(MAX)", x.end(Integer.MAX_VALUE));
    }

    private static void stuffFaults() {
        c.fault(0, "r0,s0,m0,l0,w1", -1);
        c.fault(0, "r20,s30,m30,l999,w9", -1);
        c.fault(0, "w9,l999,m30,s30,r20", -1);
        c.fault(0, "r020", -1);
        c.fault(0, "  r  1 ,  s 2  ", -1);
        c.fault(0, "", 0);
        c.fault(0, "   ", 3);
        c.fault(0, "r", 1);
        c.fault(0, "r ", 2);
        c.fault(0, "r,", 1);
        c.fault(0, "r1,", 3);
        c.fault(0, "r1, ", 4);
        c.fault(0, "r21", 2);
        c.fault(0, "r210", 3);
        c.fault(0, "r21 ", 2);
        c.fault(0, "r21,r", 2);
        c.fault(0, "r0021", 4);
        c.fault(0, "r2100", 4);
        c.fault(0, "r0001", 4);
        c.fault(0, "r00001", 4);
        c.fault(0, "l0999", 4);
        c.fault(0, "l1000", 4);
        c.fault(0, "s31", 2);
        c.fault(0, "m31", 2);
        c.fault(0, "w0", 1);
        c.fault(0, "w00", 2);
        c.fault(0, "w10", 2);
        c.fault(0, "r1 2", 3);
        c.fault(0, "r1 ,r2", 4);
        c.fault(0, "r1,s1,m1,l1,w1,r1", 15);
        c.fault(0, "r1,s1,m1,l1,w1,", 15);
        c.fault(0, "r1;", 2);
        c.fault(0, "r1;r2", 2);
        c.fault(0, "c2", 0);
        c.fault(0, "R1", 0);
        c.fault(0, "r-1", 1);
        c.fault(0, "r1\t", 2);
        c.fault(0, ",r1", 0);
        c.fault(0, "r1,,s1", 3);
        c.fault(0, "r" + (char) 178, 1);
    }

    private static void shipFaults() {
        c.fault(1, "c2", -1);
        c.fault(1, "h4", -1);
        c.fault(1, "c12,h40;h04,c002;c5;h7", -1);
        c.fault(1, " c 2 ; h 4 ", -1);
        c.fault(1, "c1", 1);
        c.fault(1, "c13", 2);
        c.fault(1, "c130", 3);
        c.fault(1, "h3", 1);
        c.fault(1, "h41", 2);
        c.fault(1, "c2,c3", 3);
        c.fault(1, "c2;c3", -1);
        c.fault(1, "c2,h5,", 6);
        c.fault(1, "c2,h5,c3", 6);
        c.fault(1, "c2;", 3);
        c.fault(1, "c2;;", 3);
        c.fault(1, ";", 0);
        c.fault(1, "c2;c2;c2;c2", -1);
        c.fault(1, "c2;c2;c2;c2;", 11);
        c.fault(1, "c2;c2;c2;c2 ; c2", 12);
        c.fault(1, "g0", 0);
        c.fault(1, "c2;r1", 3);
    }

    private static void planFaults() {
        c.fault(2, "g5,f480,t1,b40,k3", -1);
        c.fault(2, "k0;b0;t0;f0", -1);
        c.fault(2, "g6", 1);
        c.fault(2, "f481", 3);
        c.fault(2, "f4800", 4);
        c.fault(2, "t2", 1);
        c.fault(2, "b41", 2);
        c.fault(2, "k4", 1);
        c.fault(2, "f1;f1;f1;f1;f1", 11);
        c.fault(2, "f1,t1,f2", 6);
        c.fault(2, "f1;t1,f2", -1);
        c.fault(2, "f1;", 3);
        c.fault(2, "w1", 0);
    }

    private static void ruleFaults() {
        c.fault(3, "y:0", -1);
        c.fault(3, " y : 1 2", 7);
        c.fault(3, "y:9999", -1);
        c.fault(3, "y:10000", 6);
        c.fault(3, "y:l+d-s*w/b+m", -1);
        c.fault(3, "y:[l+d]*2;y:3", -1);
        c.fault(3, "y:l>0?1;y:l<0?2;y:l=0?3;y:4", -1);
        c.fault(3, "y:!l>0?1", -1);
        c.fault(3, "y:(l>0|d=1)&!(s<2&w>1)?b-1", -1);
        c.fault(3, "y:l>0&d<2|m=1?1", -1);
        c.fault(3, "y:[l]>0?1", -1);
        c.fault(3, " y : ( l > 0 ) ? [ 1 + 2 ] ; y : 0 ", -1);
        c.fault(3, "", 0);
        c.fault(3, "x", 0);
        c.fault(3, "y", 1);
        c.fault(3, "y:", 2);
        c.fault(3, "y 1", 2);
        c.fault(3, "y:;", 2);
        c.fault(3, "y:1;", 4);
        c.fault(3, "y:1?", 3);
        c.fault(3, "y:1?2", 3);
        c.fault(3, "y:1&", 3);
        c.fault(3, "y:1|", 3);
        c.fault(3, "y:1)", 3);
        c.fault(3, "y:1]", 3);
        c.fault(3, "y:[1", 4);
        c.fault(3, "y:[1)", 4);
        c.fault(3, "y:[1>0]", 4);
        c.fault(3, "y:(1)", 4);
        c.fault(3, "y:(1>0)", 7);
        c.fault(3, "y:(1>0);", 7);
        c.fault(3, "y:(1>0)>1", 7);
        c.fault(3, "y:(1>0)+1", 7);
        c.fault(3, "y:(1>0]", 6);
        c.fault(3, "y:1>0;", 5);
        c.fault(3, "y:1>0>1", 5);
        c.fault(3, "y:1>0?2?", 7);
        c.fault(3, "y:1>0?2>1", 7);
        c.fault(3, "y:1>0?(2)", 6);
        c.fault(3, "y:1>0?!2", 6);
        c.fault(3, "y:!1?2", 4);
        c.fault(3, "y:!!l>0?1", -1);
        c.fault(3, "y:-1", 2);
        c.fault(3, "y:1+-1", 4);
        c.fault(3, "y:1+", 4);
        c.fault(3, "y:l d", 4);
        c.fault(3, "y:ld", 3);
        c.fault(3, "y:1l", 3);
        c.fault(3, "y:a", 2);
        c.fault(3, "y:y", 2);
        c.fault(3, "y:1>!2", 4);
        c.fault(3, "y:1>(2)", 4);
        c.fault(3, "y:1,2", 3);
        c.fault(3, "y:[[[[[[1]]]]]]", -1);
        c.fault(3, "y:[[[[[[[1]]]]]]]", 8);
        c.fault(3, "y:((((((1>0))))))?1", -1);
        c.fault(3, "y:(((((((1>0)))))))?1", 8);
        c.fault(3, "y:!!!!!!1>0?1", -1);
        c.fault(3, "y:1>[[[[[[1]]]]]]?1", -1);
        c.fault(3, "y:1>[[[[[[[1]]]]]]]?1", 10);
        c.fault(3, "y:(1>0&(1>0|(1>0&(1>0|(1>0&(1>0))))))?1", -1);
        c.fault(3, "y:(1>0&(1>0|(1>0&(1>0|(1>0&(1>0&[1]>0))))))?1", 32);
        c.fault(3, "y:!!!!!![1]>0?1", 8);
        c.fault(3, "y:!(!([[1]]>0))?1", -1);
        c.fault(3, "y:!(!([[[1]]]>0))?1", 8);
        c.fault(3, "y:!(!([[1]]>[[2]]))&!(!([[1]]>[[2]]))?[[[[[[1]]]]]]", -1);
        c.fault(3, "y:1>0|[[[[[[1]]]]]]>0&!!!!!!1>0?1", -1);
    }

    private static void noSuchSort() {
        GrainShift x = new GrainShift();
        Checks.put(x, "r1");
        int[] sorts = {-1, 4, 5, -2, Integer.MAX_VALUE, Integer.MIN_VALUE};
        for (int sort : sorts) {
            c.same("fault(" + sort + ")", x.fault(sort), -2);
            c.same("text(" + sort + ")", x.text(sort), -1);
        }
        c.same("the tape is as before", x.count(3), 2);
        c.same("text(1) of a stuff", x.text(1), -1);
        c.same("text(0)", x.text(0), 0);
        c.same("text(0) of nothing", x.text(0), -1);
    }

    private static void asManyAsMayBe() {
        GrainShift x = new GrainShift();
        String[] texts = {"r1", "c3", "f1", "y:1"};
        int[] most = {6, 3, 6, 4};
        for (int sort = 0; sort < 4; sort++) {
            for (int k = 0; k < most[sort]; k++) {
                c.same("text(" + sort + ")", Checks.tell(x, sort, texts[sort]), k);
            }
            c.same("one too many of " + sort, Checks.tell(x, sort, texts[sort]), -1);
            c.same("the tape stays", x.count(3), texts[sort].length());
            c.same("no fault for all that", x.fault(sort), -1);
        }
        c.same("rules()", x.rules(), 4);
        c.same("count(0)", x.count(0), 6);
        c.same("count(1)", x.count(1), 3);
        c.same("count(2)", x.count(2), 6);
    }

    private static void stuffs() {
        GrainShift x = new GrainShift();
        Checks.tell(x, 0, "l7");
        Checks.tell(x, 0, "r20,s30,m29,l999,w9");
        Checks.tell(x, 0, "w1");
        int[][] want = {{6, 0, 0, 7, 2}, {20, 30, 29, 999, 9}, {6, 0, 0, 500, 1}};
        for (int s = -1; s <= 3; s++) {
            for (int w = -1; w <= 5; w++) {
                boolean there = s >= 0 && s <= 2 && w >= 0 && w <= 4;
                int threw = 0;
                int got = 0;
                try {
                    got = x.stuff(s, w);
                } catch (NoSuchElementException e) {
                    threw = 1;
                }
                c.same("stuff(" + s + ", " + w + ") throws", threw, there ? 0 : 1);
                c.same("stuff(" + s + ", " + w + ")", got, there ? want[s][w] : 0);
            }
        }
    }

    private static void ships() {
        GrainShift x = new GrainShift();
        Checks.tell(x, 1, "h7;c12,h40;c2");
        Checks.tell(x, 1, "c5");
        int[][] want = {{8, 7}, {12, 40}, {2, 20}};
        for (int hold = 0; hold < 3; hold++) {
            for (int w = -1; w <= 2; w++) {
                c.same("ship(0, " + hold + ", " + w + ")", x.ship(0, hold, w), w == 0 || w == 1 ? want[hold][w] : -1);
            }
        }
        c.same("holds", x.ship(0, -1, 0), 3);
        c.same("holds of 1", x.ship(1, -1, 0), 1);
        c.same("a row keeps nothing of the text ahead", x.ship(1, 0, 1), 20);
        c.same("no what", x.ship(0, -1, 1), -1);
        c.same("no what", x.ship(0, -1, -1), -1);
        c.same("no hold 3", x.ship(0, 3, 0), -1);
        c.same("no hold -2", x.ship(0, -2, 0), -1);
        c.same("no hold 1 of 1", x.ship(1, 1, 0), -1);
        c.same("no ship 2", x.ship(2, 0, 0), -1);
        c.same("no ship -1", x.ship(-1, 0, 0), -1);
        c.same("no ship 2", x.ship(2, -1, 0), -1);
    }

    private static void plans() {
        GrainShift x = new GrainShift();
        Checks.tell(x, 2, "g5,f480,t1,b40,k3;f7;k1;b3,g2");
        Checks.tell(x, 2, "t1");
        int[][] want = {{5, 480, 1, 40, 3}, {0, 7, 0, 0, 0}, {0, 0, 0, 0, 1}, {2, 0, 0, 3, 0}};
        for (int k = 0; k < 4; k++) {
            for (int w = -1; w <= 5; w++) {
                c.same("plan(0, " + k + ", " + w + ")", x.plan(0, k, w), w >= 0 && w <= 4 ? want[k][w] : -1);
            }
        }
        c.same("layings", x.plan(0, -1, 0), 4);
        c.same("layings of 1", x.plan(1, -1, 0), 1);
        c.same("no what", x.plan(0, -1, 2), -1);
        c.same("no laying", x.plan(0, 4, 0), -1);
        c.same("no laying", x.plan(1, 1, 0), -1);
        c.same("no plan", x.plan(2, 0, 0), -1);
        c.same("no plan", x.plan(-1, -1, 0), -1);
    }

    private static void counts() {
        GrainShift x = new GrainShift();
        x.course(1, 1);
        x.course(1, 1);
        x.log(3);
        x.heap(4);
        x.heap(4);
        x.heap(4);
        x.set(0, 9999);
        x.set(1, -5);
        x.set(2, 60);
        Checks.put(x, "abc");
        int[] want = {0, 0, 0, 3, 9999, -5, 60, 2, 1, 3};
        for (int k = 0; k < 10; k++) {
            c.same("count(" + k + ")", x.count(k), want[k]);
        }
        c.same("count(10)", x.count(10), Checks.HIDDEN);
        c.same("count(-1)", x.count(-1), Checks.HIDDEN);
    }
}
