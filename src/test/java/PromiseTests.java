import java.math.BigInteger;

/** For each promise of the document: ordinary inputs, the edges it names, and wrong inputs. */
public final class PromiseTests {
    private static final int BAD = -1, NO = -2, FULL = -3, NONE = -4;
    // 0 at the top, 1 and 2 in the middle, 3 at the bottom; 0 begins ahead of all
    private static final String SQUARE =
        "n4;l0,1,1;l0,2,1;l1,3,1;l2,3,1;d0,9,50;d1,0,1;d2,0,2;d3,0,3;";
    // two clusters, {0, 1} and {2, 3}, and 4 for itself
    private static final String LINE =
        "n5;l0,1,2;l1,2,5;l2,3,1;l0,3,4;d0,6,10;d1,0,11;d2,6,12;d3,1,13;d4,6,14;";

    private static int wrong = 0;
    private static int promise = 0;

    private static void due(String call, int got, int want) {
        if (got != want) {
            wrong++;
            System.out.println("promise " + promise + ": " + call + " answered " + got + ", due is " + want);
        }
    }

    private static void write(DelayClusters x, String text) {
        x.wipe();
        for (int k = 0; k < text.length(); k++) {
            due("write(" + text.charAt(k) + ")", x.write(text.charAt(k)), k + 1);
        }
    }

    private static DelayClusters laid(String text, int places) {
        DelayClusters x = new DelayClusters();
        write(x, text);
        due("lay() of " + text, x.lay(), places);
        return x;
    }

    private static String many(char sign, int times) {
        return String.valueOf(sign).repeat(times);
    }

    private static void newObject() {
        DelayClusters x = new DelayClusters();
        due("count(12)", x.count(12), 0);
        due("wipe()", x.wipe(), 0);
        due("count(0)", x.count(0), 7);
        due("count(1)", x.count(1), 8);
        int[] links = {0, 1, 1, 1, 2, 2, 2, 3, 1, 3, 4, 1, 4, 5, 3, 5, 0, 1, 1, 6, 1, 6, 3, 2};
        for (int k = 0; k < links.length; k += 3) {
            due("linkOf", x.linkOf(links[k], links[k + 1], 0), links[k + 2]);
        }
        due("count(7)", x.count(7), 1);
        due("place(4, 0)", x.place(4, 0), 2);
        due("place(4, 1)", x.place(4, 1), 5);
        due("count(8)", x.count(8), 0);
        due("count(9)", x.count(9), 8);
        due("count(10)", x.count(10), 6);
        due("undo()", x.undo(), NO);
        due("BAD", DelayClusters.BAD, BAD);
        due("NO", DelayClusters.NO, NO);
        due("FULL", DelayClusters.FULL, FULL);
        due("NONE", DelayClusters.NONE, NONE);
    }

    private static void writing() {
        DelayClusters x = new DelayClusters();
        due("write(31)", x.write(31), BAD);
        due("write(127)", x.write(127), BAD);
        due("write(-1)", x.write(-1), BAD);
        due("write(65536 + 110)", x.write(65536 + 110), BAD);
        due("count(12)", x.count(12), 0);
        due("write(32)", x.write(32), 1);
        due("write(126)", x.write(126), 2);
        for (int k = 3; k <= 200; k++) {
            due("write(48)", x.write(48), k);
        }
        due("write(48) of a full text", x.write(48), FULL);
        due("write(31) of a full text", x.write(31), BAD);
        due("count(12)", x.count(12), 200);
    }

    private static void wiping() {
        DelayClusters x = new DelayClusters();
        write(x, "n3;x");
        due("wipe()", x.wipe(), 4);
        due("wipe()", x.wipe(), 0);
        due("fault()", x.fault(), NONE);
        write(x, many('n', 200));
        due("wipe()", x.wipe(), 200);
        due("write(110)", x.write(110), 1);
        due("count(0)", x.count(0), 7);
    }

    private static void faultOf(String text, int want) {
        DelayClusters x = new DelayClusters();
        write(x, text);
        due("fault() of " + text, x.fault(), want);
        due("lay() of " + text, x.lay() == NO ? NO : 0, want == NONE && !text.isEmpty() ? 0 : NO);
    }

    private static void faults() {
        faultOf("", NONE);
        String[] sound = {"n1;", "n16;", "n0016;", "n2;l0,1,9;", "n2;l1,0,1;", "n02;l0001,0000,0009;",
            "n2;l0,1,9;l1,0,1;", "n2;d1,30,999;", "n2;d0,0,0;d0,1,1;", "n2;m1,0;", "n2;m30,10;m2,2;",
            "n2;z0;", "n2;z9999;z1;", "n16;l15,14,1;d15,1,1;"};
        for (String text : sound) {
            faultOf(text, NONE);
        }
        String[] first = {"n", ";", "n;", "n1", "n0;", "n17;", "n00001;", "n1,;", "n1,1;", "N1;", " n1;", "n 1;",
            "n-1;", "n+1;", "l0,1,1;", "d0,1,1;", "m1,1;", "z1;", "z1;n2;", "x", "n1 ;", "1;"};
        for (String text : first) {
            faultOf(text, 0);
        }
        String[] second = {"n1;", ";", "n2;", "l0,1,1", "l0,1;", "l0,1,1,1;", "l0,0,1;", "l0,2,1;", "l2,0,1;",
            "l0,1,0;", "l0,1,10;", "l0,1,00001;", "l,1,1;", "l0,,1;", "l0,1,;", "l0;1;1;", "d2,0,0;", "d0,31,0;",
            "d0,0,1000;", "d0,0;", "d0,0,0,0;", "d0,0,0", "m0,5;", "m31,5;", "m5,11;", "m5;", "m5,5,5;", "z;",
            "z10000;", "z00001;", "z1,1;", "z1", "x;", "l0, 1,1;", "L0,1,1;", "l0,1,1;;", "~"};
        for (String text : second) {
            faultOf("n2;" + text, text.endsWith(";;") ? 10 : 3);
        }
        faultOf("n2;l0,1,1;d1,2,3;z7;m3,11;x", 20);
        faultOf("n3;" + many('z', 197), 3);
        // 200 letters without a fault
        faultOf("n9;" + "z1;".repeat(63) + "l0,1,02;", NONE);
    }

    private static void laying() {
        DelayClusters x = new DelayClusters();
        due("lay() of an empty text", x.lay(), NO);
        due("draws(5)", x.draws(5), 0);
        write(x, "n3;l0,1,4;l1,0,7;l1,2,2;d2,3,4;d2,5,6;m4,3;m7,2;z8;z9;");
        due("count(0) ahead", x.count(0), 7);
        due("lay()", x.lay(), 3);
        due("count(12)", x.count(12), 54);
        due("count(0)", x.count(0), 3);
        due("count(1)", x.count(1), 2);
        due("linkOf(0, 1, 0)", x.linkOf(0, 1, 0), 7);
        due("place(2, 0)", x.place(2, 0), 5);
        due("place(2, 1)", x.place(2, 1), 6);
        due("count(7)", x.count(7), 1);
        due("count(8)", x.count(8), 9);
        due("count(9)", x.count(9), 7);
        due("count(10)", x.count(10), 2);
        due("count(11)", x.count(11), 0);
        due("undo()", x.undo(), NO);
        due("draws(1)", x.draws(1), 9);
        x.write('!');
        due("lay() of a fault", x.lay(), NO);
        due("count(0)", x.count(0), 3);
        due("count(11)", x.count(11), 1);
        due("undo()", x.undo(), 0);
        write(x, "n2;");
        due("lay()", x.lay(), 2);
        due("count(1)", x.count(1), 0);
        due("count(7)", x.count(7), 0);
        due("count(8)", x.count(8), 0);
        due("count(9)", x.count(9), 8);
        due("count(10)", x.count(10), 6);
        due("lay() again", x.lay(), 2);
    }

    private static void linking() {
        DelayClusters x = laid("n16;", 16);
        int links = 0;
        for (int i = 0; i < 16 && links < 40; i++) {
            for (int j = i + 1; j < 16 && links < 40; j++) {
                links++;
                due("link", x.link(j, i, 1 + links % 9), links);
            }
        }
        due("link of one more", x.link(14, 15, 1), FULL);
        due("link of one more that is BAD", x.link(14, 15, 10), BAD);
        due("link(0, 1, 9)", x.link(0, 1, 9), 40);
        due("link(1, 0, 9)", x.link(1, 0, 9), NO);
        due("count(1)", x.count(1), 40);
        due("linkOf(14, 15, 0)", x.linkOf(14, 15, 0), NONE);
        due("linkOf(1, 0, 0)", x.linkOf(1, 0, 0), 9);
        due("unlink(0, 1)", x.unlink(0, 1), 9);
        due("link(14, 15, 1)", x.link(14, 15, 1), 40);
        due("link(0, 1, 0)", x.link(0, 1, 0), BAD);
        due("link(0, 1, -1)", x.link(0, 1, -1), BAD);
        due("link(3, 3, 1)", x.link(3, 3, 1), BAD);
        due("link(-1, 3, 1)", x.link(-1, 3, 1), BAD);
        due("link(3, 16, 1)", x.link(3, 16, 1), BAD);
        due("link(extremes)", x.link(Integer.MIN_VALUE, Integer.MAX_VALUE, 1), BAD);
        due("count(11)", x.count(11), 4);
    }

    private static void unlinking() {
        DelayClusters x = laid(SQUARE, 4);
        due("unlink(3, 1)", x.unlink(3, 1), 1);
        due("count(1)", x.count(1), 3);
        due("unlink(1, 3)", x.unlink(1, 3), NO);
        due("far(1, 3)", x.far(1, 3), 3);
        due("place(3, 8)", x.place(3, 8), 2);
        due("unlink(2, 3)", x.unlink(2, 3), 1);
        due("far(1, 3)", x.far(1, 3), NONE);
        due("place(3, 4)", x.place(3, 4), 3);
        due("unlink(2, 2)", x.unlink(2, 2), BAD);
        due("unlink(4, 2)", x.unlink(4, 2), BAD);
        due("unlink(2, -1)", x.unlink(2, -1), BAD);
        due("count(11)", x.count(11), 2);
    }

    private static void delaying() {
        DelayClusters x = new DelayClusters();
        due("delay(0, 30, 999)", x.delay(0, 30, 999), 7);
        due("place(0, 0)", x.place(0, 0), 30);
        due("place(0, 1)", x.place(0, 1), 999);
        due("place(0, 2)", x.place(0, 2), 1);
        due("place(4, 3)", x.place(4, 3), 28);
        due("delay(0, 0, 0)", x.delay(0, 0, 0), 30);
        due("delay(0, 0, 0) again", x.delay(0, 0, 0), 0);
        due("count(11)", x.count(11), 3);
        due("count(7)", x.count(7), 2);
        due("delay(0, -1, 0)", x.delay(0, -1, 0), BAD);
        due("delay(0, 31, 0)", x.delay(0, 31, 0), BAD);
        due("delay(0, 0, -1)", x.delay(0, 0, -1), BAD);
        due("delay(0, 0, 1000)", x.delay(0, 0, 1000), BAD);
        due("delay(7, 0, 0)", x.delay(7, 0, 0), BAD);
        due("delay(-1, 0, 0)", x.delay(-1, 0, 0), BAD);
        due("count(11)", x.count(11), 3);
    }

    private static int drawnNumber(long z, long i, long k) {
        BigInteger x = BigInteger.valueOf(7919 * z + 6151 * i + 3571 * k + 1);
        return x.multiply(x).mod(BigInteger.valueOf(65521)).intValue();
    }

    /** By 8 at most and 6 of ten. */
    private static int drawnDelay(int z, int i) {
        int d = 0;
        while (d < 8 && drawnNumber(z, i, d) % 10 < 6) {
            d++;
        }
        return d;
    }

    private static void drawing() {
        DelayClusters x = new DelayClusters();
        due("drawn(4)", x.drawn(4), drawnDelay(0, 4));
        due("place(4, 0)", x.place(4, 0), drawnDelay(0, 4));
        due("place(4, 2)", x.place(4, 2), 0);
        due("drawn(4) again", x.drawn(4), NO);
        due("drawn(7)", x.drawn(7), BAD);
        due("drawn(-1)", x.drawn(-1), BAD);
        due("delay(0, 1, 1)", x.delay(0, 1, 1), 7);
        due("drawn(0)", x.drawn(0), 7);
        due("place(0, 1)", x.place(0, 1), 728);
        // by no draw or by all draws a delay goes on
        due("P 0", laid("n2;d1,3,3;m5,0;", 2).drawn(1), 0);
        due("P 10", laid("n2;d1,3,3;m5,10;", 2).drawn(1), 5);
        due("M 30", laid("n2;d1,3,3;m30,10;", 2).drawn(1), 30);
        // 0 is drawn 7 of 8: kept to M if that is less
        due("M 3", laid("n1;d0,0,0;m3,6;", 1).drawn(0), 3);
    }

    private static void drawingByZ() {
        DelayClusters x = new DelayClusters();
        due("draws(0)", x.draws(0), NO);
        due("draws(9999)", x.draws(9999), 0);
        due("draws(9999) again", x.draws(9999), NO);
        for (int i = 0; i < 7; i++) {
            due("place(" + i + ", 0)", x.place(i, 0), i == 4 ? 2 : drawnDelay(9999, i));
            due("place(" + i + ", 1)", x.place(i, 1), i == 4 ? 5 : drawnNumber(9999, i, 99) % 1000);
        }
        due("draws(-1)", x.draws(-1), BAD);
        due("draws(10000)", x.draws(10000), BAD);
        due("count(8)", x.count(8), 9999);
        due("count(11)", x.count(11), 1);
        due("draws(0)", x.draws(0), 9999);
    }

    private static void undoing() {
        DelayClusters x = laid(SQUARE, 4);
        due("undo()", x.undo(), NO);
        due("link(0, 3, 5)", x.link(0, 3, 5), 5);
        due("link(0, 3, 6)", x.link(0, 3, 6), 5);
        due("undo()", x.undo(), 1);
        due("linkOf(0, 3, 0)", x.linkOf(0, 3, 0), 5);
        due("undo()", x.undo(), 0);
        due("linkOf(0, 3, 0)", x.linkOf(0, 3, 0), NONE);
        due("count(1)", x.count(1), 4);
        due("undo()", x.undo(), NO);
        due("unlink(0, 1)", x.unlink(0, 1), 1);
        due("delay(0, 1, 2)", x.delay(0, 1, 2), 9);
        due("drawn(0)", x.drawn(0), drawnDelay(0, 0));
        due("draws(3)", x.draws(3), 0);
        due("delay(0, 7, 8)", x.delay(0, 7, 8), drawnDelay(3, 0));
        due("count(11)", x.count(11), 4);
        due("undo()", x.undo(), 3);
        due("place(0, 2)", x.place(0, 2), 0);
        due("undo()", x.undo(), 2);
        due("count(8)", x.count(8), 0);
        due("undo()", x.undo(), 1);
        due("place(0, 0)", x.place(0, 0), 1);
        due("place(0, 1)", x.place(0, 1), 2);
        due("place(0, 2)", x.place(0, 2), 1);
        due("undo()", x.undo(), 0);
        due("place(0, 0)", x.place(0, 0), 9);
        due("place(0, 1)", x.place(0, 1), 50);
        due("undo()", x.undo(), NO);
        // the fifth is too long ago
        due("linkOf(0, 1, 0)", x.linkOf(0, 1, 0), NONE);
        due("draws(4)", x.draws(4), 0);
        due("lay()", x.lay(), 4);
        due("undo() behind LAID", x.undo(), NO);
    }

    private static void placing() {
        DelayClusters x = laid(SQUARE, 4);
        int[][] want = {
            {9, 50, 1, 0, 0, 0, 0, 0, NONE, 2}, {0, 1, 1, 9, 0, 0, 1, 1, 0, 2},
            {0, 2, 1, 9, 0, 0, 1, 1, 0, 2}, {0, 3, 1, 9, 0, 0, 2, 2, 1, 2}};
        for (int i = 0; i < 4; i++) {
            for (int what = 0; what < 10; what++) {
                due("place(" + i + ", " + what + ")", x.place(i, what), want[i][what]);
            }
        }
        due("link(0, 3, 9)", x.link(0, 3, 9), 5);
        due("place(3, 9)", x.place(3, 9), 3);
        due("place(1, 9)", x.place(1, 9), 2);
        due("place(0, 9) without links", laid("n2;", 2).place(0, 9), 0);
        due("place(4, 0)", x.place(4, 0), BAD);
        due("place(-1, 0)", x.place(-1, 0), BAD);
        due("place(0, -1)", x.place(0, -1), BAD);
        due("place(0, 10)", x.place(0, 10), BAD);
        // reached at once from both sides: the least fraction, then the lowest
        due("fraction", laid("n3;l0,1,1;l1,2,1;d0,5,7;d1,0,0;d2,5,6;", 3).place(1, 4), 2);
        due("lowest", laid("n3;l0,1,1;l1,2,1;d0,5,7;d1,0,0;d2,5,7;", 3).place(1, 4), 0);
        // reached when it would begin itself
        due("lowest, itself", laid("n2;l0,1,2;d0,5,7;d1,3,7;", 2).place(1, 4), 0);
        due("fraction, itself", laid("n2;l0,1,2;d0,5,7;d1,3,6;", 2).place(1, 4), 1);
        due("itself lowest", laid("n2;l0,1,2;d0,3,7;d1,5,7;", 2).place(0, 4), 0);
        // a cluster's number is its head's, not the lowest place's
        x = laid("n3;l0,2,1;d0,0,0;d1,9,1;d2,9,2;", 3);
        due("place(0, 5)", x.place(0, 5), 1);
        due("place(1, 5)", x.place(1, 5), 0);
        due("place(0, 8)", x.place(0, 8), 2);
    }

    private static void measuring() {
        DelayClusters x = laid(LINE, 5);
        due("far(0, 2)", x.far(0, 2), 5);
        due("far(2, 0)", x.far(2, 0), 5);
        due("far(1, 2)", x.far(1, 2), 5);
        due("far(1, 3)", x.far(1, 3), 6);
        due("far(4, 4)", x.far(4, 4), 0);
        due("far(4, 0)", x.far(4, 0), NONE);
        due("far(0, 4)", x.far(0, 4), NONE);
        due("far(5, 5)", x.far(5, 5), BAD);
        due("far(-1, 0)", x.far(-1, 0), BAD);
        due("far(0, -1)", x.far(0, -1), BAD);
        DelayClusters chain = laid("n16;", 16);
        for (int i = 0; i < 15; i++) {
            chain.link(i, i + 1, 9);
        }
        due("far(15, 0)", chain.far(15, 0), 135);
    }

    private static void fronts() {
        DelayClusters x = laid(SQUARE, 4);
        due("front(0, -1)", x.front(0, -1), 1);
        due("front(1, -1)", x.front(1, -1), 2);
        due("front(1, 0)", x.front(1, 0), 1);
        due("front(1, 1)", x.front(1, 1), 2);
        due("front(1, 2)", x.front(1, 2), NONE);
        due("front(2, 0)", x.front(2, 0), 3);
        due("front(9, -1)", x.front(9, -1), 0);
        due("front(200, -1)", x.front(200, -1), 0);
        due("front(200, 0)", x.front(200, 0), NONE);
        due("front(1, MAX)", x.front(1, Integer.MAX_VALUE), NONE);
        due("front(201, 0)", x.front(201, 0), BAD);
        due("front(-1, 0)", x.front(-1, 0), BAD);
        due("front(1, -2)", x.front(1, -2), BAD);
    }

    private static void linkKinds() {
        DelayClusters x = laid(SQUARE, 4);
        due("linkOf(3, 1, 1)", x.linkOf(3, 1, 1), 0);
        due("linkOf(2, 3, 1)", x.linkOf(2, 3, 1), 1);
        due("linkOf(2, 0, 1)", x.linkOf(2, 0, 1), 0);
        due("linkOf(1, 2, 1)", x.linkOf(1, 2, 1), NONE);
        due("linkOf(1, 1, 0)", x.linkOf(1, 1, 0), BAD);
        due("linkOf(1, 4, 0)", x.linkOf(1, 4, 0), BAD);
        due("linkOf(-1, 1, 0)", x.linkOf(-1, 1, 0), BAD);
        due("linkOf(0, 1, -1)", x.linkOf(0, 1, -1), BAD);
        due("linkOf(1, 2, 2)", x.linkOf(1, 2, 2), BAD);
        x = laid(LINE, 5);
        due("linkOf(1, 2, 1)", x.linkOf(1, 2, 1), 2);
        due("linkOf(1, 2, 0)", x.linkOf(1, 2, 0), 5);
        due("linkOf(0, 3, 1)", x.linkOf(0, 3, 1), 2);
        due("linkOf(3, 2, 1)", x.linkOf(3, 2, 1), 0);
    }

    private static void clusters() {
        DelayClusters x = laid(LINE, 5);
        int[][] want = {{0, 2, 2, 2, 1, 3}, {2, 2, 1, 2, 1, 12}, {4, 1, 0, 0, 0, 16}};
        for (int c = 0; c < 3; c++) {
            for (int what = 0; what < 6; what++) {
                due("cluster(" + c + ", " + what + ")", x.cluster(c, what), want[c][what]);
            }
            due("cluster(c, -1)", x.cluster(c, -1), BAD);
            due("cluster(c, 6)", x.cluster(c, 6), BAD);
        }
        due("cluster(3, 0)", x.cluster(3, 0), BAD);
        due("cluster(-1, 0)", x.cluster(-1, 0), BAD);
        due("cluster(MAX, 0)", x.cluster(Integer.MAX_VALUE, 0), BAD);
        DelayClusters row = laid("n4;l0,1,9;l1,2,9;l2,3,1;d0,5,1;d1,5,1;d2,5,1;d3,0,1;", 4);
        int[][] ofRow = {{0, 1, 0, 1, 1, 1}, {1, 1, 0, 2, 2, 2}, {2, 2, 1, 1, 1, 12}};
        for (int c = 0; c < 3; c++) {
            for (int what = 0; what < 6; what++) {
                due("cluster(" + c + ", " + what + ") of a row", row.cluster(c, what), ofRow[c][what]);
            }
        }
        DelayClusters alone = laid("n16;m1,10;", 16);
        due("cluster(15, 5)", alone.cluster(15, 5), 1 << 15);
    }

    private static void besides() {
        DelayClusters x = laid(LINE, 5);
        due("beside(0, 1, 0)", x.beside(0, 1, 0), 2);
        due("beside(1, 0, 0)", x.beside(1, 0, 0), 2);
        due("beside(0, 1, 1)", x.beside(0, 1, 1), 4);
        due("beside(1, 0, 1)", x.beside(1, 0, 1), 4);
        due("beside(0, 2, 0)", x.beside(0, 2, 0), 0);
        due("beside(0, 2, 1)", x.beside(0, 2, 1), NONE);
        due("beside(0, 0, 0)", x.beside(0, 0, 0), BAD);
        due("beside(0, 3, 0)", x.beside(0, 3, 0), BAD);
        due("beside(-1, 0, 0)", x.beside(-1, 0, 0), BAD);
        due("beside(0, 1, 2)", x.beside(0, 1, 2), BAD);
        due("beside(0, 2, -1)", x.beside(0, 2, -1), BAD);
    }

    private static void trying() {
        DelayClusters x = laid(LINE, 5);
        int[] want = {3, 2, 2, 2};
        for (int what = 0; what < 4; what++) {
            due("tried(9999, " + what + ")", x.tried(9999, what), want[what]);
        }
        due("tried(-1, 0)", x.tried(-1, 0), BAD);
        due("tried(10000, 0)", x.tried(10000, 0), BAD);
        due("tried(0, -1)", x.tried(0, -1), BAD);
        due("tried(0, 4)", x.tried(0, 4), BAD);
        x = new DelayClusters();
        due("tried(77, 0)", x.tried(77, 0), 3);
        due("tried(77, 1)", x.tried(77, 1), 4);
        due("count(2)", x.count(2), 1);
        due("count(8)", x.count(8), 0);
        due("count(11)", x.count(11), 0);
        due("place(0, 0)", x.place(0, 0), 7);
    }

    private static void bests() {
        DelayClusters told = laid(LINE, 5);
        due("best(60, 200, 0)", told.best(60, 200, 0), 0);
        due("best(60, 2, 1)", told.best(60, 2, 1), 2);
        due("best(60, 1, 0)", told.best(60, 1, 0), NONE);
        due("best(60, 1, 1)", told.best(60, 1, 1), NONE);
        DelayClusters x = new DelayClusters();
        for (int w = 0; w < 6; w++) {
            // one object has not calls enough for all w
            x = new DelayClusters();
            int z = NONE;
            for (int other = 0; other < 60; other++) {
                if (x.tried(other, 2) <= w && (z == NONE || x.tried(other, 1) < x.tried(z, 1))) {
                    z = other;
                }
                if (other == 0 || other == 29 || other == 59) {
                    due("best(.., " + w + ", 0)", x.best(other + 1, w, 0), z);
                    due("best(.., " + w + ", 1)", x.best(other + 1, w, 1), z == NONE ? NONE : x.tried(z, 1));
                }
            }
        }
        due("best(0, 0, 0)", x.best(0, 0, 0), BAD);
        due("best(61, 0, 0)", x.best(61, 0, 0), BAD);
        due("best(1, -1, 0)", x.best(1, -1, 0), BAD);
        due("best(1, 201, 0)", x.best(1, 201, 0), BAD);
        due("best(1, 0, -1)", x.best(1, 0, -1), BAD);
        due("best(1, 0, 2)", x.best(1, 0, 2), BAD);
    }

    private static void chances() {
        DelayClusters told = laid(LINE, 5);
        due("chance of a cut link, above", told.chance(1, 2, 60, 0), 1);
        due("chance of a cut link, below", told.chance(2, 1, 60, 1), 1);
        due("chance of another, above", told.chance(0, 1, 60, 0), 0);
        due("chance of another, below", told.chance(0, 1, 60, 1), 1);
        due("chance by one draw", told.chance(1, 2, 1, 0), 1);
        DelayClusters x = new DelayClusters();
        due("chance(0, 1, 60, 0)", x.chance(0, 1, 60, 0), 7);
        due("chance(1, 0, 60, 1)", x.chance(1, 0, 60, 1), 30);
        due("chance(4, 5, 10, 0)", x.chance(4, 5, 10, 0), 7);
        due("chance(4, 5, 10, 1)", x.chance(4, 5, 10, 1), 10);
        due("count(8)", x.count(8), 0);
        due("chance(0, 2, 5, 0)", x.chance(0, 2, 5, 0), NO);
        due("chance(0, 2, 5, 2)", x.chance(0, 2, 5, 2), BAD);
        due("chance(0, 2, 61, 0)", x.chance(0, 2, 61, 0), BAD);
        due("chance(0, 1, 0, 0)", x.chance(0, 1, 0, 0), BAD);
        due("chance(0, 1, 5, -1)", x.chance(0, 1, 5, -1), BAD);
        due("chance(1, 1, 5, 0)", x.chance(1, 1, 5, 0), BAD);
        due("chance(7, 1, 5, 0)", x.chance(7, 1, 5, 0), BAD);
        due("chance(1, -1, 5, 0)", x.chance(1, -1, 5, 0), BAD);
    }

    private static void rises() {
        DelayClusters x = laid(SQUARE, 4);
        // at the top nobody is near enough to come first
        due("rise(0)", x.rise(0), 0);
        // their fractions are less than that of 0, so a tie is enough
        due("rise(1)", x.rise(1), 8);
        due("rise(3)", x.rise(3), 7);
        x.delay(3, 0, 51);
        due("rise(3) of a greater fraction", x.rise(3), 8);
        x.delay(0, 30, 0);
        due("rise(1) beside 30", x.rise(1), 30);
        due("count(2)", x.count(2), 1);
        due("place(1, 0)", x.place(1, 0), 0);
        due("rise(-1)", x.rise(-1), BAD);
        due("rise(4)", x.rise(4), BAD);
        // of equal fractions the lowest is joined
        DelayClusters equal = laid("n2;l0,1,1;d0,5,7;d1,5,7;", 2);
        due("rise(0)", equal.rise(0), 4);
        due("rise(1)", equal.rise(1), 5);
    }

    private static void counts() {
        DelayClusters x = laid(LINE, 5);
        x.draws(17);
        int[] want = {5, 4, 3, 2, 0, 2, 2, 5, 17, 8, 6, 1, LINE.length()};
        for (int what = 0; what < want.length; what++) {
            due("count(" + what + ")", x.count(what), want[what]);
        }
        due("count(-1)", x.count(-1), BAD);
        due("count(13)", x.count(13), BAD);
        due("count(4) of the square", laid(SQUARE, 4).count(4), 1);
        DelayClusters alone = laid("n1;d0,0,0;", 1);
        int[] ofOne = {1, 0, 1, 0, 0, 0, 0, 1, 0, 8, 6, 0, 10};
        for (int what = 0; what < ofOne.length; what++) {
            due("count(" + what + ") of one place", alone.count(what), ofOne[what]);
        }
        // the last hour is not how wide the widest is
        DelayClusters late = laid("n2;d0,9,0;d1,2,0;", 2);
        due("count(5)", late.count(5), 0);
        due("count(6)", late.count(6), 7);
    }

    public static void main(String[] args) {
        Runnable[] tests = {PromiseTests::newObject, PromiseTests::writing, PromiseTests::wiping,
            PromiseTests::faults, PromiseTests::laying, PromiseTests::linking, PromiseTests::unlinking,
            PromiseTests::delaying, PromiseTests::drawing, PromiseTests::drawingByZ, PromiseTests::undoing,
            PromiseTests::placing, PromiseTests::measuring, PromiseTests::fronts, PromiseTests::linkKinds,
            PromiseTests::clusters, PromiseTests::besides, PromiseTests::trying, PromiseTests::bests,
            PromiseTests::chances, PromiseTests::rises, PromiseTests::counts};
        for (Runnable test : tests) {
            promise++;
            test.run();
        }
        System.out.println(wrong == 0 ? "all promises hold" : wrong + " answers are not as due");
        if (wrong != 0) {
            System.exit(1);
        }
    }
}
