/** One method a promise of DOC.md: ordinary inputs, the edges that it names, wrong inputs. */
public final class PromiseTests {
    private static final int BAD = GravesExchanged.BAD;
    private static final int NO = GravesExchanged.NO;
    private static final int FULL = GravesExchanged.FULL;
    private static final int NONE = GravesExchanged.NONE;
    private static final int LOW = Integer.MIN_VALUE;
    private static final int HIGH = Integer.MAX_VALUE;

    // The dead lie in the plots 7, 0 and 7 of eight; who visits 1 and 2 is of one village.
    private static final String THREE = "y8;d0,0,0;d1,0,9;d1,0,0;v0,3;v1,2;v2,1;";

    private static int checks = 0;
    private static int wrong = 0;

    public static void main(String[] args) {
        newObject();
        write();
        wipe();
        faultOfForm();
        faultOfNumbers();
        faultOfOrder();
        lay();
        dead();
        plot();
        visitor();
        buryPlain();
        buryOthers();
        buryRefused();
        change();
        forgive();
        visit();
        undo();
        right();
        moved();
        mend();
        grudge();
        takes();
        tour();
        enough();
        leave();
        seen();
        forget();
        was();
        owed();
        balance();
        names();
        next();
        year();
        keep();
        back();
        count();
        constants();
        System.out.println(checks + " checks, " + wrong + " wrong");
        if (wrong != 0) {
            System.exit(1);
        }
    }

    private static void due(String call, int got, int want) {
        checks++;
        if (got != want) {
            wrong++;
            System.out.println(call + " answered " + got + ", due is " + want);
        }
    }

    private static GravesExchanged written(String text) {
        GravesExchanged x = new GravesExchanged();
        for (int i = 0; i < text.length(); i++) {
            due("write " + text + " at " + i, x.write(text.charAt(i)), i + 1);
        }
        return x;
    }

    private static GravesExchanged laid(String text) {
        GravesExchanged x = written(text);
        if (x.lay() < 1) {
            due("lay " + text, NO, 1);
        }
        return x;
    }

    private static void faultDue(String text, int want) {
        due("fault of " + text, written(text).fault(), want);
        if (want != NONE) {
            due("lay of " + text, written(text).lay(), NO);
        }
    }

    private static void countsDue(GravesExchanged x, String when, int... want) {
        for (int what = 0; what < want.length; what++) {
            due("count(" + what + ") " + when, x.count(what), want[what]);
        }
    }

    private static void plotsDue(GravesExchanged x, String when, int yard, int... want) {
        for (int p = 0; p < want.length; p++) {
            due("plot(" + yard + ", " + p + ") " + when, x.plot(yard, p), want[p]);
        }
        due("plot(" + yard + ", " + want.length + ") " + when, x.plot(yard, want.length), BAD);
    }

    private static void newObject() {
        GravesExchanged x = new GravesExchanged();
        countsDue(x, "at first", 7, 4, 4, 40, 1, 0, 0, 0, 0);
        plotsDue(x, "at first", 0, 5, 4, 1, NONE);
        plotsDue(x, "at first", 1, 0, 3, 2, 24);
        due("undo at first", x.undo(), NO);
        due("back at first", x.back(), NO);
        due("fault at first", x.fault(), NONE);
        due("lay at first", x.lay(), NO);
        countsDue(x, "behind a lay that was refused", 7, 4, 4, 40);
    }

    private static void write() {
        GravesExchanged x = new GravesExchanged();
        due("write(31)", x.write(31), BAD);
        due("write(127)", x.write(127), BAD);
        due("write(lowest)", x.write(LOW), BAD);
        due("write(highest)", x.write(HIGH), BAD);
        due("write(32)", x.write(32), 1);
        due("write(126)", x.write(126), 2);
        for (int n = 3; n <= 200; n++) {
            due("write the letter " + n, x.write('y'), n);
        }
        due("write one too many", x.write('y'), FULL);
        due("write a wrong one to a full text", x.write(0), BAD);
        due("count(8) when full", x.count(8), 200);
        due("fault of a blank", x.fault(), 0);
    }

    private static void wipe() {
        GravesExchanged x = written("y4;");
        due("wipe", x.wipe(), 3);
        due("wipe again", x.wipe(), 0);
        due("count(8) when wiped", x.count(8), 0);
        due("write when wiped", x.write('d'), 1);
        due("fault of what is behind a wipe", x.fault(), 0);
        due("dead when wiped", x.count(0), 7);
    }

    private static void faultOfForm() {
        faultDue("", NONE);
        faultDue("y4;", NONE);
        faultDue("y4;d0,0,7;", NONE);
        faultDue("d00,00,07;v00,07;t07;", NONE);
        faultDue("y04;", NONE);
        faultDue("y004;", 0);
        faultDue("y4", 0);
        faultDue("y", 0);
        faultDue("y;", 0);
        faultDue("y4,;", 0);
        faultDue("y4;;", 3);
        faultDue("y4; d0,0,0;", 3);
        faultDue("y4;D0,0,0;", 3);
        faultDue("d0,0;", 0);
        faultDue("d0,0,0,0;", 0);
        faultDue("d0,0,;", 0);
        faultDue("d0,,0;", 0);
        faultDue("d0;0,0;", 0);
        faultDue("d0,0,0,", 0);
        faultDue("d0,0,0;v0;", 7);
        faultDue("d0,0,0;v0,1,1;", 7);
        faultDue("t-1;", 0);
        faultDue("t100;", 0);
        faultDue("t6 ;", 0);
        faultDue("x1;", 0);
        faultDue("y4;d0,0,0;z", 10);
        faultDue("y4;d0,0,0;t5;t", 13);
    }

    private static void faultOfNumbers() {
        faultDue("y2;", NONE);
        faultDue("y8;", NONE);
        faultDue("y1;", 0);
        faultDue("y9;", 0);
        faultDue("d1,3,9;", NONE);
        faultDue("d2,0,0;", 0);
        faultDue("d0,4,0;", 0);
        faultDue("d0,0,10;", 0);
        faultDue("d0,0,0;v0,1;", NONE);
        faultDue("d0,0,0;v0,20;", NONE);
        faultDue("d0,0,0;v0,0;", 7);
        faultDue("d0,0,0;v0,21;", 7);
        faultDue("d0,0,0;v1,1;", 7);
        faultDue("v0,1;d0,0,0;", 0);
        faultDue("t1;", NONE);
        faultDue("t99;", NONE);
        faultDue("t0;", 0);
        faultDue("t00;", 0);
        faultDue("y4;y9;y1;", 3);
    }

    private static void faultOfOrder() {
        faultDue("y3;y4;d0,0,0;", NONE);
        faultDue("d0,0,0;y4;", 7);
        faultDue("t5;y4;", 3);
        faultDue("d0,0,0;v0,1;y4;", 12);
        faultDue("t5;d0,0,0;t6;v0,1;d1,1,1;v1,2;", NONE);
        String dozen = "d0,0,0;".repeat(12);
        faultDue(dozen, NONE);
        faultDue(dozen + "v11,1;", NONE);
        faultDue(dozen + "v12,1;", 84);
        faultDue(dozen + "d0,0,0;", 84);
        String six = "d0,0,0;" + "v0,1;".repeat(6);
        faultDue(six, NONE);
        faultDue(six + "v0,1;", 37);
    }

    private static void lay() {
        GravesExchanged x = written("y5;t9;");
        due("lay without dead", x.lay(), NO);
        due("count(2) behind it", x.count(2), 4);
        due("wipe", x.wipe(), 6);
        x = written("d0,0,0;");
        x.seen(0, 0);
        x.keep();
        x.forgive(0, 1);
        due("lay", x.lay(), 1);
        countsDue(x, "when laid without y and t", 1, 0, 6, 60, 0, 0, 0, 0, 7);
        due("undo when laid", x.undo(), NO);
        due("back when laid", x.back(), NO);
        due("plot of him", x.dead(0, 3), 5);
        due("lay again", x.lay(), 1);
        x = laid("y3;y2;d0,0,0;t5;t7;");
        due("plots: the last one", x.count(2), 2);
        due("truce: the last one", x.count(3), 7);
        x = written("d0,0,0;x");
        x.seen(0, 0);
        x.keep();
        x.forgive(0, 1);
        due("lay with a fault", x.lay(), NO);
        countsDue(x, "behind a lay with a fault", 7, 4, 4, 40, 1, 1, 1, 1, 8);
    }

    private static void dead() {
        GravesExchanged x = new GravesExchanged();
        int[][] want = {{0, 0, 7, 0, NONE}, {1, 0, 3, 2, NONE}, {0, 1, 2, 2, NONE}, {0, 0, 9, 1, NONE},
            {1, 3, 5, 1, 3}, {1, 2, 0, 0, NONE}, {0, 0, 6, NONE, NONE}};
        for (int i = 0; i < want.length; i++) {
            for (int what = 0; what < 5; what++) {
                due("dead(" + i + ", " + what + ")", x.dead(i, what), want[i][what]);
            }
            due("dead(" + i + ", 5)", x.dead(i, 5), BAD);
            due("dead(" + i + ", -1)", x.dead(i, -1), BAD);
        }
        due("dead(7, 0)", x.dead(7, 0), BAD);
        due("dead(-1, 0)", x.dead(-1, 0), BAD);
        due("dead(highest, lowest)", x.dead(HIGH, LOW), BAD);
    }

    private static void plot() {
        GravesExchanged x = new GravesExchanged();
        plotsDue(x, "at first", 1, 0, 3, 2, 24);
        due("plot(0, -1)", x.plot(0, -1), BAD);
        due("plot(-1, 0)", x.plot(-1, 0), BAD);
        due("plot(2, 0)", x.plot(2, 0), BAD);
        due("plot(highest, highest)", x.plot(HIGH, HIGH), BAD);
        plotsDue(laid("y8;d1,0,0;d1,3,9;"), "of eight", 0, 1, NONE, NONE, NONE, NONE, NONE, NONE, 0);
    }

    private static void visitor() {
        GravesExchanged x = new GravesExchanged();
        int[][] want = {{0, 4}, {1, 3}, {3, 6}, {5, 2}};
        for (int v = 0; v < want.length; v++) {
            due("visitor(" + v + ", 0)", x.visitor(v, 0), want[v][0]);
            due("visitor(" + v + ", 1)", x.visitor(v, 1), want[v][1]);
            due("visitor(" + v + ", 2)", x.visitor(v, 2), BAD);
            due("visitor(" + v + ", -1)", x.visitor(v, -1), BAD);
        }
        due("visitor(4, 0)", x.visitor(4, 0), BAD);
        due("visitor(-1, 0)", x.visitor(-1, 0), BAD);
        due("visitor(highest, 1)", x.visitor(HIGH, 1), BAD);
    }

    private static void buryPlain() {
        // With 8 plots one wants (9 - F) * 8 / 10, cut.
        int[] wants = {7, 6, 5, 4, 4, 3, 2, 1, 0, 0};
        for (int f = 0; f < 10; f++) {
            GravesExchanged x = laid("y8;d1,2,0;");
            due("a plain one forgiven " + f, x.bury(0, 0, f), wants[f]);
            due("a bitter one behind him", x.bury(0, 1, f), wants[f] == 0 ? 7 : wants[f] - 1);
            int behind = (wants[f] + 1) % 8;
            due("a plain one behind both", x.bury(0, 0, f), wants[f] == 7 ? 0 : behind);
        }
        GravesExchanged x = laid("y3;d0,0,0;");
        due("plain, round the end", x.bury(0, 0, 0), 0);
        due("plain, the last one free", x.bury(0, 0, 0), 1);
        due("plain, none free", x.bury(0, 0, 9), NONE);
        due("the other yard is free", x.bury(1, 0, 9), 0);
    }

    private static void buryOthers() {
        GravesExchanged x = laid("y3;d0,1,9;");
        due("bitter, round the beginning", x.bury(0, 1, 9), 2);
        due("bitter, the last one free", x.bury(0, 1, 9), 1);
        due("bitter, none free", x.bury(0, 1, 9), NONE);
        x = laid("y3;d0,0,9;");
        due("a child, the first free", x.bury(0, 2, 0), 1);
        due("a child, the next", x.bury(0, 2, 9), 2);
        due("a child, none free", x.bury(0, 2, 9), NONE);
        x = laid("y3;d0,3,9;");
        due("drowned: his plot", x.dead(0, 3), 0);
        due("drowned: his double", x.dead(0, 4), 0);
        due("drowned behind his own", x.bury(0, 3, 9), 1);
        due("his double", x.dead(1, 4), 1);
        due("drowned of the other village", x.bury(1, 3, 0), 2);
        due("his double, too", x.dead(2, 4), 2);
        due("doubles", x.count(4), 3);
        due("drowned without a plot", x.bury(1, 3, 0), NONE);
        due("no double without a plot", x.dead(3, 4), NONE);
        x = laid("y2;d1,0,0;d1,0,0;");
        due("drowned with no room for a double", x.bury(0, 3, 0), 1);
        due("no double without room", x.dead(2, 4), NONE);
        x = laid("y2;d0,0,0;d0,0,0;");
        due("drowned and owed", x.bury(0, 3, 0), NONE);
        due("no double of one who is owed", x.dead(2, 4), NONE);
        plotsDue(x, "where no double is", 0, NONE, NONE);
    }

    private static void buryRefused() {
        GravesExchanged x = new GravesExchanged();
        int[][] bad = {{-1, 0, 0}, {2, 0, 0}, {0, -1, 0}, {0, 4, 0}, {0, 0, -1}, {0, 0, 10}, {LOW, HIGH, LOW}};
        for (int[] b : bad) {
            due("bury " + b[0] + ", " + b[1] + ", " + b[2], x.bury(b[0], b[1], b[2]), BAD);
        }
        due("nothing to undo", x.count(6), 0);
        for (int n = 8; n <= 12; n++) {
            due("one who is owed", x.bury(0, 0, 0), NONE);
            due("how many then", x.count(0), n);
        }
        due("the thirteenth, who would be owed", x.bury(0, 0, 0), FULL);
        due("the thirteenth, who would lie", x.bury(1, 0, 0), FULL);
        due("the thirteenth, a wrong one", x.bury(2, 0, 0), BAD);
        due("how many then", x.count(0), 12);
        due("that can be undone", x.count(6), 5);
    }

    private static void change() {
        GravesExchanged x = new GravesExchanged();
        due("change with a double", x.change(1, 0, 3), 24);
        plotsDue(x, "then", 1, 24, 3, 2, 0);
        due("his double lies there", x.dead(4, 4), 0);
        due("change with a free one", x.change(0, 0, 3), NONE);
        plotsDue(x, "then", 0, NONE, 4, 1, 5);
        due("the free one with another", x.change(0, 0, 1), 4);
        due("that can be undone", x.count(6), 3);
        int[][] bad = {{-1, 0, 1}, {2, 0, 1}, {0, -1, 1}, {0, 4, 1}, {0, 1, -1}, {0, 1, 4}, {0, 2, 2}, {LOW, LOW, HIGH}};
        for (int[] b : bad) {
            due("change " + b[0] + ", " + b[1] + ", " + b[2], x.change(b[0], b[1], b[2]), BAD);
        }
        due("that can be undone still", x.count(6), 3);
        x = laid("d0,0,0;");
        due("two free ones", x.change(0, 0, 1), NONE);
        due("which can be undone", x.undo(), 0);
    }

    private static void forgive() {
        GravesExchanged x = new GravesExchanged();
        due("forgive", x.forgive(3, 0), 9);
        due("forgiven", x.dead(3, 2), 0);
        due("nobody is moved", x.dead(3, 3), 1);
        due("forgive as before", x.forgive(3, 0), 0);
        due("that can be undone", x.count(6), 2);
        int[][] bad = {{-1, 0}, {7, 0}, {0, -1}, {0, 10}, {HIGH, LOW}};
        for (int[] b : bad) {
            due("forgive " + b[0] + ", " + b[1], x.forgive(b[0], b[1]), BAD);
        }
        due("that can be undone still", x.count(6), 2);
    }

    private static void visit() {
        GravesExchanged x = new GravesExchanged();
        int[][] bad = {{-1, 1}, {7, 1}, {0, 0}, {0, 21}, {HIGH, LOW}};
        for (int[] b : bad) {
            due("visit " + b[0] + ", " + b[1], x.visit(b[0], b[1]), BAD);
        }
        due("visit", x.visit(6, 1), 5);
        due("whom", x.visitor(4, 0), 6);
        due("how long", x.visitor(4, 1), 1);
        due("visit", x.visit(0, 20), 6);
        due("one too many", x.visit(0, 20), FULL);
        due("one too many, a wrong one", x.visit(0, 21), BAD);
        countsDue(x, "then", 7, 6, 4, 40, 1, 0, 2);
    }

    private static void undo() {
        GravesExchanged x = new GravesExchanged();
        x.bury(1, 3, 5);
        x.change(0, 0, 3);
        x.forgive(7, 1);
        x.visit(7, 9);
        due("undo a visit", x.undo(), 3);
        due("visitors", x.count(1), 4);
        due("undo what was forgiven", x.undo(), 2);
        due("forgiven", x.dead(7, 2), 5);
        due("undo a change", x.undo(), 1);
        plotsDue(x, "then", 0, 5, 4, 1, 7);
        due("undo a burial", x.undo(), 0);
        plotsDue(x, "then", 0, 5, 4, 1, NONE);
        due("dead", x.count(0), 7);
        due("undo", x.undo(), NO);
        for (int f = 0; f < 10; f++) {
            x.forgive(0, f);
            due("that can be undone", x.count(6), Math.min(f + 1, 8));
        }
        for (int n = 7; n >= 0; n--) {
            due("undo", x.undo(), n);
            due("forgiven", x.dead(0, 2), n + 1);
        }
        due("undo", x.undo(), NO);
        due("forgiven", x.dead(0, 2), 1);
        x = laid("y2;d1,0,0;");
        x.bury(0, 3, 0);
        due("undo a burial with a double", x.undo(), 0);
        plotsDue(x, "then", 0, NONE, 0);
        plotsDue(x, "then", 1, NONE, NONE);
    }

    private static void right() {
        GravesExchanged x = new GravesExchanged();
        int[] want = {0, 2, 2, 1, 1, 0, NONE};
        for (int i = 0; i < want.length; i++) {
            due("right(" + i + ")", x.right(i), want[i]);
        }
        x.change(1, 0, 1);
        due("right when changed", x.right(0), 0);
        x.forgive(0, 0);
        due("right when forgiven less", x.right(0), 3);
        due("right of one behind", x.right(3), 0);
        due("where he lies", x.dead(0, 3), 1);
        due("right(7)", x.right(7), BAD);
        due("right(-1)", x.right(-1), BAD);
        due("right(highest)", x.right(HIGH), BAD);
    }

    private static void moved() {
        GravesExchanged x = new GravesExchanged();
        due("moved", x.moved(), 0);
        x.change(1, 2, 3);
        due("moved: one and a double", x.moved(), 1 << 2);
        x.change(0, 0, 1);
        due("moved: two more", x.moved(), 1 << 2 | 1 << 4 | 1 << 5);
        x.change(1, 2, 3);
        x.change(0, 0, 1);
        due("moved: none again", x.moved(), 0);
        x = laid("y3;d1,3,9;d0,0,9;");
        x.change(1, 0, 2);
        due("only a double is moved", x.moved(), 0);
    }

    private static void mend() {
        GravesExchanged x = laid("y8;" + "d0,2,0;".repeat(8));
        due("mend", x.mend(1), 0);
        due("mend an empty yard", x.mend(0), 0);
        x.change(1, 0, 1);
        due("mend a ring of two", x.mend(1), 1);
        x.change(1, 1, 2);
        due("mend a ring of three", x.mend(1), 2);
        x.change(1, 4, 5);
        x.change(1, 6, 7);
        due("mend three rings", x.mend(1), 4);
        due("mend(2)", x.mend(2), BAD);
        due("mend(-1)", x.mend(-1), BAD);
        x = laid("y4;d1,2,0;d1,2,0;");
        x.change(0, 0, 2);
        due("mend one by a free plot", x.mend(0), 1);
        x.change(0, 0, 1);
        due("mend a row of two", x.mend(0), 2);
        x.change(0, 2, 3);
        due("mend two rows, the free plots alike", x.mend(0), 2);
        x = laid("y4;d1,2,0;");
        x.change(0, 2, 3);
        due("free plots need no mending", x.mend(0), 0);
        x = laid("y3;d1,3,9;d0,0,9;");
        x.change(1, 0, 2);
        due("mend a double", x.mend(1), 1);
    }

    private static void grudge() {
        GravesExchanged x = laid("y8;d0,0,9;d0,0,0;");
        due("grudge", x.grudge(), 0);
        x.change(1, 0, 7);
        due("grudge of the one who lies worse", x.grudge(), 7);
        x.change(1, 0, 3);
        due("grudge though the other one is better off", x.grudge(), 7);
        x.bury(1, 2, 0);
        x.change(0, 0, 2);
        due("grudge of both yards", x.grudge(), 9);
        due("grudge of the first text", new GravesExchanged().grudge(), 0);
    }

    private static void takes() {
        GravesExchanged x = new GravesExchanged();
        due("takes(0)", x.takes(0), 30);
        due("takes(1)", x.takes(1), 30);
        due("takes(2)", x.takes(2), BAD);
        due("takes(-1)", x.takes(-1), BAD);
        due("nobody goes", laid("d0,0,0;").takes(0), 0);
        due("one goes, is there for a minute, comes back", laid("d0,0,9;v0,5;").takes(0), 11);
        due("one goes to the last of eight plots", laid("y8;d0,0,0;v0,5;").takes(0), 18);
        // Of one village: 3 over, 1 there, 3 back, and only then 4 over, 1 there, 4 back.
        due("two of one village", laid("d0,0,9;v0,3;v0,4;").takes(0), 16);
        // Of two: 3 over, 4 over, 3 back (6 there at the least), 4 back.
        due("two of two villages", laid("d0,0,0;d1,0,9;v0,3;v1,4;").takes(0), 16);
        // Any order takes as long as it does backward: each goes over where he came back.
        due("the same, backward", laid("d0,0,0;d1,0,9;v0,3;v1,4;").takes(1), 16);
        due("one visits one who is owed", laid("y2;d0,2,0;d0,2,0;d0,2,0;v2,9;v0,1;").takes(0), 3);
    }

    private static void tour() {
        GravesExchanged x = laid(THREE);
        due("in order", x.takes(0), 26);
        // 1 over till 2, 0 till 5, 1 back till 7, 2 over till 8, 0 back from 13 to 16, 2 from 16 to 17.
        due("as much", x.tour(-1), 17);
        due("the first", x.tour(0), 1);
        due("the second", x.tour(1), 0);
        due("the third", x.tour(2), 2);
        due("the fourth", x.tour(3), NONE);
        due("the highest", x.tour(HIGH), NONE);
        due("tour(-2)", x.tour(-2), BAD);
        due("tour(lowest)", x.tour(LOW), BAD);
        x = laid("y2;d0,2,0;d0,2,0;d0,2,0;v2,9;");
        due("nobody goes: as much", x.tour(-1), NONE);
        due("nobody goes: the first", x.tour(0), NONE);
        due("nobody goes: a wrong number", x.tour(-2), BAD);
        due("no visitors", laid("d0,0,0;").tour(-1), NONE);
        x = laid("y2;d0,2,0;d0,2,0;d0,2,0;v2,9;v1,2;v0,1;");
        due("he who does not go is none of them", x.tour(0), 1);
        due("the lowest first, of several", x.tour(1), 2);
        due("no more of them", x.tour(2), NONE);
    }

    private static void enough() {
        due("as long as the truce", laid("d0,0,9;v0,5;t11;").enough(), 1);
        due("a minute more", laid("d0,0,9;v0,5;t10;").enough(), 0);
        due("nobody goes", laid("d0,0,9;t1;").enough(), 1);
        due("by the soonest order", laid(THREE + "t17;").enough(), 1);
        due("by none", laid(THREE + "t16;").enough(), 0);
        due("without a truce told", laid("d0,0,9;v0,20;v0,9;").enough(), 1);
        due("without a truce told, more", laid("d0,0,9;v0,20;v0,10;").enough(), 0);
    }

    private static void leave() {
        due("none when it is enough", laid("d0,0,9;v0,5;t11;").leave(), 0);
        due("the only one", laid("d0,0,9;v0,5;t10;").leave(), 1);
        due("the lowest of sets as few", laid("d0,0,9;v0,3;v0,3;v0,3;t14;").leave(), 1);
        due("one slow one rather than two", laid("d0,0,9;v0,1;v0,1;v0,20;t10;").leave(), 4);
        due("one who does not go need not stay", laid("y2;d0,2,0;d0,2,0;d0,2,0;v2,9;v0,20;t9;").leave(), 2);
        due("all of six", laid("d0,0,9;" + "v0,20;".repeat(6) + "t1;").leave(), 63);
        due("nobody goes", laid("d0,0,9;t1;").leave(), 0);
    }

    private static void seen() {
        GravesExchanged x = new GravesExchanged();
        int[][] bad = {{-1, 0}, {7, 0}, {0, -1}, {0, 4}, {HIGH, LOW}};
        for (int n = 1; n <= 8; n++) {
            due("seen", x.seen(0, 0), n);
            due("count(5)", x.count(5), n);
        }
        due("one too many", x.seen(0, 0), FULL);
        for (int[] b : bad) {
            due("seen " + b[0] + ", " + b[1], x.seen(b[0], b[1]), BAD);
        }
        due("seen is nothing to undo", x.undo(), NO);
    }

    private static void forget() {
        GravesExchanged x = new GravesExchanged();
        due("forget nothing", x.forget(), 0);
        x.seen(3, 0);
        x.seen(3, 0);
        due("forget", x.forget(), 2);
        due("forget again", x.forget(), 0);
        due("nothing is seen", x.was(0), 1023);
        due("seen anew", x.seen(3, 0), 1);
    }

    private static void was() {
        GravesExchanged x = laid("y8;d0,0,0;d0,0,9;");
        due("nothing seen", x.was(0), 1023);
        x.seen(1, 1);
        due("he was put off by 8 or 9", x.was(0), 1 << 8 | 1 << 9);
        due("or wanted that plot himself", x.was(1), 1 << 7);
        x.seen(0, 0);
        due("both are so by 8 and 9", x.was(0), 1 << 8 | 1 << 9);
        due("and by none", x.was(1), 0);
        due("was(2)", x.was(2), BAD);
        due("was(-1)", x.was(-1), BAD);
        due("nobody was altered", x.dead(0, 2), 0);
        x = laid("y8;d0,0,0;");
        x.bury(0, 2, 0);
        x.seen(1, 0);
        due("a child lies so by any", x.was(0), 255);
        x.undo();
        due("one who is gone lies nowhere", x.was(0), 0);
        x.bury(0, 2, 5);
        due("another one in his stead", x.was(0), 255);
    }

    private static void owed() {
        GravesExchanged x = new GravesExchanged();
        due("owed(0)", x.owed(0), 1);
        due("owed(1)", x.owed(1), 0);
        x.bury(0, 0, 0);
        due("owed(0)", x.owed(0), 2);
        x.bury(1, 0, 0);
        x.bury(1, 0, 0);
        due("owed(1)", x.owed(1), 1);
        due("owed(2)", x.owed(2), BAD);
        due("owed(-1)", x.owed(-1), BAD);
    }

    private static void balance() {
        GravesExchanged x = new GravesExchanged();
        due("balance without who is owed", x.balance(), 210);
        x.forgive(6, 9);
        due("balance: he is owed still", x.balance(), 210);
        x.forgive(0, 0);
        due("balance: by what is forgiven now", x.balance(), 203);
        due("below 200", laid("d1,3,9;").balance(), 191);
    }

    private static void names() {
        GravesExchanged x = new GravesExchanged();
        int[] want = {63, 61, 60, 44, 40, 8, 0, 0};
        for (int w = 0; w < want.length; w++) {
            due("names(" + w + ")", x.names(w), want[w]);
        }
        due("names(20)", x.names(20), 0);
        due("names(21)", x.names(21), BAD);
        due("names(-1)", x.names(-1), BAD);
        x = laid("d0,0,0;d0,0,0;d0,0,0;d1,0,0;");
        int[] left = {15, 7, 6, 4, 0};
        for (int w = 0; w < left.length; w++) {
            due("names(" + w + ") of one and three", x.names(w), left[w]);
        }
        x = laid("d1,3,0;d1,0,0;");
        due("a double has no name", x.names(2), 0);
    }

    private static void next() {
        GravesExchanged x = new GravesExchanged();
        due("next, a free one", x.next(1, 0, 9), 3);
        due("next, owed", x.next(0, 2, 9), NONE);
        int[][] bad = {{-1, 0, 0}, {2, 0, 0}, {0, -1, 0}, {0, 4, 0}, {0, 0, -1}, {0, 0, 10}};
        for (int[] b : bad) {
            due("next " + b[0] + ", " + b[1] + ", " + b[2], x.next(b[0], b[1], b[2]), BAD);
        }
        due("nobody is buried", x.count(0), 7);
        x = laid("y8;d0,0,5;");
        due("next, plain", x.next(0, 0, 5), 4);
        due("next, bitter", x.next(0, 1, 5), 2);
        due("next, a child", x.next(0, 2, 5), 0);
        due("next, drowned", x.next(0, 3, 5), 4);
        due("next to twelve", laid("d0,0,0;".repeat(12)).next(1, 0, 0), 5);
    }

    private static void year() {
        GravesExchanged x = new GravesExchanged();
        int[][] bad = {{-1, 1, 0}, {10000, 1, 0}, {0, 0, 0}, {0, 31, 0}, {0, 1, 2}, {0, 1, -1}, {HIGH, LOW, HIGH}};
        for (int[] b : bad) {
            due("year " + b[0] + ", " + b[1] + ", " + b[2], x.year(b[0], b[1], b[2]), BAD);
        }
        // Winter 0 of year 0: x 1, draw 0: a plain one of village 0, forgiven 0, is owed; no change.
        due("year(0, 1, 0)", x.year(0, 1, 0), 2);
        due("year(0, 1, 1)", x.year(0, 1, 1), 0);
        // Winter 1: x 6152, draw 20743: a drowned one of village 1, forgiven 2, lies in plot 3; no change.
        due("year(0, 2, 0)", x.year(0, 2, 0), 2);
        due("year(0, 2, 1)", x.year(0, 2, 1), 0);
        // Winter 2: x 12303, draw 5149: a child of village 1 is owed; plots 1 and 0 of yard 0 change.
        due("year(0, 3, 0)", x.year(0, 3, 0), 3);
        due("year(0, 3, 1)", x.year(0, 3, 1), 2);
        due("nobody is buried", x.count(0), 7);
        due("nobody is moved", x.moved(), 0);
        due("nothing to undo", x.count(6), 0);
        if (x.year(9999, 30, 0) < 1 || x.year(9999, 30, 1) < 0) {
            due("the last year", x.year(9999, 30, 0), 1);
        }
    }

    private static void keep() {
        GravesExchanged x = new GravesExchanged();
        due("keep", x.keep(), 1);
        due("keep", x.keep(), 2);
        due("keep", x.keep(), FULL);
        due("count(7)", x.count(7), 2);
        x.forgive(0, 1);
        due("keeping is nothing to undo", x.undo(), 0);
        x.change(1, 0, 1);
        x.back();
        x.change(1, 0, 1);
        due("keep what is there now", x.keep(), 2);
        x.change(1, 2, 3);
        x.back();
        plotsDue(x, "as kept", 1, 3, 0, 2, 24);
    }

    private static void back() {
        GravesExchanged x = new GravesExchanged();
        due("back to nothing", x.back(), NO);
        x.keep();
        x.bury(1, 0, 0);
        x.forgive(0, 1);
        x.visit(0, 9);
        x.change(1, 0, 1);
        x.keep();
        x.bury(1, 0, 0);
        x.seen(8, 0);
        due("back", x.back(), 1);
        countsDue(x, "as kept last", 8, 5, 4, 40, 1, 1, 0, 1, 0);
        due("nothing is undone then", x.undo(), NO);
        due("forgiven", x.dead(0, 2), 1);
        plotsDue(x, "as kept last", 1, 3, 0, 2, 24);
        due("back", x.back(), 0);
        countsDue(x, "as kept first", 7, 4, 4, 40, 1, 1, 0, 0, 0);
        due("forgiven", x.dead(0, 2), 7);
        plotsDue(x, "as kept first", 1, 0, 3, 2, 24);
        due("back", x.back(), NO);
    }

    private static void count() {
        GravesExchanged x = laid("y3;d0,3,0;d1,3,0;d0,3,0;v0,1;t77;");
        x.seen(0, 0);
        x.forgive(0, 1);
        x.keep();
        x.forgive(0, 2);
        countsDue(x, "of all", 3, 1, 3, 77, 3, 1, 2, 1, 33);
        due("count(9)", x.count(9), BAD);
        due("count(-1)", x.count(-1), BAD);
        due("count(highest)", x.count(HIGH), BAD);
    }

    private static void constants() {
        due("BAD", GravesExchanged.BAD, -1);
        due("NO", GravesExchanged.NO, -2);
        due("FULL", GravesExchanged.FULL, -3);
        due("NONE", GravesExchanged.NONE, -4);
    }
}
