import java.io.IOException;
import java.nio.file.Files;
import java.nio.file.Path;
import java.util.ArrayList;
import java.util.Arrays;
import java.util.Collections;
import java.util.HashMap;
import java.util.List;
import java.util.Map;
import java.util.Set;
import java.util.TreeSet;

/**
 * Every sentence of DOC.md that names a boundary, with both sides of it. A case is a run of calls on a new
 * object, written as words ("bury 0 0 9 | dead 7 3"), and the answer that is due to the last one. Of a call
 * that is refused, and of one that only asks, all that can be asked afterwards is held against the same run
 * without that call. Runs in the project's folder.
 */
public final class BoundaryTests {
    private static final int BAD = -1, NO = -2, FULL = -3, NONE = -4;
    private static final int LOW = Integer.MIN_VALUE, HIGH = Integer.MAX_VALUE;
    private static final Path DOCUMENT = Path.of("../shared/DOC.md");
    private static final String FIRST =
        "y4;d0,0,7;d1,0,3;d0,1,2;d0,0,9;d1,3,5;d1,2,0;d0,0,6;v0,4;v1,3;v3,6;v5,2;t40;";
    // A text, SEEN, KEPT and UNDONE all hold something, so that a call that spoils one of them is found out.
    // Then there are 8 dead, 5 visitors, 4 plots, 2 seen, 4 that can be undone, 2 kept, 15 letters.
    private static final String BUSY = "text y3;d0,0,5;v0,2; | seen 0 0 | keep | forgive 0 3 | change 0 0 3 | keep"
        + " | bury 1 0 4 | visit 2 7 | seen 5 0";
    // Children lie in plots 0 to 5 of both yards, those of village 0 (0 to 5) in yard 1.
    private static final String TWELVE = "y8;" + "d0,2,0;".repeat(6) + "d1,2,0;".repeat(6);
    private static final String TWO_HUNDRED =
        "y8;" + "d0,0,0;".repeat(12) + "v00,01;".repeat(6) + "t60;".repeat(17) + "t9;";

    private static final Map<String, List<String>> known = new HashMap<>();
    private static final Map<Integer, Set<Integer>> answersByPromise = new HashMap<>();
    private static final Set<String> sentences = new TreeSet<>();
    private static int promise;
    private static String sentence;
    private static String ahead;
    private static int checks = 0;
    private static int wrong = 0;

    private BoundaryTests() {
    }

    public static void main(String[] args) throws IOException {
        villages();
        acts();
        byRight();
        overTheBridge();
        whatWasSeen();
        whatIsOwed();
        kept();
        suchAsThereAre();
        allCalls();
        document();
        System.out.println(sentences.size() + " sentences, " + checks + " checks, " + wrong + " wrong");
        if (wrong != 0) {
            System.exit(1);
        }
    }

    // ---- how a case is told

    /** The cases that follow stand for this sentence of the document, and go on from a new object. */
    private static void says(int ofPromise, String words) {
        promise = ofPromise;
        sentence = words;
        sentences.add(words);
        ahead("");
    }

    /** The run that the cases that follow go on from, each on an object of its own. */
    private static void ahead(String... runs) {
        ahead = join(runs);
    }

    private static void due(String run, int want) {
        int got = new Run().make(join(ahead, run));
        answersByPromise.computeIfAbsent(promise, p -> new TreeSet<>()).add(want);
        check(got == want, run + " answered " + named(got) + ", due is " + named(want));
        String last = run.substring(run.lastIndexOf('|') + 1).trim();
        if (Run.onlyAsks(last)) {
            unchanged(run.equals(last) ? "" : run.substring(0, run.lastIndexOf(" | ")), last);
        }
    }

    private static void refused(String call, int want) {
        due(call, want);
        unchanged("", call);
    }

    /** One number of a call (#): the lowest and the highest that are told, and those that are not. */
    private static void edges(String call, int lowest, int highest) {
        for (int told : new int[] {lowest, highest}) {
            String run = call.replace("#", "" + told);
            check(new Run().make(join(ahead, run)) != BAD, run + " answered BAD");
        }
        for (int untold : new int[] {lowest - 1, highest + 1, LOW, HIGH}) {
            refused(call.replace("#", "" + untold), BAD);
        }
    }

    private static void alike(String run, String other) {
        hold(allBehind(run), allBehind(other), run + " and " + other);
    }

    private static void unchanged(String run, String call) {
        hold(allBehind(join(ahead, run, call)), allBehind(join(ahead, run)), "behind " + join(run, call));
    }

    private static void hold(List<String> got, List<String> want, String what) {
        for (int n = 0; n < want.size(); n++) {
            if (!got.get(n).equals(want.get(n))) {
                check(false, what + ": " + got.get(n) + ", without it " + want.get(n));
                return;
            }
        }
        check(true, what);
    }

    private static void check(boolean isSo, String what) {
        checks++;
        if (!isSo) {
            wrong++;
            System.out.println("Promise " + promise + ", \"" + sentence + "\": [" + ahead + "] " + what);
        }
    }

    private static String join(String... runs) {
        List<String> some = new ArrayList<>();
        for (String run : runs) {
            if (!run.isEmpty()) {
                some.add(run);
            }
        }
        return String.join(" | ", some);
    }

    private static String times(int n, String run) {
        return String.join(" | ", Collections.nCopies(n, run));
    }

    private static String laid(String text) {
        return "text " + text + " | lay";
    }

    private static String named(int answer) {
        return switch (answer) {
            case BAD -> "BAD";
            case NO -> "NO";
            case FULL -> "FULL";
            case NONE -> "NONE";
            default -> "" + answer;
        };
    }

    // ---- what can be asked

    private static final List<String> STATE = questions(
        "count 0-8", "dead 0-11 0-4", "plot 0-1 0-7", "visitor 0-5 0-1");
    private static final List<String> ALL = questions(
        "count 0-8", "dead 0-11 0-4", "plot 0-1 0-7", "visitor 0-5 0-1", "right 0-11", "moved", "mend 0-1", "grudge",
        "takes 0-1", "tour -1", "tour 0-5", "enough", "leave", "was 0-11", "owed 0-1", "balance", "names 0-12",
        "next 0-1 0-3 0", "next 0-1 0-3 4", "year 0 3 0-1", "year 9999 9 0-1", "fault");

    private static List<String> questions(String... some) {
        List<String> all = new ArrayList<>(Arrays.asList(some));
        for (int n = 0; n < all.size(); n++) {
            String[] words = all.get(n).split(" ");
            for (int w = words.length - 1; w > 0; w--) {
                int dash = words[w].indexOf('-', 1);
                if (dash > 0) {
                    all.remove(n);
                    all.addAll(n, spread(words, w, dash));
                    n--;
                    break;
                }
            }
        }
        return all;
    }

    private static List<String> spread(String[] words, int w, int dash) {
        int first = Integer.parseInt(words[w].substring(0, dash));
        int last = Integer.parseInt(words[w].substring(dash + 1));
        List<String> some = new ArrayList<>();
        for (int value = first; value <= last; value++) {
            String[] one = words.clone();
            one[w] = "" + value;
            some.add(String.join(" ", one));
        }
        return some;
    }

    /** Every answer behind a run: as it stands, when undone or brought back by steps, when its text is laid. */
    private static List<String> allBehind(String run) {
        List<String> answers = known.get(run);
        if (answers == null) {
            answers = new ArrayList<>();
            ask(answers, run, "", ALL);
            for (int n = 1; n <= 8; n++) {
                ask(answers, run, times(n, "undo"), STATE);
            }
            for (int n = 1; n <= 2; n++) {
                ask(answers, run, times(n, "back"), STATE);
            }
            ask(answers, run, "lay", STATE);
            ask(answers, run, "write 59 | fault | lay", STATE);
            known.put(run, answers);
        }
        return answers;
    }

    private static void ask(List<String> answers, String run, String more, List<String> questions) {
        Run x = new Run();
        x.make(run);
        answers.add(more + ": " + named(x.make(more)));
        for (String question : questions) {
            answers.add(join(more, question) + ": " + named(x.make(question)));
        }
    }

    /** One new object, and the calls that are made on it. */
    private static final class Run {
        private static final int MOST_CALLS = 512;
        private static final Set<String> ASKING = Set.of("fault", "dead", "plot", "visitor", "right", "moved", "mend",
            "grudge", "takes", "tour", "enough", "leave", "was", "owed", "balance", "names", "next", "year", "count");

        private final GravesExchanged x = new GravesExchanged();
        private int calls = 0;

        static boolean onlyAsks(String call) {
            return ASKING.contains(call.split(" ")[0]);
        }

        int make(String run) {
            int last = 0;
            for (String call : run.split(" \\| ")) {
                if (call.startsWith("text ")) {
                    for (char letter : call.substring(5).toCharArray()) {
                        last = makeOne("write", new int[] {letter});
                    }
                } else if (!call.isEmpty()) {
                    String[] words = call.split(" ");
                    int[] numbers = new int[words.length - 1];
                    for (int n = 0; n < numbers.length; n++) {
                        numbers[n] = Integer.parseInt(words[n + 1]);
                    }
                    last = makeOne(words[0], numbers);
                }
            }
            return last;
        }

        private int makeOne(String name, int[] n) {
            calls++;
            if (calls > MOST_CALLS) {
                throw new IllegalStateException("behind 512 calls every answer is free: this test asks too much");
            }
            return switch (name) {
                case "write" -> x.write(n[0]);
                case "wipe" -> x.wipe();
                case "fault" -> x.fault();
                case "lay" -> x.lay();
                case "dead" -> x.dead(n[0], n[1]);
                case "plot" -> x.plot(n[0], n[1]);
                case "visitor" -> x.visitor(n[0], n[1]);
                case "bury" -> x.bury(n[0], n[1], n[2]);
                case "change" -> x.change(n[0], n[1], n[2]);
                case "forgive" -> x.forgive(n[0], n[1]);
                case "visit" -> x.visit(n[0], n[1]);
                case "undo" -> x.undo();
                case "right" -> x.right(n[0]);
                case "moved" -> x.moved();
                case "mend" -> x.mend(n[0]);
                case "grudge" -> x.grudge();
                case "takes" -> x.takes(n[0]);
                case "tour" -> x.tour(n[0]);
                case "enough" -> x.enough();
                case "leave" -> x.leave();
                case "seen" -> x.seen(n[0], n[1]);
                case "forget" -> x.forget();
                case "was" -> x.was(n[0]);
                case "owed" -> x.owed(n[0]);
                case "balance" -> x.balance();
                case "names" -> x.names(n[0]);
                case "next" -> x.next(n[0], n[1], n[2]);
                case "year" -> x.year(n[0], n[1], n[2]);
                case "keep" -> x.keep();
                case "back" -> x.back();
                case "count" -> x.count(n[0]);
                default -> throw new IllegalStateException("no such call: " + name);
            };
        }
    }

    // ---- villages: promises 1 to 8

    private static void villages() {
        newObject();
        write();
        wipe();
        formOfItems();
        figures();
        yards();
        deadOfAText();
        visitorsOfAText();
        truce();
        fault();
        lay();
        dead();
        plot();
        visitor();
    }

    private static void newObject() {
        says(1, "at first " + FIRST + ")");
        alike("", laid(FIRST) + " | wipe");
        due("count 0", 7);
        says(1, "nothing SEEN, UNDONE, KEPT.");
        for (int what = 5; what <= 8; what++) {
            due("count " + what, 0);
        }
        refused("undo", NO);
        refused("back", NO);
        refused("lay", NO);
        due("fault", NONE);
    }

    private static void write() {
        says(2, "A letter (32 to 126, as in ASCII) comes behind THE TEXT");
        ahead(BUSY);
        edges("write #", 32, 126);
        due("write 32", 16);
        due("write 126", 16);
        // Each of these would be a letter if it were cut to a byte or to a char.
        for (int letter : new int[] {'y' + 128, 'y' + 256, 'y' + 65536, 'y' - 256, 'y' - 65536}) {
            refused("write " + letter, BAD);
        }

        says(2, "how long it is. BAD; FULL.");
        due("write 121", 1);
        ahead("text y");
        due("write 52", 2);

        says(2, "A TEXT is letters (200 at most)");
        ahead(BUSY, "wipe", "text " + "y".repeat(198));
        due("write 121", 199);
        due("text yy", 200);
        due("text yy | count 8", 200);
        ahead(BUSY, "wipe", "text " + "y".repeat(200));
        refused("write 32", FULL);
        refused("write 121", FULL);
        refused("write 126", FULL);
        ahead("text " + TWO_HUNDRED.substring(0, 199));
        due("fault", 197);
        refused("lay", NO);
        due("write 59 | fault", NONE);
        due("write 59 | lay", 12);
        ahead("text " + TWO_HUNDRED.substring(0, 198) + "99");
        refused("write 59", FULL);
        due("fault", 197);

        says(2, "Of several the first; nothing changes then.");
        ahead(BUSY, "wipe", "text " + "y".repeat(200));
        refused("write 31", BAD);
        refused("write 127", BAD);
    }

    private static void wipe() {
        says(3, "THE TEXT is empty: how long it was.");
        due("wipe", 0);
        due("text y | wipe", 1);
        due("text y | wipe | wipe", 0);
        ahead("text " + TWO_HUNDRED);
        due("wipe", 200);
        due("wipe | count 8", 0);
        due("wipe | fault", NONE);
        due("wipe | write 121", 1);
        due("wipe | lay", NO);
        alike(join(BUSY, "wipe"), BUSY.substring(BUSY.indexOf("seen")));
    }

    /** The text has no fault, and is laid if one of the dead is told in it. */
    private static void told(String text) {
        ahead(BUSY, "wipe", text.isEmpty() ? "" : "text " + text);
        due("fault", NONE);
        int dead = text.length() - text.replace("d", "").length();
        if (dead > 0) {
            due("lay", dead);
        } else {
            refused("lay", NO);
        }
    }

    private static void untold(String text, int place) {
        ahead(BUSY, "wipe", "text " + text);
        due("fault", place);
        refused("lay", NO);
    }

    private static void formOfItems() {
        says(4, "ITEMS one behind the other, each a letter, then numbers");
        told("");
        told("y4;");
        told("y4;d0,0,0;v0,1;t5;");
        untold(" ", 0);
        untold(" y4;", 0);
        untold("y4; d0,0,0;", 3);
        untold("y4;d0,0,0; ", 10);
        untold("y4;;", 3);
        untold(";", 0);
        untold("4;", 0);
        untold("0,0,0;", 0);
        untold("yy4;", 0);
        untold("y4;,", 3);
        for (char letter : "ceuwsxzYDVT".toCharArray()) {
            untold("d0,0,0;" + letter + "1;", 7);
            untold("d0,0,0;" + letter + "0,1;", 7);
            untold("d0,0,0;" + letter + "0,1,1;", 7);
        }

        says(4, "parted by ,");
        told("d0,0,0;");
        told("d0,0,0;v0,1;");
        String misparted = "d0,0; d0; d0,0,0,0; d,0,0,0; d0,,0,0; d0,0,0,; d0;0;0; d0.0,0; d0,0.0; d0-0,0; d000;";
        for (String text : misparted.split(" ")) {
            untold(text, 0);
        }
        for (String text : "v0; v0,1,1; v,0,1; v0,,1; v0,1,; v0;1; v0.1; v01;".split(" ")) {
            untold("d0,0,0;" + text, 7);
        }
        untold("y4,4;", 0);
        untold("y,4;", 0);
        untold("y4,;", 0);
        untold("t5,5;", 0);
        untold("t,5;", 0);

        says(4, "and a ; behind the last one");
        told("y4;");
        untold("y4", 0);
        untold("y4,", 0);
        untold("y4:", 0);
        told("d0,0,0;");
        untold("d0,0,0", 0);
        untold("d0,0,0:", 0);
        untold("d0,0,0d0,0,0;", 0);
        told("d0,0,0;v0,1;");
        untold("d0,0,0;v0,1", 7);
        told("d0,0,0;t5;");
        untold("d0,0,0;t5", 7);
        untold("d0,0,0;t", 7);
        untold("d0,0,0;d", 7);
        untold("d0,0,0;v", 7);
        untold("y", 0);
    }

    private static void figures() {
        says(4, "(one or two figures)");
        // Each # stands for one number that is right by itself as 1, 01.
        for (String text : "d#,0,0; d0,#,0; d0,0,#; t#;".split(" ")) {
            told(text.replace("#", "1"));
            told(text.replace("#", "01"));
            untold(text.replace("#", ""), 0);
            untold(text.replace("#", "001"), 0);
            untold(text.replace("#", "/"), 0);
            untold(text.replace("#", ":"), 0);
            untold(text.replace("#", "1/"), 0);
            untold(text.replace("#", "1:"), 0);
            untold(text.replace("#", "-1"), 0);
            untold(text.replace("#", "+1"), 0);
            untold(text.replace("#", " 1"), 0);
            untold(text.replace("#", "1 "), 0);
        }
        for (String text : "v#,1; v1,#;".split(" ")) {
            String two = "d0,0,0;d0,0,0;";
            told(two + text.replace("#", "1"));
            told(two + text.replace("#", "01"));
            untold(two + text.replace("#", ""), 14);
            untold(two + text.replace("#", "001"), 14);
            untold(two + text.replace("#", "/"), 14);
            untold(two + text.replace("#", ":"), 14);
        }
        told("y2;");
        told("y02;");
        untold("y;", 0);
        untold("y002;", 0);
        told("d0,0,0;d0,0,0;d0,0,0;d0,0,0;d0,0,0;d0,0,0;d0,0,0;d0,0,0;d0,0,0;d0,0,0;d0,0,0;v10,1;");
        told("t99;");
        untold("t100;", 0);
    }

    private static void yards() {
        says(4, "yN each YARD (0, 1) has N (2 to 8) PLOTS");
        untold("y0;", 0);
        untold("y1;", 0);
        untold("y00;", 0);
        untold("y01;", 0);
        for (int plots = 2; plots <= 8; plots++) {
            told("y" + plots + ";");
            told("y0" + plots + ";d0,0,0;");
            ahead(laid("y" + plots + ";d0,0,0;d1,0,0;"));
            due("count 2", plots);
            due("plot 0 " + (plots - 1), 1);
            due("plot 1 " + (plots - 1), 0);
            refused("plot 0 " + plots, BAD);
            refused("plot 1 " + plots, BAD);
        }
        untold("y9;", 0);
        untold("y09;", 0);
        untold("y10;", 0);
        untold("y12;", 0);
        untold("y99;", 0);

        says(4, "0 the best, the last one by the midden");
        for (int plots = 2; plots <= 8; plots++) {
            ahead(laid("y" + plots + ";d0,0,9;d0,0,0;"));
            due("dead 0 3", 0);
            due("dead 1 3", plots - 1);
        }

        says(4, "(6 without; no other ITEM ahead of it but y)");
        ahead(laid("d0,0,0;d1,0,0;"));
        due("count 2", 6);
        due("plot 0 5", 1);
        due("plot 1 5", 0);
        refused("plot 0 6", BAD);
        refused("plot 1 6", BAD);
        told("y3;y4;");
        told("y3;y4;y5;d0,0,0;");
        due("lay | count 2", 5);
        told("y8;y2;d0,0,0;");
        due("lay | count 2", 2);
        untold("d0,0,0;y4;", 7);
        untold("t5;y4;", 3);
        untold("y3;t5;y4;", 6);
        untold("d0,0,0;v0,1;y4;", 12);
        untold("y3;d0,0,0;y3;", 10);
    }

    private static void deadOfAText() {
        says(4, "dV,K,F one of the DEAD, of village V (0, 1)");
        told("d0,0,0;");
        told("d1,0,0;");
        for (int village : new int[] {2, 3, 9, 10, 11, 99}) {
            untold("d" + village + ",0,0;", 0);
        }
        ahead(laid("d0,0,0;d1,0,0;"));
        due("dead 0 0", 0);
        due("dead 1 0", 1);

        says(4, "of KIND K (0 PLAIN, 1 BITTER, 2 CHILD, 3 DROWNED)");
        for (int kind = 0; kind <= 3; kind++) {
            told("d0," + kind + ",0;");
            due("lay | dead 0 1", kind);
        }
        for (int kind : new int[] {4, 5, 9, 10, 13, 99}) {
            untold("d0," + kind + ",0;", 0);
        }

        says(4, "who was FORGIVEN F (0 to 9)");
        for (int f = 0; f <= 9; f++) {
            told("d0,0," + f + ";");
            due("lay | dead 0 2", f);
        }
        told("d0,0,09;");
        due("lay | dead 0 2", 9);
        for (int f : new int[] {10, 11, 19, 90, 99}) {
            untold("d0,0," + f + ";", 0);
        }

        says(4, "12 at most, 0, 1, .., buried in this order");
        told("d0,0,0;".repeat(11));
        told("d0,0,0;".repeat(12));
        untold("d0,0,0;".repeat(13), 84);
        untold("d0,0,0;".repeat(12) + "t5;d0,0,0;t5;", 87);
        untold("y8;" + "d1,3,9;".repeat(13), 87);
        ahead(laid("d0,0,9;".repeat(11) + "d1,1,8;"));
        due("dead 11 0", 1);
        due("dead 11 1", 1);
        due("dead 11 2", 8);
        refused("dead 12 0", BAD);
        ahead(laid("y2;d0,0,9;d0,0,9;d0,0,9;"));
        due("dead 0 3", 0);
        due("dead 1 3", 1);
        due("dead 2 3", NONE);
    }

    private static void visitorsOfAText() {
        says(4, "vD,C a VISITOR of one of the DEAD D (told ahead)");
        untold("v0,1;", 0);
        untold("v0,1;d0,0,0;", 0);
        told("d0,0,0;v0,1;");
        untold("d0,0,0;v1,1;", 7);
        untold("d0,0,0;v1,1;d0,0,0;", 7);
        told("d0,0,0;d0,0,0;v1,1;");
        told("d0,0,0;v0,1;d0,0,0;v1,1;");
        untold("d0,0,0;d0,0,0;v2,1;", 14);
        told("d0,0,0;".repeat(12) + "v11,1;");
        untold("d0,0,0;".repeat(12) + "v12,1;", 84);
        untold("d0,0,0;".repeat(12) + "v99,1;", 84);
        told("y2;d0,0,0;d0,0,0;d0,0,0;v2,1;");

        says(4, "who takes C (1 to 20) minutes over the BRIDGE; 6 at most");
        untold("d0,0,0;v0,0;", 7);
        untold("d0,0,0;v0,00;", 7);
        told("d0,0,0;v0,1;");
        due("lay | visitor 0 1", 1);
        told("d0,0,0;v0,01;");
        due("lay | visitor 0 1", 1);
        told("d0,0,0;v0,20;");
        due("lay | visitor 0 1", 20);
        untold("d0,0,0;v0,21;", 7);
        untold("d0,0,0;v0,99;", 7);
        told("d0,0,0;" + "v0,1;".repeat(5));
        told("d0,0,0;" + "v0,1;".repeat(6));
        due("lay | count 1", 6);
        untold("d0,0,0;" + "v0,1;".repeat(7), 37);
        untold("d0,0,0;" + "v0,1;".repeat(6) + "d0,0,0;v1,1;", 44);
        ahead(laid("d0,0,0;d0,0,0;" + "v0,1;".repeat(5) + "v1,9;"));
        due("visitor 5 0", 1);
        due("visitor 5 1", 9);
        refused("visitor 6 0", BAD);
    }

    private static void truce() {
        says(4, "tT the TRUCE is T (1 to 99) minutes");
        untold("t0;", 0);
        untold("t00;", 0);
        untold("d0,0,0;t0;", 7);
        for (String truce : "1 01 9 10 98 99".split(" ")) {
            told("d0,0,0;t" + truce + ";");
            due("lay | count 3", Integer.parseInt(truce));
        }
        untold("t100;", 0);
        untold("t099;", 0);

        says(4, "(60 without; the last one)");
        told("d0,0,0;");
        due("lay | count 3", 60);
        told("t1;d0,0,0;");
        due("lay | count 3", 1);
        told("t5;d0,0,0;t7;");
        due("lay | count 3", 7);
        told("d0,0,0;t99;t1;");
        due("lay | count 3", 1);
        told("d0,0,0;t1;v0,1;t99;d0,0,0;");
        due("lay | count 3", 99);
        untold("d0,0,0;t5;t0;", 10);
    }

    private static void fault() {
        says(4, "FAULT: the place of the first letter of the first ITEM that is not so.");
        untold("x", 0);
        untold("y4;y9;y1;", 3);
        untold("y9;y4;", 0);
        untold("d0,0,0;d0,0,0;d2,0,0;d0,4,0;", 14);
        untold("d0,0,0;v9,1;v0,99;t0;", 7);
        untold("d00,00,00;d00,00,10;", 10);
        String most = TWO_HUNDRED.substring(0, 193) + "t9;t9;";
        ahead("text " + most);
        due("fault", NONE);
        due("write 121 | fault", 199);
        due("write 59 | fault", 199);
        ahead("text " + most + "t");
        refused("lay", NO);

        says(4, "FAULT. NONE.");
        due("fault", NONE);
        due("write 121 | fault", 0);
        due("text y4; | fault", NONE);
        due("text " + TWO_HUNDRED + " | fault", NONE);
    }

    private static void lay() {
        says(5, "LAID is a TEXT without FAULT, of one of the DEAD at least (NO else;");
        ahead(BUSY, "wipe");
        refused("lay", NO);
        ahead(BUSY, "wipe", "text y4;");
        refused("lay", NO);
        ahead(BUSY, "wipe", "text y4;t5;");
        refused("lay", NO);
        due("wipe | text y4;d0,0,0;t5; | lay", 1);
        due("wipe | text d0,0,0; | lay", 1);
        ahead(BUSY, "wipe", "text d0,0,0;x");
        refused("lay", NO);
        ahead(BUSY, "wipe", "text d2,0,0;");
        refused("lay", NO);

        says(5, "LAID: how many of the DEAD, all BURIED");
        due(laid("d0,0,0;".repeat(12)), 12);
        ahead(laid("y2;" + "d0,0,0;".repeat(12)));
        due("count 0", 12);
        due("owed 0", 10);
        due("lay", 12);
        due("count 8", 87);

        says(5, "nothing SEEN, UNDONE, KEPT. NO.");
        ahead("text d0,0,0;", times(2, "keep"), times(8, "seen 0 0"), times(9, "forgive 0 1"));
        due("count 5", 8);
        due("count 6", 8);
        due("count 7", 2);
        due("lay | count 5", 0);
        due("lay | count 6", 0);
        due("lay | count 7", 0);
        due("lay | undo", NO);
        due("lay | back", NO);
        due("lay | forget", 0);
        due("lay | was 0", 1023);
        due("lay | seen 0 0", 1);
        due("lay | keep", 1);
        ahead("text d0,0,0;x", times(2, "keep"), times(8, "seen 0 0"), times(9, "forgive 0 1"));
        refused("lay", NO);
    }

    private static void dead() {
        says(6, "Of one of the DEAD: village (what = 0), KIND (1), F (2), his PLOT (3; NONE: OWED)");
        ahead(BUSY);
        for (int what = 0; what <= 4; what++) {
            edges("dead # " + what, 0, 7);
        }
        for (int i = 0; i <= 7; i++) {
            edges("dead " + i + " #", 0, 4);
        }
        refused("dead 8 5", BAD);
        ahead(laid("d0,0,0;"));
        edges("dead # 0", 0, 0);
        ahead(laid(TWELVE));
        edges("dead # 0", 0, 11);
        ahead("");
        due("dead 5 3", 0);
        due("dead 6 3", NONE);
        due("dead 6 2", 6);

        says(6, "that of his DOUBLE (4; NONE: there is none). BAD.");
        due("dead 4 4", 3);
        due("dead 3 4", NONE);
        due("dead 6 4", NONE);

        says(6, "BAD: a number is none that is told (DEAD, PLOTS, YARDS, VISITORS: such as there are).");
        refused("dead 7 0", BAD);
        due("bury 1 2 3 | dead 7 2", 3);
        ahead("bury 1 2 3 | undo");
        refused("dead 7 2", BAD);
        ahead("keep | bury 1 2 3 | back");
        refused("dead 7 2", BAD);
        ahead(laid("d0,0,0;"));
        refused("dead 1 2", BAD);
    }

    private static void plot() {
        says(7, "Who lies in a PLOT of a YARD (a DOUBLE: his number and 20). NONE; BAD.");
        ahead(BUSY);
        edges("plot # 0", 0, 1);
        edges("plot # 3", 0, 1);
        edges("plot 0 #", 0, 3);
        edges("plot 1 #", 0, 3);
        refused("plot 2 4", BAD);
        ahead("");
        due("plot 0 3", NONE);
        due("plot 0 0", 5);
        due("plot 1 0", 0);
        due("plot 1 3", 24);
        due(laid("y2;d0,3,9;") + " | plot 0 0", 20);
        due(laid("y8;" + "d0,2,0;".repeat(6) + "d1,2,0;".repeat(5) + "d0,3,0;") + " | plot 0 7", 31);
        due(laid("y8;" + "d0,2,0;".repeat(6) + "d1,2,0;".repeat(5) + "d0,3,0;") + " | plot 1 7", 11);
        ahead(laid("y2;d0,0,0;"));
        edges("plot 1 #", 0, 1);
        ahead(laid("y8;d0,0,0;"));
        edges("plot 1 #", 0, 7);
    }

    private static void visitor() {
        says(8, "Of a VISITOR: whom he visits (what = 0), C (1). BAD.");
        ahead(BUSY);
        edges("visitor # 0", 0, 4);
        edges("visitor # 1", 0, 4);
        edges("visitor 0 #", 0, 1);
        edges("visitor 4 #", 0, 1);
        refused("visitor 5 2", BAD);
        due("visitor 4 0", 2);
        due("visitor 4 1", 7);

        says(8, "(DEAD, PLOTS, YARDS, VISITORS: such as there are)");
        ahead(laid("d0,0,0;"));
        refused("visitor 0 0", BAD);
        due("visit 0 20 | visitor 0 1", 20);
        due("visit 0 20 | undo | visitor 0 1", BAD);
        due("keep | visit 0 20 | back | visitor 0 1", BAD);
        ahead(laid("d0,0,0;" + "v0,1;".repeat(6)));
        edges("visitor # 0", 0, 5);
    }

    // ---- acts: promises 9 to 13

    private static void acts() {
        buryWanted();
        buryPlain();
        buryOthers();
        buryRefused();
        change();
        forgive();
        visit();
        undo();
        undoKinds();
    }

    private static void buryWanted() {
        says(9, "a PLAIN one WANTS PLOT ((9 less F) times N by 10, cut)");
        // By N, from 2 on: what one forgiven 0, 1, .. 9 wants.
        String[] wants = {"1111100000", "2221110000", "3322211000", "4433221100", "5443321100", "6544322100",
            "7654432100"};
        for (int plots = 2; plots <= 8; plots++) {
            ahead(laid("y" + plots + ";d1,2,0;"));
            for (int f = 0; f <= 9; f++) {
                int want = wants[plots - 2].charAt(f) - '0';
                due("bury 0 0 " + f, want);
                due("bury 0 1 " + f, want);
                due("bury 0 2 " + f, 0);
                due("bury 0 3 " + f, want);
            }
        }
    }

    private static void buryPlain() {
        says(9, "or if that is not free the first free one behind it, the first PLOT coming behind the last one");
        for (int plots = 2; plots <= 8; plots++) {
            ahead(laid("y" + plots + ";d0,0,0;"));
            due("dead 0 3", plots - 1);
            for (int n = 1; n < plots; n++) {
                due(times(n, "bury 0 0 0"), n - 1);
            }
            due(times(plots, "bury 0 0 0"), NONE);
        }
        // 5 is wanted by one forgiven 2; 5 and 6 are not free, then 7, too.
        ahead(laid("y8;d0,0,2;d0,0,1;"));
        due("bury 0 0 2", 7);
        due("bury 0 0 2 | bury 0 0 2", 0);
        // A plot that was left free by night, ahead of the wanted one, comes last.
        ahead(laid("y3;d0,0,0;d0,0,9;"));
        due("change 1 0 1 | bury 0 0 0", 0);
        due("bury 0 0 0", 1);

        says(9, "The DEAD of village V lie in the YARD of the other one (1 less V).");
        ahead(laid("y2;d0,0,9;d1,0,0;"));
        due("plot 1 0", 0);
        due("plot 0 1", 1);
        due("bury 0 0 9 | plot 1 1", 2);
        due("bury 1 0 9 | plot 0 0", 2);
    }

    private static void buryOthers() {
        says(9, "a BITTER one WANTS the same, going the other way");
        for (int plots = 2; plots <= 8; plots++) {
            ahead(laid("y" + plots + ";d0,1,9;"));
            due("dead 0 3", 0);
            for (int n = 1; n < plots; n++) {
                due(times(n, "bury 0 1 9"), plots - n);
            }
            due(times(plots, "bury 0 1 9"), NONE);
        }
        ahead(laid("y8;d0,0,2;d0,0,3;"));
        due("bury 0 1 2", 3);

        says(9, "a CHILD the first free one from PLOT 0 on");
        ahead(laid("y3;d0,2,0;"));
        due("dead 0 3", 0);
        due("bury 0 2 0", 1);
        due("bury 0 2 0 | bury 0 2 9", 2);
        due("bury 0 2 0 | bury 0 2 9 | bury 0 2 9", NONE);
        due("change 1 0 1 | bury 0 2 0", 0);
        due("bury 0 2 0 | change 1 1 2 | bury 0 2 0", 1);

        says(9, "a DROWNED one lies as a PLAIN one does");
        ahead(laid("y3;d0,0,0;"));
        due("bury 0 3 0", 0);
        due("bury 0 3 0 | bury 0 3 0", 1);
        due("bury 0 3 0 | bury 0 3 0 | bury 0 3 0", NONE);

        says(9, "a DOUBLE of his is dug in his own YARD, in the same way (if there is no PLOT, none is)");
        ahead(laid("y2;d1,2,0;"));
        due("bury 0 3 0 | dead 1 3", 1);
        due("bury 0 3 0 | dead 1 4", 1);
        due("bury 0 3 9 | dead 1 4", 1);
        due("bury 0 3 9 | plot 0 1", 21);
        ahead(laid("y2;d1,0,0;"));
        due("bury 0 3 0 | dead 1 4", 0);
        ahead(laid("y2;d1,0,0;d1,0,0;"));
        due("bury 0 3 0", 1);
        due("bury 0 3 0 | dead 2 4", NONE);
        due("bury 0 3 0 | count 4", 0);
        ahead(laid("y8;d0,3,0;"));
        due("bury 0 3 0", 0);
        due("bury 0 3 0 | dead 1 4", 0);

        says(9, "If no PLOT is free he is OWED (lies nowhere, has no DOUBLE).");
        ahead(laid("y2;d0,0,0;"));
        due("bury 0 3 0", 0);
        due("bury 0 3 0 | dead 1 4", 1);
        ahead(laid("y2;d0,0,0;d0,0,0;"));
        for (int kind = 0; kind <= 3; kind++) {
            String owed = "bury 0 " + kind + " 9";
            due(owed, NONE);
            due(owed + " | count 0", 3);
            due(owed + " | owed 0", 1);
            due(owed + " | dead 2 3", NONE);
            due(owed + " | dead 2 4", NONE);
            due(owed + " | count 4", 0);
            due(owed + " | plot 0 0", NONE);
            due(owed + " | plot 0 1", NONE);
        }
    }

    private static void buryRefused() {
        says(9, "One is BURIED: in which PLOT. NONE: OWED; BAD; FULL.");
        ahead(BUSY);
        edges("bury # 0 0", 0, 1);
        edges("bury # 3 9", 0, 1);
        edges("bury 0 # 0", 0, 3);
        edges("bury 1 # 9", 0, 3);
        edges("bury 0 0 #", 0, 9);
        edges("bury 1 2 #", 0, 9);

        says(9, "One more of the DEAD can be BURIED (12 at most)");
        ahead(BUSY, times(3, "bury 0 0 0"));
        due("bury 0 0 0", NONE);
        due("bury 0 0 0 | count 0", 12);
        ahead(BUSY, times(4, "bury 0 0 0"));
        refused("bury 0 0 0", FULL);
        refused("bury 1 3 9", FULL);
        ahead(laid("y8;" + "d0,2,0;".repeat(6) + "d1,2,0;".repeat(5)));
        due("bury 1 0 0", 7);
        ahead(laid(TWELVE));
        refused("bury 1 0 0", FULL);
        refused("bury 0 3 9", FULL);
        due("forgive 0 1 | undo | bury 1 0 0", FULL);

        says(9, "Of several the first; nothing changes then.");
        ahead(laid(TWELVE));
        refused("bury 2 0 0", BAD);
        refused("bury 0 4 0", BAD);
        refused("bury 0 0 10", BAD);
    }

    private static void change() {
        says(10, "NONE; BAD (alike, too).");
        ahead(BUSY);
        edges("change # 0 1", 0, 1);
        edges("change 0 # 1", 0, 3);
        edges("change 1 # 1", 0, 3);
        edges("change 0 1 #", 0, 3);
        edges("change 1 1 #", 0, 3);
        for (int p = 0; p <= 3; p++) {
            refused("change 0 " + p + " " + p, BAD);
            refused("change 1 " + p + " " + p, BAD);
        }
        refused("change 0 4 4", BAD);
        refused("change 2 1 1", BAD);
        due("change 1 0 1", 3);
        due("change 1 1 0", 0);

        says(10, "Two PLOTS are CHANGED: who lies in the first one then (as plot()).");
        ahead("");
        due("change 1 0 3", 24);
        due("change 1 3 0", 0);
        due("change 0 0 3", NONE);
        due("change 0 3 0", 5);

        says(10, "two PLOTS of one YARD be CHANGED (whoever lies there; free ones, too)");
        due("change 1 0 3 | plot 1 3", 0);
        due("change 0 0 3 | plot 0 0", NONE);
        due("change 0 0 3 | plot 0 3", 5);
        due("change 0 0 3 | count 6", 1);
        due("change 0 0 3 | plot 1 0", 0);
        ahead(laid("y2;d0,0,0;"));
        due("change 0 0 1", NONE);
        due("change 0 0 1 | count 6", 1);
        edges("change 1 # 1", 0, 0);
        ahead(laid("y8;d0,0,0;"));
        due("change 1 0 7", 0);
        edges("change 1 1 #", 0, 7);
    }

    private static void forgive() {
        says(11, "What one was FORGIVEN is altered: what it was. BAD.");
        ahead(BUSY);
        edges("forgive # 0", 0, 7);
        edges("forgive # 9", 0, 7);
        edges("forgive 0 #", 0, 9);
        edges("forgive 7 #", 0, 9);
        refused("forgive 8 10", BAD);
        ahead("");
        due("forgive 0 0", 7);
        due("forgive 0 0 | forgive 0 9", 0);
        due("forgive 0 9 | dead 0 2", 9);
        due("forgive 3 9", 9);
        due("forgive 3 9 | count 6", 1);
        due("forgive 6 0", 6);

        says(11, "what one was FORGIVEN be altered (nobody is moved)");
        due("forgive 0 0 | dead 0 3", 0);
        due("forgive 0 0 | right 0", 3);
        due("forgive 4 0 | dead 4 4", 3);
        ahead(laid(TWELVE));
        edges("forgive # 5", 0, 11);
    }

    private static void visit() {
        says(12, "A VISITOR comes: how many there are. BAD; FULL.");
        ahead(BUSY);
        edges("visit # 1", 0, 7);
        edges("visit # 20", 0, 7);
        edges("visit 0 #", 1, 20);
        edges("visit 7 #", 1, 20);
        refused("visit 8 0", BAD);

        says(12, "a VISITOR come (6 at most)");
        ahead(BUSY);
        due("visit 0 1", 6);
        ahead(BUSY, "visit 0 1");
        refused("visit 0 1", FULL);
        refused("visit 7 20", FULL);
        due("undo | visit 7 20", 6);
        ahead(laid("d0,0,0;"));
        for (int n = 1; n <= 6; n++) {
            due(times(n, "visit 0 20"), n);
        }
        due(times(7, "visit 0 20"), FULL);
        // Who visits one that is OWED comes all the same, only he does not go.
        ahead("");
        due("visit 6 1", 5);

        says(12, "Of several the first; nothing changes then.");
        ahead(BUSY, "visit 0 1");
        refused("visit -1 1", BAD);
        refused("visit 8 1", BAD);
        refused("visit 0 0", BAD);
        refused("visit 0 21", BAD);
    }

    private static void undo() {
        says(13, "UNDONE: how many more can be. NO.");
        refused("undo", NO);
        ahead("text d0,0,0; | seen 0 0 | keep | forgive 0 1 | keep | undo");
        refused("undo", NO);
        ahead("");
        due("forgive 0 1 | undo", 0);
        due("forgive 0 1 | forgive 0 2 | undo", 1);
        ahead("forgive 0 1 | undo");
        refused("undo", NO);
        alike("forgive 0 1 | undo", "");

        says(13, "UNDONE is the latest of these (the last 8 can be).");
        String acts = "forgive 0 1";
        for (int f = 2; f <= 7; f++) {
            acts = acts + " | forgive 0 " + f;
        }
        ahead(acts);
        due("count 6", 7);
        due(times(7, "undo") + " | dead 0 2", 7);
        due(times(8, "undo"), NO);
        ahead(acts, "forgive 0 8");
        due("count 6", 8);
        for (int n = 1; n <= 8; n++) {
            due(times(n, "undo"), 8 - n);
            due(times(n, "undo") + " | dead 0 2", n == 8 ? 7 : 8 - n);
        }
        due(times(9, "undo"), NO);
        ahead(acts, "forgive 0 8 | forgive 0 9");
        due("count 6", 8);
        for (int n = 1; n <= 8; n++) {
            due(times(n, "undo"), 8 - n);
            due(times(n, "undo") + " | dead 0 2", 9 - n);
        }
        due(times(9, "undo"), NO);
        ahead(acts, "forgive 0 8 | forgive 0 9", times(8, "undo"));
        refused("undo", NO);
        ahead(acts, "forgive 0 8 | undo | forgive 0 0 | forgive 0 9");
        due("count 6", 8);
        due(times(8, "undo") + " | dead 0 2", 1);
    }

    private static void undoKinds() {
        says(13, "UNDONE is the latest of these (the last 8 can be).");
        String[] kinds = {"bury 1 0 9", "bury 1 3 9", "bury 0 3 9", "change 1 0 3", "change 0 0 3", "forgive 0 0",
            "forgive 0 7", "visit 6 1"};
        for (String act : kinds) {
            due(act + " | count 6", 1);
            due(act + " | undo", 0);
            alike(act + " | undo", "");
        }
        alike(laid("y2;d1,0,0;") + " | bury 0 3 0 | undo", laid("y2;d1,0,0;"));
        alike(laid("y2;d0,0,0;") + " | change 0 0 1 | undo", laid("y2;d0,0,0;"));
        // None of the other calls is an act, taken or refused.
        String others = "write 121 | wipe | fault | seen 0 0 | forget | keep | keep | keep | write 31 | lay | bury 2 0 0"
            + " | change 0 1 1 | forgive 7 0 | visit 0 0 | seen 0 4";
        due(others + " | undo", NO);
        due("forgive 0 0 | " + others + " | undo", 0);
        ahead(laid(TWELVE), times(6, "visit 0 1"));
        due("bury 0 0 0 | visit 0 1 | count 6", 6);
    }

    // ---- by right: promises 14 to 17

    private static void byRight() {
        right();
        moved();
        mend();
        mendIsNeverNone();
        grudge();
    }

    private static void right() {
        says(14, "BY RIGHT: the PLOT of one. NONE: OWED; BAD.");
        ahead(BUSY);
        edges("right #", 0, 7);
        ahead(laid(TWELVE));
        edges("right #", 0, 11);
        ahead("");
        due("right 5", 0);
        due("right 6", NONE);
        due("forgive 6 9 | right 6", NONE);

        says(14, "were all BURIED anew in this order, by what they are FORGIVEN now.");
        due("change 1 0 3 | right 0", 0);
        due("forgive 0 0 | right 0", 3);
        due("forgive 0 0 | right 3", 0);
        ahead(laid("y2;d0,0,0;d0,0,0;"));
        due("right 0", 1);
        due("right 1", 0);
        due("forgive 0 5 | right 0", 0);
        due("forgive 0 5 | right 1", 1);
        due("forgive 0 4 | right 0", 1);
    }

    private static void moved() {
        says(15, "MOVED: DEAD (bits) who lie otherwise than BY RIGHT (their DOUBLES do not matter).");
        ahead(laid(TWELVE));
        due("moved", 0);
        due("change 1 0 7 | moved", 1);
        due("change 0 5 6 | moved", 1 << 11);
        due("change 1 6 7 | change 0 6 7 | moved", 0);
        String all = "change 1 0 1 | change 1 2 3 | change 1 4 5 | change 0 0 1 | change 0 2 3 | change 0 4 5";
        due(all + " | moved", 4095);
        due(all + " | " + all + " | moved", 0);
        ahead(laid("y3;d1,3,9;d0,0,9;"));
        due("change 1 0 2 | moved", 0);
        due("change 0 0 2 | moved", 1);
        ahead("");
        due("forgive 6 9 | moved", 0);
        due("forgive 5 9 | moved", 0);
    }

    private static void mend() {
        says(16, "MEND. NONE; BAD.");
        ahead(BUSY);
        edges("mend #", 0, 1);

        says(16, "by how few CHANGES of two PLOTS each (of it) everyone in it, DOUBLES too, lies where he would");
        ahead(laid("y8;" + "d0,2,0;".repeat(8)));
        due("mend 0", 0);
        due("mend 1", 0);
        due("change 0 0 7 | mend 0", 0);
        due("change 1 0 7 | mend 1", 1);
        due("change 1 0 7 | mend 0", 0);
        String ring = "change 1 0 1";
        for (int p = 1; p < 7; p++) {
            ring = ring + " | change 1 " + p + " " + (p + 1);
            due(ring + " | mend 1", p + 1);
        }
        due("change 1 0 1 | change 1 2 3 | change 1 4 5 | change 1 6 7 | mend 1", 4);
        ahead(laid("y8;" + "d0,2,0;".repeat(7)));
        // The free plot, carried through all others, needs as many changes back as one of the dead would.
        due("change 1 0 7 | mend 1", 1);
        due("change 1 6 7 | mend 1", 1);
        due("change 1 7 6 | change 1 6 5 | change 1 5 4 | change 1 4 3 | change 1 3 2 | change 1 2 1 | change 1 1 0"
            + " | mend 1", 7);
        ahead(laid("y3;d1,3,9;d0,0,9;"));
        due("change 1 0 2 | mend 1", 1);
        due("change 1 0 2 | mend 0", 0);
        ahead(laid("y2;d0,0,0;d0,0,0;"));
        due("forgive 0 4 | mend 1", 0);
        due("forgive 0 5 | mend 1", 1);
        ahead(laid("y4;d1,2,0;"));
        due("change 0 2 3 | mend 0", 0);
        due("change 0 0 3 | mend 0", 1);
        // 1 lies in plot 0, where 0 is to lie, and 1's own plot is free.
        ahead(laid("y4;d1,2,0;d1,2,0;"));
        due("change 0 0 2 | change 0 0 1 | mend 0", 2);
    }

    /**
     * Who has a plot, and whose double, is settled by order, village and kind alone, whatever each was
     * forgiven; and a change leaves everyone in his yard. So the same lie there as BY RIGHT in every run
     * of calls: this goes through all rows of three dead in yards of two plots.
     */
    private static void mendIsNeverNone() {
        says(16, "none (where not the same lie there as BY RIGHT).");
        for (int row = 0; row < 512; row++) {
            String dead = "y2;";
            for (int i = 0; i < 3; i++) {
                int one = row >> 3 * i & 7;
                dead = dead + "d" + one % 2 + "," + one / 2 + "," + 3 * i + ";";
            }
            String run = laid(dead)
                + " | bury 0 3 4 | bury 1 3 5 | change 0 0 1 | forgive 0 9 | forgive 1 0 | forgive 2 2";
            for (int yard = 0; yard <= 1; yard++) {
                int got = new Run().make(run + " | mend " + yard);
                check(got >= 0 && got <= 1, run + " | mend " + yard + " answered " + named(got));
            }
        }
    }

    private static void grudge() {
        says(17, "would have BY RIGHT, each for himself (0, if he has no less now, or would be OWED), together.");
        due("grudge", 0);
        due("forgive 6 9 | grudge", 0);
        ahead(laid("y8;d0,0,9;"));
        due("grudge", 0);
        due("change 1 0 1 | grudge", 1);
        due("change 1 0 7 | grudge", 7);
        ahead(laid("y8;d0,0,5;"));
        due("change 1 3 4 | grudge", 1);
        due("change 1 3 7 | grudge", 4);
        due("change 1 3 2 | grudge", 0);
        ahead(laid("y8;d0,0,0;"));
        due("change 1 7 6 | grudge", 0);
        due("change 1 7 0 | grudge", 0);
        ahead(laid("y8;d0,0,0;d0,0,9;"));
        due("change 1 0 7 | grudge", 7);
        ahead(laid("y2;d0,0,0;d1,0,0;d0,3,0;d0,0,0;"));
        due("change 1 0 1 | change 0 0 1 | grudge", 1);
        due("forgive 3 9 | grudge", 0);
    }

    // ---- over the bridge: promises 18 to 21

    private static void overTheBridge() {
        takes();
        takesByTheMinute();
        tour();
        enough();
        leave();
    }

    private static void takes() {
        says(18, "TAKES, in order of numbers (what = 0), backward (1). BAD.");
        ahead(BUSY);
        edges("takes #", 0, 1);

        says(18, "TAKES: how many minutes till all are back.");
        due(laid("d0,0,0;") + " | takes 0", 0);
        due(laid("d0,0,0;") + " | takes 1", 0);
        due(laid("y8;d0,0,9;v0,1;") + " | takes 0", 3);
        due(laid("y8;d0,0,0;v0,20;") + " | takes 0", 48);
        due(laid("y8;d0,0,0;" + "v0,20;".repeat(6)) + " | takes 0", 288);
        due(laid("y8;d0,0,0;" + "v0,20;".repeat(6)) + " | takes 1", 288);

        says(18, "who visits one that is OWED does not go.");
        ahead(laid("y2;d0,0,9;d0,0,9;d0,0,9;v2,20;"));
        due("takes 0", 0);
        due("takes 1", 0);
        due("visit 0 1 | takes 0", 3);
        due("visit 1 1 | takes 0", 4);
        due("visit 2 1 | takes 0", 0);
    }

    private static void takesByTheMinute() {
        says(18, "and he has been at the PLOT for as many minutes as its number and 1, from when he came over.");
        ahead(laid("y8;d0,0,9;v0,2;"));
        due("takes 0", 5);
        for (int plot = 1; plot <= 7; plot++) {
            due("change 1 0 " + plot + " | takes 0", 5 + plot);
        }
        ahead("");
        // 0 is over at 1 and stays for 8 minutes; 1 is over a minute sooner than that, just then, a minute later.
        due(laid("y8;d0,0,0;d1,0,9;v0,1;v1,7;") + " | takes 0", 17);
        due(laid("y8;d0,0,0;d1,0,9;v0,1;v1,8;") + " | takes 0", 18);
        due(laid("y8;d0,0,0;d1,0,9;v0,1;v1,9;") + " | takes 0", 20);

        says(18, "else he goes at once as the BRIDGE is free; then, if another one is over yonder, that one comes back.");
        // 0 over at 20, 1 over at 21, 0 back at 41; 1, who has been there long since, back at 42.
        due(laid("d0,0,9;d1,0,9;v0,20;v1,1;") + " | takes 0", 42);
        // 0 over at 1, 1 over at 2; 0 stays till 7 and is back at 8, and only then 1, at 9.
        due(laid("d0,0,0;d1,0,9;v0,1;v1,1;") + " | takes 0", 9);

        says(18, "Who comes back does when the BRIDGE is free");
        // 0 over at 1, ready at 2; 1 is on the bridge till 2, or till 3; 0 back a minute later, then 1.
        due(laid("d0,0,9;d1,0,9;v0,1;v1,1;") + " | takes 0", 4);
        due(laid("d0,0,9;d1,0,9;v0,1;v1,2;") + " | takes 0", 6);

        says(18, "At last who is over yonder comes back.");
        // 1 over at 2, 0 back at 3; 1 stays till 8 and is back at 9.
        due(laid("d0,0,9;d1,0,0;v0,1;v1,1;") + " | takes 0", 9);

        says(18, "VISITORS are of the village of whom they visit");
        // They visit two of the dead: two of one village wait for one another, two of two villages do not.
        due(laid("d0,0,9;d0,0,9;v0,1;v1,1;") + " | takes 0", 7);
        due(laid("d0,0,9;d1,0,9;v0,1;v1,1;") + " | takes 0", 4);

        says(18, "When one is to go over, and one of his own village is over yonder, that one comes back first");
        // 3 over, 1 there, 3 back, then 4 over, 1 there, 4 back.
        due(laid("d0,0,9;v0,3;v0,4;") + " | takes 0", 16);
        // Of two villages: 3 over, 4 over, 3 back, 4 back.
        due(laid("d0,0,9;d1,0,9;v0,3;v1,4;") + " | takes 0", 14);
        // 0 over at 1, 1 over at 2, 0 back at 3, 2 over at 4, 1 back at 5, 2 back at 6.
        due(laid("d0,0,9;d1,0,9;v0,1;v1,1;v0,1;") + " | takes 0", 6);
        // 0 over at 1, 1 over at 2, 0 back at 3; 1 back at 4 ahead of 2, who is back at 7.
        due(laid("d0,0,9;d1,0,9;v0,1;v1,1;v1,1;") + " | takes 0", 7);
    }

    private static void tour() {
        says(19, "TOUR: as much (k = -1), the k-th (NONE: there are not so many). NONE; BAD.");
        ahead(BUSY);
        refused("tour -2", BAD);
        refused("tour " + LOW, BAD);
        due("tour -1", 44);
        due("tour 0", 0);
        due("tour 4", 3);
        due("tour 5", NONE);
        due("tour 6", NONE);
        due("tour " + HIGH, NONE);
        ahead(laid("d0,0,9;v0,1;"));
        due("tour -1", 3);
        due("tour 0", 0);
        due("tour 1", NONE);
        due("tour -2", BAD);
        ahead(laid("y2;d0,0,9;d0,0,9;d0,0,9;v2,1;v1,1;v2,1;"));
        due("tour 0", 1);
        due("tour 1", NONE);

        says(19, "none (nobody goes)");
        for (String text : "d0,0,0; y2;d0,0,9;d0,0,9;d0,0,9;v2,1;".split(" ")) {
            ahead(laid(text));
            due("tour -1", NONE);
            due("tour 0", NONE);
            due("tour " + HIGH, NONE);
            due("visit 0 1 | tour 0", text.length() == 7 ? 0 : 1);
        }

        // Who went while he could is not remembered when he is gone.
        ahead(laid("d0,0,0;"));
        due("visit 0 1 | tour -1 | undo | tour -1", NONE);
        due("visit 0 1 | tour -1 | undo | takes 0", 0);
        due("visit 0 20 | visit 0 20 | leave | undo | undo | leave", 0);

        says(19, "Of several the first; nothing changes then.");
        ahead(laid("d0,0,0;"));
        due("tour -2", BAD);
        due("tour " + LOW, BAD);

        says(19, "by which all are back soonest, of several the first (by who is first, the lowest, then ..)");
        ahead(laid("y2;d0,0,9;" + "v0,1;".repeat(6)));
        due("tour -1", 18);
        for (int k = 0; k <= 5; k++) {
            due("tour " + k, k);
        }
        due("tour 6", NONE);
        // 0 and 1 are of one village, 2 of the other: 2 between them saves minutes, and 0 goes first then.
        ahead(laid("d0,0,9;d1,0,9;v0,1;v0,1;v1,1;"));
        due("takes 0", 7);
        due("tour -1", 6);
        due("tour 0", 0);
        due("tour 1", 2);
        due("tour 2", 1);

        says(19, "TOUR: of all orders that by which all are back soonest");
        // An order has each of them once: were 1 to go a second time, between 2 and 3, all would be back as soon.
        ahead(laid("y8;d0,0,0;d1,2,0;d0,0,1;d0,0,2;v0,5;v1,1;v2,5;v3,5;"));
        due("tour -1", 51);
        due("tour 0", 0);
        due("tour 1", 1);
        due("tour 2", 2);
        due("tour 3", 3);
        due("tour 4", NONE);
    }

    private static void enough() {
        says(20, "ENOUGH: whether that is within the TRUCE.");
        due(laid("d0,0,9;v0,5;t12;") + " | enough", 1);
        due(laid("d0,0,9;v0,5;t11;") + " | enough", 1);
        due(laid("d0,0,9;v0,5;t10;") + " | enough", 0);
        due(laid("d0,0,9;v0,1;t3;") + " | enough", 1);
        due(laid("d0,0,9;v0,1;t2;") + " | enough", 0);
        due(laid("y8;d0,0,0;d0,0,9;v0,20;v0,20;v1,1;t99;") + " | enough", 1);
        due(laid("y8;d0,0,0;d0,0,9;v0,20;v0,20;v1,2;t99;") + " | enough", 0);
        due(laid("d0,0,9;v0,20;v0,9;") + " | enough", 1);
        due(laid("d0,0,9;d0,0,9;v0,20;v1,9;") + " | enough", 0);
        // By the order of numbers it takes 7 minutes, by the soonest one 6.
        due(laid("d0,0,9;d1,0,9;v0,1;v0,1;v1,1;t6;") + " | enough", 1);
        due(laid("d0,0,9;d1,0,9;v0,1;v0,1;v1,1;t5;") + " | enough", 0);
        due(laid("d0,0,0;t1;") + " | enough", 1);
        due(laid("y2;d0,0,9;d0,0,9;d0,0,9;v2,1;t1;") + " | enough", 1);
    }

    private static void leave() {
        says(21, "if it is not: the fewest VISITORS to stay at home, so that it is, of several sets the lowest (bits).");
        due(laid("d0,0,9;v0,5;t11;") + " | leave", 0);
        due(laid("d0,0,9;v0,5;t10;") + " | leave", 1);
        due(laid("d0,0,9;d1,0,9;v0,1;v0,1;v1,1;t6;") + " | leave", 0);
        due(laid("d0,0,0;t1;") + " | leave", 0);
        String six = "d0,0,9;" + "v0,1;".repeat(6);
        int[] sets = {63, 63, 31, 31, 31, 15, 15, 15, 7, 7, 7, 3, 3, 3, 1, 1, 1, 0};
        for (int truce = 1; truce <= 18; truce++) {
            due(laid(six + "t" + truce + ";") + " | leave", sets[truce - 1]);
        }
        // The last one alone is too slow: rather he than the two others, though 3 is lower than 4.
        due(laid("d0,0,9;v0,1;v0,1;v0,20;t10;") + " | leave", 4);
        // Two sets of one: the lower one is that of 0, though 1 takes as long.
        due(laid("d0,0,9;v0,2;v0,2;t5;") + " | leave", 1);
        due(laid("d0,0,9;v0,1;v0,2;t4;") + " | leave", 2);
        due(laid("y2;d0,0,9;d0,0,9;d0,0,9;v2,1;t1;") + " | leave", 0);
        due(laid("y2;d0,0,9;d0,0,9;d0,0,9;v2,1;v0,1;t1;") + " | leave", 2);
    }

    // ---- what was seen: promises 22 to 24

    private static void whatWasSeen() {
        seen();
        forget();
        was();
    }

    private static void seen() {
        says(22, "SEEN: how many. BAD; FULL.");
        ahead(BUSY);
        edges("seen # 0", 0, 7);
        edges("seen # 3", 0, 7);
        edges("seen 0 #", 0, 3);
        edges("seen 7 #", 0, 3);
        refused("seen 8 4", BAD);
        ahead(laid("y8;d0,0,0;"));
        edges("seen # 0", 0, 0);
        edges("seen 0 #", 0, 7);

        says(22, "SEEN (8 at most) is that one of the DEAD lay in a PLOT of the YARD where he belongs");
        ahead(BUSY, times(5, "seen 0 0"));
        due("seen 0 0", 8);
        due("seen 0 0 | count 5", 8);
        ahead(BUSY, times(6, "seen 0 0"));
        due("was 0", 896);
        refused("seen 0 0", FULL);
        refused("seen 0 1", FULL);
        refused("seen 7 0", FULL);
        for (int n = 1; n <= 8; n++) {
            ahead("");
            due(times(n, "seen 6 0"), n);
        }
        due(times(9, "seen 6 0"), FULL);

        says(22, "Of several the first; nothing changes then.");
        ahead(BUSY, times(6, "seen 0 0"));
        refused("seen -1 0", BAD);
        refused("seen 8 0", BAD);
        refused("seen 0 -1", BAD);
        refused("seen 0 4", BAD);
    }

    private static void forget() {
        says(23, "Nothing is SEEN: how many were.");
        due("forget", 0);
        for (int n = 1; n <= 8; n++) {
            due(times(n, "seen 0 3") + " | forget", n);
        }
        due(times(9, "seen 0 3") + " | forget", 8);
        ahead(times(8, "seen 0 3"));
        due("was 0", 3);
        due("was 1", 0);
        due("forget | forget", 0);
        due("forget | count 5", 0);
        due("forget | seen 0 3", 1);
        alike(times(8, "seen 0 3") + " | forget", "");
    }

    private static void was() {
        says(24, "WAS FORGIVEN, as bits. BAD.");
        ahead(BUSY);
        edges("was #", 0, 7);
        ahead(laid(TWELVE));
        edges("was #", 0, 11);

        says(24, "WAS FORGIVEN: 0 to 9 (bits) by which, were it one's, all that was SEEN would be so.");
        ahead(laid("y8;d0,0,5;"));
        due("was 0", 1023);
        due("seen 0 7 | was 0", 1);
        due("seen 0 6 | was 0", 2);
        due("seen 0 4 | was 0", 8 | 16);
        due("seen 0 0 | was 0", 256 | 512);
        due("seen 0 0 | seen 0 0 | was 0", 256 | 512);
        due("seen 0 0 | seen 0 1 | was 0", 0);
        ahead(laid("y2;d0,0,5;"));
        due("seen 0 1 | was 0", 31);
        due("seen 0 0 | was 0", 992);

        says(24, "lay in a PLOT of the YARD where he belongs, BY RIGHT, but for what one was FORGIVEN.");
        ahead(laid("y8;d0,0,5;"));
        due("change 1 3 0 | seen 0 0 | was 0", 256 | 512);
        due("forgive 0 0 | seen 0 3 | was 0", 32);
        ahead("");
        // He is OWED by whatever he was forgiven.
        due("seen 6 0 | was 6", 0);
        due("seen 6 0 | was 0", 0);
        // One who is gone again lies nowhere, too.
        due("bury 1 0 9 | seen 7 3 | was 0", 1023);
        due("bury 1 0 9 | seen 7 3 | undo | was 0", 0);
        due("bury 1 0 9 | seen 7 3 | undo | bury 1 0 9 | was 0", 1023);
        // The eighth that was seen weighs as much as the first.
        due(times(7, "seen 0 0") + " | was 0", 896);
        due(times(7, "seen 0 0") + " | seen 0 1 | was 0", 0);
    }

    // ---- what is owed: promises 25 to 29

    private static void whatIsOwed() {
        owed();
        balance();
        names();
        next();
        year();
        yearByDraws();
        yearOfTwelve();
    }

    private static void owed() {
        says(25, "OWED of a village. BAD.");
        ahead(BUSY);
        edges("owed #", 0, 1);
        ahead("");
        due("owed 0", 1);
        due("owed 1", 0);
        ahead(laid("y2;d0,0,0;d0,0,0;"));
        due("owed 0", 0);
        due("bury 0 0 0 | owed 0", 1);
        due("bury 0 0 0 | owed 1", 0);
        due("bury 0 0 0 | undo | owed 0", 0);
        due(times(10, "bury 0 0 0") + " | owed 0", 10);
        due(times(11, "bury 0 0 0") + " | owed 0", 10);
    }

    private static void balance() {
        says(26, "what all of village 0 who lie were FORGIVEN together less what those of village 1 were, and 200.");
        due(laid("d0,0,0;") + " | balance", 200);
        due(laid("d0,0,1;") + " | balance", 201);
        due(laid("d1,0,1;") + " | balance", 199);
        due(laid("y8;" + "d0,0,9;".repeat(8)) + " | balance", 272);
        due(laid("y8;" + "d0,0,9;".repeat(12)) + " | balance", 272);
        due(laid("y8;" + "d1,0,9;".repeat(8)) + " | balance", 128);
        due(laid("y8;" + "d1,0,9;".repeat(12)) + " | balance", 128);
        due(laid("y2;d0,3,9;d1,0,9;d1,0,9;") + " | balance", 200);
    }

    private static void names() {
        says(27, "NAMES of those who lie (not DOUBLES) are worn off behind w (0 to 20) winters, one a winter");
        ahead(BUSY);
        edges("names #", 0, 20);
        ahead("");
        due("names 0", 63);
        due("names 1", 61);
        due("names 20", 0);
        ahead(laid(TWELVE));
        due("names 0", 4095);
        due("names 1", 4095 - 64);
        due("names 2", 4095 - 64 - 1);
        due("names 11", 32);
        due("names 12", 0);
        due("names 13", 0);
        due("names 20", 0);
        ahead(laid("d0,3,0;"));
        due("names 0", 1);
        due("names 1", 0);

        says(27, "(0 first; in the other one, where all of one are worn off), the lowest number first");
        ahead(laid("y8;" + "d0,2,0;".repeat(12)));
        for (int w = 0; w <= 8; w++) {
            due("names " + w, 255 & 255 << w);
        }
        ahead(laid("d0,0,0;d0,0,0;d0,0,0;d1,0,0;"));
        int[] left = {15, 7, 6, 4, 0, 0};
        for (int w = 0; w < left.length; w++) {
            due("names " + w, left[w]);
        }
        ahead(laid("d1,0,0;d1,0,0;d1,0,0;d0,0,0;"));
        int[] leftThen = {15, 14, 6, 4, 0, 0};
        for (int w = 0; w < leftThen.length; w++) {
            due("names " + w, leftThen[w]);
        }
        // The number counts, not the plot: 0 lies behind 1.
        ahead(laid("d1,0,0;d1,0,9;"));
        due("names 1", 2);
    }

    private static void next() {
        says(28, "NEXT. NONE; BAD.");
        ahead(BUSY);
        edges("next # 0 0", 0, 1);
        edges("next # 3 9", 0, 1);
        edges("next 0 # 0", 0, 3);
        edges("next 1 # 9", 0, 3);
        edges("next 0 0 #", 0, 9);
        edges("next 1 3 #", 0, 9);

        says(28, "in which PLOT he would lie, were he BURIED now; none: OWED.");
        ahead("");
        for (int kind = 0; kind <= 3; kind++) {
            due("next 0 " + kind + " 9", NONE);
            due("next 1 " + kind + " 9", 3);
            due("bury 1 0 0 | next 1 " + kind + " 9", NONE);
        }
        ahead(laid("y3;d0,0,0;"));
        due("next 0 0 0", 0);
        due("next 0 1 0", 1);
        due("change 1 0 2 | next 0 1 9", 2);
        due("change 1 0 2 | next 0 0 0", 2);
        // There is no room for a thirteenth; the document has no answer of its own for that.
        ahead(laid(TWELVE));
        due("next 0 0 0", 7);
        due("next 0 2 0", 6);
    }

    private static void year() {
        says(29, "A YEAR: OWED (what = 0), MOVED (1). BAD.");
        ahead(BUSY);
        edges("year 7 9 #", 0, 1);

        says(29, "A YEAR by z (0 to 9999) of n (1 to 30) winters");
        ahead(BUSY);
        edges("year # 1 0", 0, 9999);
        edges("year # 30 1", 0, 9999);
        edges("year 0 # 1", 1, 30);
        edges("year 9999 # 0", 1, 30);
        refused("year 10000 31 2", BAD);
        ahead("");
        due("year 0 1 0", 2);
        due("year 0 1 1", 0);
        due("year 0 29 1", 4);
        due("year 0 30 0", 5);
        due("year 0 30 1", 5);
        due("year 9998 30 1", 7);
        due("year 9999 1 0", 1);
        due("year 9999 1 1", 2);
        due("year 9999 30 0", 5);
        due("year 9999 30 1", 4);
    }

    private static void yearByDraws() {
        says(29, "F (DRAW by 8, cut) modulo 10, and behind it PLOTS");
        ahead(laid("y8;d0,0,5;"));
        due("year 1 2 1", 0);
        due("year 2 4 1", 2);
        due("year 10 10 0", 2);
        due("year 10 10 1", 5);
        due("year 9 10 1", 2);

        says(29, "DRAW being ((x times x) modulo 65521) by 2, cut, x 7919 z, 6151 (the winter, 0 first) and 1 together");
        // From z 6 on x times x has more than 31 bits, from 9 on more than 32.
        ahead(laid("y8;d0,0,5;"));
        due("year 5 6 1", 2);
        due("year 6 10 0", 1);
        due("year 6 10 1", 7);
        ahead("");
        due("year 5 1 0", 2);
        due("year 5 1 1", 2);
        due("year 6 1 0", 2);
        due("year 6 1 1", 1);
        due("year 9 1 1", 1);
        due("year 0 8 1", 4);
        due("year 0 9 1", 3);
    }

    private static void yearOfTwelve() {
        says(29, "in each one is BURIED, if there are fewer than 12");
        ahead(laid("y2;d0,0,0;"));
        due("year 9998 3 0", 1);
        due("year 9998 12 0", 9);
        due("year 9998 30 0", 9);
        // Draw 0: a plain one of village 0, forgiven 0; nothing is changed.
        ahead(laid("y2;" + "d0,0,0;".repeat(11)));
        due("year 0 1 0", 10);
        ahead(laid("y2;" + "d0,0,0;".repeat(12)));
        due("owed 0", 10);
        due("year 0 1 0", 10);
        due("year 0 30 0", 10);
        ahead(laid(TWELVE));
        due("year 9999 1 0", 0);
        due("year 9999 1 1", 2);
        due("year 9999 30 0", 0);
        due("year 9999 30 1", 8);
    }

    // ---- kept: promises 30 to 32

    private static void kept() {
        keep();
        back();
        count();
    }

    private static void keep() {
        says(30, "KEPT: how many. FULL.");
        due("keep", 1);
        due("keep | keep", 2);
        due("keep | keep | keep", FULL);

        says(30, "KEPT are DEAD, PLOTS, VISITORS: 2 at most.");
        ahead(BUSY);
        refused("keep", FULL);
        due("back | keep", 2);
        due("back | back | keep", 1);
        ahead(BUSY, "back");
        due("bury 0 0 0 | change 0 1 2 | forgive 1 1 | visit 1 1 | keep | count 7", 2);
        alike(join(BUSY, "back | bury 0 0 0 | change 0 1 2 | forgive 1 1 | visit 1 1 | keep | undo | undo | back"),
            join(BUSY, "back | keep | bury 0 0 0 | change 0 1 2 | forgive 1 1 | visit 1 1 | back"
                + " | bury 0 0 0 | change 0 1 2 | forgive 1 1 | visit 1 1 | keep | back"));
    }

    private static void back() {
        says(31, "As KEPT last: how many are left; nothing is UNDONE then. NO.");
        refused("back", NO);
        ahead("text d0,0,0; | seen 0 0 | forgive 0 1 | change 1 0 1 | bury 1 0 1 | visit 7 1");
        refused("back", NO);
        ahead("");
        due("keep | back", 0);
        due("keep | keep | back", 1);
        due("keep | keep | back | back", 0);
        due("keep | keep | back | back | back", NO);
        ahead("keep | keep | forgive 0 1 | back | back");
        refused("back", NO);
        ahead("keep | forgive 0 1 | keep | forgive 0 2");
        due("back | dead 0 2", 1);
        due("back | back | dead 0 2", 7);
        due("back | count 6", 0);
        due("back | undo", NO);
        due("back | forgive 0 3 | undo", 0);
        ahead("keep", times(9, "forgive 0 1"));
        due("count 6", 8);
        due("back | count 6", 0);
        ahead("keep | seen 0 3 | text y4;");
        due("back | count 5", 1);
        due("back | count 8", 3);
        alike("keep | back", "");
        alike("keep | bury 1 0 9 | change 1 0 1 | forgive 0 0 | visit 0 9 | back", "");
    }

    private static void count() {
        says(32, "5 SEEN, 6 that can be UNDONE, 7 KEPT, 8 letters of THE TEXT. BAD.");
        edges("count #", 0, 8);
        ahead(BUSY);
        edges("count #", 0, 8);
        int[] busy = {8, 5, 4, 40, 1, 2, 4, 2, 15};
        for (int what = 0; what < busy.length; what++) {
            due("count " + what, busy[what]);
        }

        says(32, "How many: 0 DEAD, 1 VISITORS, 2 PLOTS of a YARD, 3 the TRUCE, 4 DOUBLES");
        int[] least = {1, 0, 2, 1, 0, 0, 0, 0, 13};
        ahead(laid("y2;d0,0,0;t1;"));
        for (int what = 0; what < least.length; what++) {
            due("count " + what, least[what]);
        }
        int[] most = {12, 6, 8, 99, 8, 8, 8, 2, 123};
        ahead(laid("y8;" + "d0,3,0;".repeat(12) + "v11,1;v0,20;" + "v0,1;".repeat(4) + "t99;"),
            times(8, "seen 0 0"), times(2, "keep"), times(8, "forgive 0 0"));
        for (int what = 0; what < most.length; what++) {
            due("count " + what, most[what]);
        }
        // Each of the drowned fills a plot of each yard: eight have a double, those who are owed have none.
        ahead(laid("y8;" + "d0,3,0;".repeat(7)));
        due("count 4", 7);
        due("bury 1 3 0 | count 4", 8);
        due("bury 1 3 0 | bury 1 3 0 | count 4", 8);
    }

    // ---- numbers that come and go

    private static void suchAsThereAre() {
        String words = "(DEAD, PLOTS, YARDS, VISITORS: such as there are)";
        String[] ofTheDead = {"6 dead 7 0", "11 forgive 7 0", "12 visit 7 1", "14 right 7", "22 seen 7 0", "24 was 7"};
        for (String one : ofTheDead) {
            String call = one.substring(one.indexOf(' ') + 1);
            says(Integer.parseInt(one.substring(0, one.indexOf(' '))), words);
            refused(call, BAD);
            isTold("bury 1 2 3", call);
            ahead("bury 1 2 3 | undo");
            refused(call, BAD);
            ahead("keep | bury 1 2 3 | back");
            refused(call, BAD);
            isTold("bury 1 2 3 | keep | undo | back", call);
        }
        String[] ofThePlots = {"7 plot 0 #", "7 plot 1 #", "10 change 0 0 #", "10 change 1 # 0", "22 seen 0 #"};
        for (String one : ofThePlots) {
            String call = one.substring(one.indexOf(' ') + 1);
            says(Integer.parseInt(one.substring(0, one.indexOf(' '))), words);
            for (int plots = 2; plots <= 8; plots++) {
                ahead(laid("y" + plots + ";d0,0,0;"));
                refused(call.replace("#", "" + plots), BAD);
                isTold(ahead, call.replace("#", "" + (plots - 1)));
            }
        }
    }

    private static void isTold(String run, String call) {
        ahead(run);
        check(new Run().make(join(run, call)) != BAD, call + " answered BAD");
    }

    // ---- boundaries that many calls come to

    private static void allCalls() {
        says(1, "An object is used for at most 512 calls after it has been made");
        lastCall(join(times(510, "forgive 0 1"), "undo"), "count 6", 7);
        lastCall(times(511, "forgive 0 1"), "undo", 7);
        lastCall(join(times(503, "forgive 0 1"), times(8, "undo")), "undo", NO);
        lastCall(times(511, "write 121"), "write 121", FULL);
        lastCall(times(511, "write 121"), "wipe", 200);
        lastCall(join(times(255, "write 121 | wipe"), "write 121"), "wipe", 1);
        lastCall(times(511, "seen 0 0"), "seen 0 0", FULL);
        lastCall(times(511, "keep"), "back", 1);
        lastCall(join(times(255, "keep | back"), "keep"), "back", 0);
        lastCall(times(511, "bury 1 0 0"), "bury 1 0 0", FULL);
        lastCall(join(times(255, "bury 1 0 0 | undo"), "bury 1 0 0"), "undo", 0);
        lastCall(times(511, "visit 0 1"), "visit 0 1", FULL);
        lastCall(times(511, "change 1 0 1"), "plot 1 0", 3);
        lastCall(times(511, "year 9999 30 1"), "year 9999 30 1", 4);
        lastCall(times(511, "leave"), "leave", 0);
        lastCall(times(511, "was 0"), "was 0", 1023);
        lastCall(join(laid(TWO_HUNDRED), times(310, "lay")), "lay", 12);
        lastCall(join("text " + "y".repeat(200), "wipe", "text " + TWO_HUNDRED, times(110, "fault")), "lay", 12);
    }

    private static void lastCall(String run, String call, int want) {
        Run x = new Run();
        x.make(run);
        int got = x.make(call);
        check(x.calls == Run.MOST_CALLS, "this is call " + x.calls + ": " + call);
        check(got == want, call + " answered " + named(got) + " as the last call, due is " + named(want));
    }

    // ---- the document itself

    /** The sentences stand in the document; each answer by which a promise refuses has come up under it. */
    private static void document() throws IOException {
        if (!Files.isReadable(DOCUMENT)) {
            System.out.println("no " + DOCUMENT + ": the sentences are not held against it");
            return;
        }
        ahead("");
        String text = Files.readString(DOCUMENT).replaceAll("\\s+", " ");
        for (String words : sentences) {
            sentence = words;
            check(text.contains(words), "is no sentence of the document");
        }
        for (promise = 1; promise <= 32; promise++) {
            int from = text.indexOf("## Promise " + promise + ":");
            int to = text.indexOf("## ", from + 3);
            sentence = from < 0 || to < 0 ? "" : text.substring(from, to);
            check(!sentence.isEmpty(), "has no heading");
            answersOfPromise();
        }
    }

    private static void answersOfPromise() {
        Set<Integer> answers = answersByPromise.getOrDefault(promise, Set.of());
        check(!answers.isEmpty(), "has no case");
        for (int answer : new int[] {BAD, NO, FULL, NONE}) {
            // No run of calls comes to a MEND that is none: see mendIsNeverNone.
            boolean isOutOfReach = promise == 16 && answer == NONE;
            if (!isOutOfReach && sentence.matches(".*\\b" + named(answer) + "\\b.*")) {
                check(answers.contains(answer), named(answer) + " was never due");
            }
        }
    }
}
