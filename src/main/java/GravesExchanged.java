/**
 * Two villages that bury each other's dead, each in the other's yard.
 * What each call answers is told in ../shared/DOC.md, promise by promise.
 */
public final class GravesExchanged {
    public static final int BAD = -1, NO = -2, FULL = -3, NONE = -4;

    private static final int MOST_LETTERS = 200;
    private static final int MOST_DEAD = 12;
    private static final int LEAST_PLOTS = 2;
    private static final int MOST_PLOTS = 8;
    private static final int MOST_VISITORS = 6;
    private static final int MOST_MINUTES = 20;
    private static final int MOST_UNDONE = 8;
    private static final int MOST_SEEN = 8;
    private static final int MOST_KEPT = 2;
    private static final int MOST_WINTERS_OF_NAMES = 20;
    private static final int MOST_WINTERS_OF_A_YEAR = 30;
    private static final int LAST_YEAR = 9999;
    private static final int BITTER = 1, CHILD = 2, DROWNED = 3;
    private static final int BEST_FORGIVEN = 9;
    private static final int DOUBLE = 20;
    private static final int EVEN_BALANCE = 200;
    private static final String FIRST_TEXT =
        "y4;d0,0,7;d1,0,3;d0,1,2;d0,0,9;d1,3,5;d1,2,0;d0,0,6;v0,4;v1,3;v3,6;v5,2;t40;";

    private final Text text = new Text();
    private final Yards now = new Yards();
    private final Yards anew = new Yards();
    private final Yards trial = new Yards();
    private final Bridge bridge = new Bridge();
    private final Shelf past = new Shelf(MOST_UNDONE);
    private final Shelf kept = new Shelf(MOST_KEPT);
    private final int[] seenDead = new int[MOST_SEEN];
    private final int[] seenPlot = new int[MOST_SEEN];
    private int seenCount;

    public GravesExchanged() {
        for (int i = 0; i < FIRST_TEXT.length(); i++) {
            text.append(FIRST_TEXT.charAt(i));
        }
        text.tellAll(now);
        text.length = 0;
    }

    // ---- villages

    public int write(int letter) {
        if (letter < 32 || letter > 126) {
            return BAD;
        }
        if (text.length >= MOST_LETTERS) {
            return FULL;
        }
        text.append((char) letter);
        return text.length;
    }

    public int wipe() {
        int length = text.length;
        text.length = 0;
        return length;
    }

    public int fault() {
        return text.tellAll(trial);
    }

    public int lay() {
        if (text.tellAll(trial) != NONE || trial.deadCount == 0) {
            return NO;
        }
        now.copyFrom(trial);
        past.clear();
        kept.clear();
        seenCount = 0;
        return now.deadCount;
    }

    public int dead(int i, int what) {
        if (!now.hasDead(i)) {
            return BAD;
        }
        switch (what) {
            case 0: return now.villageOf(i);
            case 1: return now.kindOf(i);
            case 2: return now.forgivenOf(i);
            case 3: return now.plotOf(i);
            case 4: return now.plotOfDouble(i);
            default: return BAD;
        }
    }

    public int plot(int yard, int p) {
        if (!isSide(yard) || !now.hasPlot(p)) {
            return BAD;
        }
        return now.whoLies(yard, p);
    }

    public int visitor(int v, int what) {
        if (!now.hasVisitor(v)) {
            return BAD;
        }
        switch (what) {
            case 0: return now.visitedBy(v);
            case 1: return now.minutesOf(v);
            default: return BAD;
        }
    }

    // ---- acts

    public int bury(int village, int kind, int f) {
        if (!isOneOfTheDead(village, kind, f)) {
            return BAD;
        }
        if (now.deadCount >= MOST_DEAD) {
            return FULL;
        }
        past.put(now);
        return now.addDead(village, kind, f);
    }

    public int change(int yard, int p, int q) {
        if (!isSide(yard) || !now.hasPlot(p) || !now.hasPlot(q) || p == q) {
            return BAD;
        }
        past.put(now);
        now.swap(yard, p, q);
        return now.whoLies(yard, p);
    }

    public int forgive(int i, int f) {
        if (!now.hasDead(i) || !isForgiven(f)) {
            return BAD;
        }
        past.put(now);
        int before = now.forgivenOf(i);
        now.setForgiven(i, f);
        return before;
    }

    public int visit(int i, int c) {
        if (!now.hasDead(i) || !isMinutes(c)) {
            return BAD;
        }
        if (now.visitorCount >= MOST_VISITORS) {
            return FULL;
        }
        past.put(now);
        now.addVisitor(i, c);
        return now.visitorCount;
    }

    public int undo() {
        if (past.size == 0) {
            return NO;
        }
        past.take(now);
        return past.size;
    }

    // ---- by right

    public int right(int i) {
        if (!now.hasDead(i)) {
            return BAD;
        }
        layByRight(now);
        return anew.plotOf(i);
    }

    public int moved() {
        return movedIn(now);
    }

    public int mend(int yard) {
        if (!isSide(yard)) {
            return BAD;
        }
        layByRight(now);
        return now.fewestChanges(yard, anew);
    }

    public int grudge() {
        layByRight(now);
        int sum = 0;
        for (int i = 0; i < now.deadCount; i++) {
            int here = now.plotOf(i);
            int due = anew.plotOf(i);
            if (here != NONE && due != NONE && due < here) {
                sum += here - due;
            }
        }
        return sum;
    }

    // ---- over the bridge

    public int takes(int what) {
        if (what != 0 && what != 1) {
            return BAD;
        }
        bridge.gather(now);
        return bridge.minutesByNumber(what == 1);
    }

    public int tour(int k) {
        if (k < -1) {
            return BAD;
        }
        bridge.gather(now);
        if (bridge.goers == 0) {
            return NONE;
        }
        bridge.tryAllOrders();
        return k == -1 ? bridge.soonestOf(bridge.goers) : bridge.inBestOrder(k);
    }

    public int enough() {
        bridge.gather(now);
        bridge.tryAllOrders();
        return bridge.soonestOf(bridge.goers) <= now.truce ? 1 : 0;
    }

    public int leave() {
        bridge.gather(now);
        bridge.tryAllOrders();
        return bridge.fewestToStay(now.truce);
    }

    // ---- what was seen

    public int seen(int i, int p) {
        if (!now.hasDead(i) || !now.hasPlot(p)) {
            return BAD;
        }
        if (seenCount < 0 || seenCount >= MOST_SEEN) {
            return FULL;
        }
        seenDead[seenCount] = i;
        seenPlot[seenCount] = p;
        seenCount++;
        return seenCount;
    }

    public int forget() {
        int were = seenCount;
        seenCount = 0;
        return were;
    }

    public int was(int i) {
        if (!now.hasDead(i)) {
            return BAD;
        }
        int bits = 0;
        for (int f = 0; f <= BEST_FORGIVEN; f++) {
            anew.copyFrom(now);
            anew.setForgiven(i, f);
            anew.digAllAnew();
            if (isAllSeenSo()) {
                bits |= 1 << f;
            }
        }
        return bits;
    }

    // ---- what is owed

    public int owed(int village) {
        return isSide(village) ? now.owedOf(village) : BAD;
    }

    public int balance() {
        return EVEN_BALANCE + now.forgivenOfAllWhoLie(0) - now.forgivenOfAllWhoLie(1);
    }

    public int names(int w) {
        if (w < 0 || w > MOST_WINTERS_OF_NAMES) {
            return BAD;
        }
        int left = now.allWhoLie();
        for (int winter = 0; winter < w; winter++) {
            left &= ~nextWornOff(left, winter & 1);
        }
        return left;
    }

    public int next(int village, int kind, int f) {
        if (!isOneOfTheDead(village, kind, f)) {
            return BAD;
        }
        return now.freePlot(1 - village, kind, f);
    }

    public int year(int z, int n, int what) {
        if (z < 0 || z > LAST_YEAR || n < 1 || n > MOST_WINTERS_OF_A_YEAR) {
            return BAD;
        }
        if (what != 0 && what != 1) {
            return BAD;
        }
        trial.copyFrom(now);
        for (int winter = 0; winter < n; winter++) {
            passWinter(trial, draw(z, winter));
        }
        return what == 0 ? trial.owedOf(0) + trial.owedOf(1) : Integer.bitCount(movedIn(trial));
    }

    // ---- kept

    public int keep() {
        if (kept.size >= MOST_KEPT) {
            return FULL;
        }
        kept.put(now);
        return kept.size;
    }

    public int back() {
        if (kept.size == 0) {
            return NO;
        }
        kept.take(now);
        past.clear();
        return kept.size;
    }

    public int count(int what) {
        switch (what) {
            case 0: return now.deadCount;
            case 1: return now.visitorCount;
            case 2: return now.plots;
            case 3: return now.truce;
            case 4: return now.doubles();
            case 5: return seenCount;
            case 6: return past.size;
            case 7: return kept.size;
            case 8: return text.length;
            default: return BAD;
        }
    }

    private static boolean isSide(int yardOrVillage) {
        return yardOrVillage == 0 || yardOrVillage == 1;
    }

    private static boolean isForgiven(int f) {
        return f >= 0 && f <= BEST_FORGIVEN;
    }

    private static boolean isMinutes(int c) {
        return c >= 1 && c <= MOST_MINUTES;
    }

    private static boolean isOneOfTheDead(int village, int kind, int f) {
        return isSide(village) && kind >= 0 && kind <= DROWNED && isForgiven(f);
    }

    private void layByRight(Yards yards) {
        anew.copyFrom(yards);
        anew.digAllAnew();
    }

    private int movedIn(Yards yards) {
        layByRight(yards);
        int bits = 0;
        for (int i = 0; i < yards.deadCount; i++) {
            if (yards.plotOf(i) != anew.plotOf(i)) {
                bits |= 1 << i;
            }
        }
        return bits;
    }

    // One who was seen may be gone by an undo or a back: then it is not so, as he lies nowhere.
    private boolean isAllSeenSo() {
        for (int s = 0; s < seenCount && s < MOST_SEEN; s++) {
            if (anew.plotOf(seenDead[s]) != seenPlot[s]) {
                return false;
            }
        }
        return true;
    }

    private int nextWornOff(int left, int yard) {
        int here = left & now.allOfVillage(1 - yard);
        int inTurn = here != 0 ? here : left;
        return inTurn & -inTurn;
    }

    private static int draw(int z, int winter) {
        long x = 7919L * z + 6151L * winter + 1;
        return (int) (x * x % 65521 / 2);
    }

    private static void passWinter(Yards yards, int draw) {
        if (yards.deadCount < MOST_DEAD) {
            yards.addDead(draw % 2, draw / 2 % 4, draw / 8 % 10);
        }
        int plots = yards.plots;
        if (plots > 0) {
            yards.swap(draw / 64 % 2, draw / 16 % plots, draw / 32 % plots);
        }
    }

    /** The dead, who lies where, and the visitors: what an undo or a back brings again. */
    private static final class Yards {
        private static final int PLOTS_UNTOLD = 6;
        private static final int TRUCE_UNTOLD = 60;

        int plots;
        int truce;
        int deadCount;
        int visitorCount;
        final int[] village = new int[MOST_DEAD];
        final int[] kind = new int[MOST_DEAD];
        final int[] forgiven = new int[MOST_DEAD];
        // Yard 0's plots, then yard 1's: one of the dead, a double (his number and 20), or NONE.
        final int[] lying = new int[2 * MOST_PLOTS];
        final int[] visited = new int[MOST_VISITORS];
        final int[] minutes = new int[MOST_VISITORS];

        Yards() {
            empty();
        }

        void empty() {
            plots = PLOTS_UNTOLD;
            truce = TRUCE_UNTOLD;
            deadCount = 0;
            visitorCount = 0;
            freeAll();
        }

        void copyFrom(Yards other) {
            plots = other.plots;
            truce = other.truce;
            deadCount = other.deadCount;
            visitorCount = other.visitorCount;
            for (int i = 0; i < MOST_DEAD; i++) {
                village[i] = other.village[i];
                kind[i] = other.kind[i];
                forgiven[i] = other.forgiven[i];
            }
            for (int p = 0; p < 2 * MOST_PLOTS; p++) {
                lying[p] = other.lying[p];
            }
            for (int v = 0; v < MOST_VISITORS; v++) {
                visited[v] = other.visited[v];
                minutes[v] = other.minutes[v];
            }
        }

        boolean hasDead(int i) {
            return i >= 0 && i < deadCount && i < MOST_DEAD;
        }

        boolean hasPlot(int p) {
            return p >= 0 && p < plots && p < MOST_PLOTS;
        }

        boolean hasVisitor(int v) {
            return v >= 0 && v < visitorCount && v < MOST_VISITORS;
        }

        int villageOf(int i) {
            return hasDead(i) ? village[i] : NONE;
        }

        int kindOf(int i) {
            return hasDead(i) ? kind[i] : NONE;
        }

        int forgivenOf(int i) {
            return hasDead(i) ? forgiven[i] : NONE;
        }

        int visitedBy(int v) {
            return hasVisitor(v) ? visited[v] : NONE;
        }

        int minutesOf(int v) {
            return hasVisitor(v) ? minutes[v] : NONE;
        }

        int whoLies(int yard, int p) {
            boolean isThere = yard >= 0 && yard <= 1 && p >= 0 && p < plots && p < MOST_PLOTS;
            return isThere ? lying[yard * MOST_PLOTS + p] : NONE;
        }

        int plotOf(int i) {
            return hasDead(i) ? placeIn(1 - village[i], i) : NONE;
        }

        int plotOfDouble(int i) {
            return hasDead(i) ? placeIn(village[i], i + DOUBLE) : NONE;
        }

        int placeIn(int yard, int who) {
            for (int p = 0; p < plots; p++) {
                if (whoLies(yard, p) == who) {
                    return p;
                }
            }
            return NONE;
        }

        void setForgiven(int i, int f) {
            if (hasDead(i)) {
                forgiven[i] = f;
            }
        }

        void addVisitor(int i, int c) {
            if (visitorCount >= 0 && visitorCount < MOST_VISITORS) {
                visited[visitorCount] = i;
                minutes[visitorCount] = c;
                visitorCount++;
            }
        }

        int addDead(int v, int k, int f) {
            int i = deadCount;
            if (i < 0 || i >= MOST_DEAD) {
                return NONE;
            }
            village[i] = v;
            kind[i] = k;
            forgiven[i] = f;
            deadCount++;
            return dig(i);
        }

        void digAllAnew() {
            freeAll();
            for (int i = 0; i < deadCount; i++) {
                dig(i);
            }
        }

        void swap(int yard, int p, int q) {
            int first = whoLies(yard, p);
            put(yard, p, whoLies(yard, q));
            put(yard, q, first);
        }

        int freePlot(int yard, int k, int f) {
            int p = k == CHILD ? 0 : (BEST_FORGIVEN - f) * plots / 10;
            int step = k == BITTER ? -1 : 1;
            for (int tried = 0; tried < plots; tried++) {
                if (whoLies(yard, p) == NONE) {
                    return p;
                }
                p += step;
                if (p >= plots) {
                    p = 0;
                } else if (p < 0) {
                    p = plots - 1;
                }
            }
            return NONE;
        }

        int owedOf(int v) {
            return Integer.bitCount(allOfVillage(v) & ~allWhoLie());
        }

        int forgivenOfAllWhoLie(int v) {
            int sum = 0;
            for (int i = 0; i < deadCount; i++) {
                if (villageOf(i) == v && plotOf(i) != NONE) {
                    sum += forgivenOf(i);
                }
            }
            return sum;
        }

        int allWhoLie() {
            int bits = 0;
            for (int i = 0; i < deadCount; i++) {
                if (plotOf(i) != NONE) {
                    bits |= 1 << i;
                }
            }
            return bits;
        }

        int allOfVillage(int v) {
            int bits = 0;
            for (int i = 0; i < deadCount; i++) {
                if (villageOf(i) == v) {
                    bits |= 1 << i;
                }
            }
            return bits;
        }

        int doubles() {
            int sum = 0;
            for (int i = 0; i < deadCount; i++) {
                if (plotOfDouble(i) != NONE) {
                    sum++;
                }
            }
            return sum;
        }

        // Each who lies wrong costs one change; but in a closed ring the last one comes right by itself.
        // Free plots are alike, so a row that ends in a free plot closes no ring.
        int fewestChanges(int yard, Yards due) {
            if (!sameLie(yard, due)) {
                return NONE;
            }
            int changes = 0;
            for (int p = 0; p < plots; p++) {
                int goal = goalOf(yard, p, due);
                if (goal != NONE && goal != p && !isLowestOfRing(yard, p, due)) {
                    changes++;
                }
            }
            return changes;
        }

        private boolean sameLie(int yard, Yards due) {
            for (int p = 0; p < plots; p++) {
                if (whoLies(yard, p) != NONE && goalOf(yard, p, due) == NONE) {
                    return false;
                }
                if (due.whoLies(yard, p) != NONE && due.goalOf(yard, p, this) == NONE) {
                    return false;
                }
            }
            return true;
        }

        private int goalOf(int yard, int p, Yards due) {
            int who = whoLies(yard, p);
            return who == NONE ? NONE : due.placeIn(yard, who);
        }

        private boolean isLowestOfRing(int yard, int p, Yards due) {
            int q = goalOf(yard, p, due);
            for (int steps = 0; steps < plots && q > p; steps++) {
                q = goalOf(yard, q, due);
            }
            return q == p;
        }

        private int dig(int i) {
            int v = villageOf(i);
            int k = kindOf(i);
            int f = forgivenOf(i);
            int p = freePlot(1 - v, k, f);
            put(1 - v, p, i);
            if (p != NONE && k == DROWNED) {
                put(v, freePlot(v, k, f), i + DOUBLE);
            }
            return p;
        }

        // Where there is no plot (NONE) nobody is put.
        private void put(int yard, int p, int who) {
            if (isSide(yard) && hasPlot(p)) {
                lying[yard * MOST_PLOTS + p] = who;
            }
        }

        private void freeAll() {
            for (int p = 0; p < 2 * MOST_PLOTS; p++) {
                lying[p] = NONE;
            }
        }
    }

    /** The letters that were written, and how they are told as items. */
    private static final class Text {
        private static final int MOST_NUMBERS = 3;

        int length;
        private int place;
        private boolean onlyYardsTold;
        private final char[] letters = new char[MOST_LETTERS];
        private final int[] numbers = new int[MOST_NUMBERS];

        void append(char letter) {
            if (length >= 0 && length < MOST_LETTERS) {
                letters[length] = letter;
                length++;
            }
        }

        /** Fills the yards, and answers the place of the fault, or NONE. */
        int tellAll(Yards yards) {
            yards.empty();
            place = 0;
            onlyYardsTold = true;
            for (int items = 0; items < MOST_LETTERS && place < length; items++) {
                int start = place;
                char letter = letterAt(start);
                place++;
                if (!readNumbers(numbersBehind(letter)) || !tellItem(letter, yards)) {
                    return start;
                }
            }
            return NONE;
        }

        private boolean tellItem(char letter, Yards yards) {
            int first = numbers[0];
            if (letter == 'y') {
                if (!onlyYardsTold || first < LEAST_PLOTS || first > MOST_PLOTS) {
                    return false;
                }
                yards.plots = first;
                return true;
            }
            onlyYardsTold = false;
            if (letter == 'd') {
                if (!isOneOfTheDead(first, numbers[1], numbers[2]) || yards.deadCount >= MOST_DEAD) {
                    return false;
                }
                yards.addDead(first, numbers[1], numbers[2]);
                return true;
            }
            if (letter == 'v') {
                if (!yards.hasDead(first) || !isMinutes(numbers[1]) || yards.visitorCount >= MOST_VISITORS) {
                    return false;
                }
                yards.addVisitor(first, numbers[1]);
                return true;
            }
            yards.truce = first;
            return first >= 1;
        }

        private static int numbersBehind(char letter) {
            switch (letter) {
                case 'y': return 1;
                case 'd': return 3;
                case 'v': return 2;
                case 't': return 1;
                default: return 0;
            }
        }

        private boolean readNumbers(int wanted) {
            for (int k = 0; k < wanted && k < MOST_NUMBERS; k++) {
                if (!isFigure(letterAt(place))) {
                    return false;
                }
                numbers[k] = readFigures();
                if (letterAt(place) != (k == wanted - 1 ? ';' : ',')) {
                    return false;
                }
                place++;
            }
            return wanted > 0;
        }

        private int readFigures() {
            int value = letterAt(place) - '0';
            place++;
            if (isFigure(letterAt(place))) {
                value = 10 * value + letterAt(place) - '0';
                place++;
            }
            return value;
        }

        private static boolean isFigure(char letter) {
            return letter >= '0' && letter <= '9';
        }

        // Behind the text stands a blank, which no item can use.
        private char letterAt(int at) {
            return at >= 0 && at < length && at < MOST_LETTERS ? letters[at] : ' ';
        }
    }

    /** Some yards put by, of which the latest is taken first. */
    private static final class Shelf {
        int size;
        private final Yards[] rows;

        Shelf(int most) {
            rows = new Yards[Math.max(most, 1)];
            for (int r = 0; r < rows.length; r++) {
                rows[r] = new Yards();
            }
        }

        void clear() {
            size = 0;
        }

        void put(Yards yards) {
            if (size >= rows.length) {
                dropOldest();
            }
            if (size >= 0 && size < rows.length && rows[size] != null) {
                rows[size].copyFrom(yards);
                size++;
            }
        }

        void take(Yards into) {
            if (size > 0 && size <= rows.length && rows[size - 1] != null) {
                size--;
                into.copyFrom(rows[size]);
            }
        }

        private void dropOldest() {
            Yards oldest = rows[0];
            for (int r = 1; r < rows.length; r++) {
                rows[r - 1] = rows[r];
            }
            rows[rows.length - 1] = oldest;
            size = rows.length - 1;
        }
    }

    /** The visitors who go, and how long they take over the bridge in one order or another. */
    private static final class Bridge {
        private static final int SETS = 1 << MOST_VISITORS;
        private static final int NEVER = 1000000;

        int goers;
        private int visitors;
        private final int[] village = new int[MOST_VISITORS];
        private final int[] stay = new int[MOST_VISITORS];
        private final int[] minutes = new int[MOST_VISITORS];
        // By who has gone, as bits: when all of them can be back.
        private final int[] soonest = new int[SETS];
        private final int[] order = new int[MOST_VISITORS];
        private final int[] bestOrder = new int[MOST_VISITORS];
        private int free;
        private int yonder;
        private int ready;

        void gather(Yards yards) {
            goers = 0;
            visitors = Math.min(yards.visitorCount, MOST_VISITORS);
            for (int v = 0; v < visitors; v++) {
                int i = yards.visitedBy(v);
                int plot = yards.plotOf(i);
                village[v] = yards.villageOf(i);
                stay[v] = plot + 1;
                minutes[v] = yards.minutesOf(v);
                if (plot != NONE) {
                    goers |= 1 << v;
                }
            }
        }

        int minutesByNumber(boolean backward) {
            begin();
            for (int n = 0; n < visitors; n++) {
                int v = backward ? visitors - 1 - n : n;
                if (isGoer(v)) {
                    sendOver(v);
                }
            }
            return whenAllAreBack();
        }

        void tryAllOrders() {
            for (int set = 0; set < SETS; set++) {
                soonest[set] = NEVER;
            }
            begin();
            tryBehind(0, 0);
        }

        int soonestOf(int set) {
            return set >= 0 && set < SETS ? soonest[set] : NEVER;
        }

        int inBestOrder(int k) {
            return k >= 0 && k < Integer.bitCount(goers) && k < MOST_VISITORS ? bestOrder[k] : NONE;
        }

        int fewestToStay(int truce) {
            int best = goers;
            for (int stayers = 0; stayers < SETS; stayers++) {
                boolean areGoers = (stayers & ~goers) == 0;
                boolean isFewer = Integer.bitCount(stayers) < Integer.bitCount(best);
                if (areGoers && isFewer && soonestOf(goers & ~stayers) <= truce) {
                    best = stayers;
                }
            }
            return best;
        }

        // Every beginning of an order is itself an order of those who have gone by then,
        // so one walk through all beginnings tells the soonest of every set.
        private void tryBehind(int depth, int gone) {
            note(depth, gone);
            if (depth < 0 || depth >= MOST_VISITORS) {
                return;
            }
            int freeThen = free;
            int yonderThen = yonder;
            int readyThen = ready;
            for (int v = 0; v < visitors; v++) {
                if (isGoer(v) && (gone >> v & 1) == 0) {
                    order[depth] = v;
                    sendOver(v);
                    tryBehind(depth + 1, gone | 1 << v);
                    free = freeThen;
                    yonder = yonderThen;
                    ready = readyThen;
                }
            }
        }

        // Orders come from the lowest on, so of several that are as soon the first one stays.
        private void note(int depth, int gone) {
            int end = whenAllAreBack();
            if (gone < 0 || gone >= SETS || end >= soonest[gone]) {
                return;
            }
            soonest[gone] = end;
            for (int k = 0; gone == goers && k < depth && k < MOST_VISITORS; k++) {
                bestOrder[k] = order[k];
            }
        }

        private boolean isGoer(int v) {
            return v >= 0 && v < MOST_VISITORS && (goers >> v & 1) == 1;
        }

        private boolean isSomebodyYonder() {
            return yonder >= 0 && yonder < MOST_VISITORS;
        }

        private void begin() {
            free = 0;
            yonder = NONE;
            ready = 0;
        }

        private void sendOver(int v) {
            if (!isGoer(v)) {
                return;
            }
            if (isSomebodyYonder() && village[yonder] == village[v]) {
                bringBack();
            }
            free += minutes[v];
            int over = free;
            bringBack();
            yonder = v;
            ready = over + stay[v];
        }

        private void bringBack() {
            free = whenAllAreBack();
            yonder = NONE;
        }

        private int whenAllAreBack() {
            return isSomebodyYonder() ? Math.max(free, ready) + minutes[yonder] : free;
        }
    }
}
