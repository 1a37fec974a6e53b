import java.util.Arrays;
import java.util.NoSuchElementException;

/** A hall of tokens: a net told as a text, its marks, and what can be said of both. */
public final class TokenHall {
    public static final int NONE = -1;
    public static final int FULL = -2;

    private static final int SIDE = 8;
    private static final int CELLS = SIDE * SIDE;
    private static final int TAPE_ROOM = 600;
    private static final int CLAUSES_MOST = 60;
    private static final int OPEN_MOST = 6;
    private static final int MARKS_MOST = 99;
    private static final int NO_ROOM_TOLD = 999;
    private static final int ARC_MOST = 5;
    private static final int COST_MOST = 99;
    private static final int LASTS_MOST = 20;
    private static final int NUMBER_MOST = 9999;
    private static final int ROW_ROOM = 40;
    private static final int IMAGES_MOST = 3;
    private static final int STATES_MOST = 3000;
    private static final int TREE_MOST = 1000;
    private static final int MOMENTS_MOST = 2000;
    private static final int LOTS_MOST = 1000;
    private static final int LENGTH_MOST = 20;

    private final int[] tape = new int[TAPE_ROOM];
    private final Reader reader = new Reader();
    private final Stand now = new Stand();
    private final Stand[] images = new Stand[IMAGES_MOST];
    private final Base keptBase = new Base();
    private final Base roundBase = new Base();
    private final Shape shape = new Shape();
    private final int[] trial = new int[SIDE];
    private Net net = new Net();
    private Net draft = new Net();
    private int tapeSize;
    private int faultAt = NONE;
    private int imageCount;
    // Grows whenever marks or net change: what was found out for an older one is found out anew.
    private int version;
    // The large searches are made when they are first asked for, and used again from then on.
    private Graph graph;
    private Study study;
    private Tree tree;
    private Works works;
    private Walk walk;

    public TokenHall() {
        for (int i = 0; i < IMAGES_MOST; i++) {
            images[i] = new Stand();
        }
    }

    public int feed(int a, int b, int c, int d, int e) {
        if (tapeSize + 20 > TAPE_ROOM) {
            return NONE;
        }
        tapeNumber(a);
        tapeNumber(b);
        tapeNumber(c);
        tapeNumber(d);
        tapeNumber(e);
        return tapeSize;
    }

    public int net(int n) throws IllegalArgumentException {
        needWithin(n, 0, tapeSize);
        tapeSize = 0;
        int fault = reader.readNet(tape, n, draft);
        faultAt = reader.faultAt;
        if (fault != 0) {
            return fault - 10;
        }
        Net old = net;
        net = draft;
        draft = old;
        net.settle();
        now.begin(net);
        imageCount = 0;
        keptBase.solve(net, false);
        roundBase.solve(net, true);
        version++;
        return net.places;
    }

    public int fault() {
        return faultAt;
    }

    public int told(int what) throws IllegalArgumentException {
        needWithin(what, 0, 1);
        return what == 0 ? net.places : net.acts;
    }

    public int arc(int act, int place, int what)
            throws NoSuchElementException, IndexOutOfBoundsException, IllegalArgumentException {
        needAct(act);
        needPlace(place);
        needWithin(what, 0, 2);
        int cell = act * SIDE + place;
        if (what == 0) {
            return net.takes[cell];
        }
        return what == 1 ? net.gives[cell] : net.bars[cell];
    }

    public int act(int act, int what) throws NoSuchElementException, IllegalArgumentException {
        needAct(act);
        needWithin(what, 0, 2);
        if (what == 0) {
            return net.cost[act];
        }
        if (what == 1) {
            return net.lasts[act];
        }
        return net.hasCondition(act) ? 1 : 0;
    }

    public int marks(int place, int what) throws IndexOutOfBoundsException, IllegalArgumentException {
        needPlace(place);
        needWithin(what, 0, 1);
        return what == 0 ? now.marks[place] : net.room[place];
    }

    public int put(int place, int n) throws IndexOutOfBoundsException, IllegalArgumentException {
        needPlace(place);
        needWithin(n, 0, Math.min(MARKS_MOST, net.room[place]));
        int was = now.marks[place];
        now.marks[place] = n;
        version++;
        return was;
    }

    public int may(int act) throws NoSuchElementException {
        needAct(act);
        return net.errsBy(act, now.marks);
    }

    public int fire(int act) throws NoSuchElementException {
        needAct(act);
        int error = net.errsBy(act, now.marks);
        if (error != 0) {
            return -error;
        }
        net.carryOut(act, now.marks);
        version++;
        return 1;
    }

    public int row(int act) throws NoSuchElementException {
        needAct(act);
        if (now.rowSize >= ROW_ROOM) {
            return -1;
        }
        now.row[now.rowSize] = act;
        now.rowSize++;
        return now.rowSize;
    }

    public int clear() {
        int were = now.rowSize;
        now.rowSize = 0;
        return were;
    }

    public int judge() {
        System.arraycopy(now.marks, 0, trial, 0, SIDE);
        for (int i = 0; i < now.rowSize; i++) {
            int error = net.errsBy(now.row[i], trial);
            if (error != 0) {
                return 10 * i + error;
            }
            net.carryOut(now.row[i], trial);
        }
        return NONE;
    }

    public int states(int most) throws IllegalArgumentException {
        needMost(most);
        Graph g = explored(most);
        return g.isBeyond(most) ? FULL : g.size();
    }

    public int state(int most, int k, int place) throws IndexOutOfBoundsException, IllegalArgumentException {
        needPlace(place);
        needMost(most);
        Graph g = explored(most);
        if (g.isBeyond(most)) {
            return FULL;
        }
        return k < 0 || k >= g.size() ? NONE : g.marksIn(k, place);
    }

    public int dead(int most, int i) throws IllegalArgumentException {
        needMost(most);
        Graph g = explored(most);
        return g.isBeyond(most) ? FULL : g.deadState(i);
    }

    public int lives(int most, int act) throws NoSuchElementException, IllegalArgumentException {
        needAct(act);
        needMost(most);
        Graph g = explored(most);
        return g.isBeyond(most) ? FULL : tied(g).liveliness(act);
    }

    public int home(int most, int what) throws IllegalArgumentException {
        needMost(most);
        needWithin(what, 0, 2);
        Graph g = explored(most);
        if (g.isBeyond(most)) {
            return FULL;
        }
        Study k = tied(g);
        if (what == 0) {
            return k.homes();
        }
        if (what == 1) {
            return k.homes() == g.size() ? 1 : 0;
        }
        return k.knotCount();
    }

    public int most(int most, int place) throws IndexOutOfBoundsException, IllegalArgumentException {
        needPlace(place);
        needMost(most);
        Graph g = explored(most);
        return g.isBeyond(most) ? FULL : g.greatest(place);
    }

    public int goal(int place, int n) throws IndexOutOfBoundsException, IllegalArgumentException {
        needPlace(place);
        needWithin(n, 0, MARKS_MOST);
        int was = now.goals[place];
        now.goals[place] = n;
        return was;
    }

    public int way(int most, boolean above) throws IllegalArgumentException {
        needMost(most);
        Graph g = explored(most);
        int target = g.firstMeeting(most, now.goals, above);
        return target < 0 ? target : g.depthOf(target);
    }

    public int step(int most, boolean above, int k) throws IllegalArgumentException {
        needMost(most);
        Graph g = explored(most);
        int target = g.firstMeeting(most, now.goals, above);
        return target < 0 ? target : g.actOnWay(target, k);
    }

    public int cheapest(int most, boolean above) throws IllegalArgumentException {
        needMost(most);
        Graph g = explored(most);
        return g.isBeyond(most) ? FULL : studied(g).leastCost(now.goals, above);
    }

    public long rows(int most, int n) throws IllegalArgumentException {
        needMost(most);
        needWithin(n, 0, LENGTH_MOST);
        Graph g = explored(most);
        return g.isBeyond(most) ? FULL : studied(g).rowsOfLength(n);
    }

    public int base(int what) throws IllegalArgumentException {
        needWithin(what, 0, 1);
        return what == 0 ? keptBase.rowCount : roundBase.rowCount;
    }

    public long kept(int i, int place) throws IndexOutOfBoundsException, IllegalArgumentException {
        needPlace(place);
        needWithin(i, 0, keptBase.rowCount - 1);
        return keptBase.rows[i * SIDE + place];
    }

    public long round(int i, int act) throws NoSuchElementException, IllegalArgumentException {
        needAct(act);
        needWithin(i, 0, roundBase.rowCount - 1);
        return roundBase.rows[i * SIDE + act];
    }

    public boolean never() {
        return !keptBase.sameSums(now.marks, now.goals);
    }

    public int bound(int place) throws IndexOutOfBoundsException {
        needPlace(place);
        Tree t = grown();
        return t.size() > TREE_MOST ? FULL : t.greatest(place);
    }

    public int growth() {
        int size = grown().size();
        return size > TREE_MOST ? FULL : size;
    }

    public int siphon(boolean trap, int i) throws IllegalArgumentException {
        if (i < 0) {
            throw new IllegalArgumentException("no such number");
        }
        return shape.leastSet(net, trap, i);
    }

    public boolean is(int bits, int what) throws IllegalArgumentException {
        needWithin(bits, 1, (1 << net.places) - 1);
        needWithin(what, 0, 2);
        if (what == 2) {
            return Shape.holdsIn(net, bits, false) && Shape.guards(net, bits, now.marks);
        }
        return Shape.holdsIn(net, bits, what == 1);
    }

    public int looks() {
        return Shape.kindOf(net);
    }

    public int once() {
        int able = net.ableActs(now.marks);
        int best = 0;
        for (int set = 1; set < 1 << net.acts; set++) {
            boolean larger = Integer.bitCount(set) > Integer.bitCount(best);
            if ((set & ~able) == 0 && larger && net.allTaken(set, now.marks)) {
                best = set;
            }
        }
        return best;
    }

    public boolean two(int act, int other, int what) throws NoSuchElementException, IllegalArgumentException {
        needAct(act);
        needAct(other);
        needWithin(what, 0, 1);
        if (act == other) {
            throw new IllegalArgumentException("the two acts are one");
        }
        if (what == 1) {
            return mayFollow(act, other) && mayFollow(other, act);
        }
        boolean both = net.fits(act, now.marks, 0) && net.fits(other, now.marks, 0);
        return both && !net.allTaken(1 << act | 1 << other, now.marks);
    }

    public int clock(int moments, int place) throws IndexOutOfBoundsException, IllegalArgumentException {
        needPlace(place);
        needWithin(moments, 0, MOMENTS_MOST);
        return working(moments).marksAhead(moments, place);
    }

    public int began(int moments, int act) throws NoSuchElementException, IllegalArgumentException {
        needAct(act);
        needWithin(moments, 0, MOMENTS_MOST);
        return working(moments).begunAhead(moments, act);
    }

    public int period(int what) throws IllegalArgumentException {
        needWithin(what, 0, 1);
        Works w = working(MOMENTS_MOST);
        return what == 0 ? w.from : w.length;
    }

    public int beat(int act) throws NoSuchElementException {
        needAct(act);
        return working(MOMENTS_MOST).begunInPeriod(act);
    }

    public int lots(int n, int seed) throws IllegalArgumentException {
        needWithin(n, 1, LOTS_MOST);
        return walker().byLots(net, now.marks, n, seed);
    }

    public int lot(int n, int seed, int place) throws IndexOutOfBoundsException, IllegalArgumentException {
        needPlace(place);
        needWithin(n, 1, LOTS_MOST);
        Walk w = walker();
        w.byLots(net, now.marks, n, seed);
        return w.marks[place];
    }

    public int often(int most, int act) throws NoSuchElementException, IllegalArgumentException {
        needAct(act);
        needMost(most);
        Graph g = explored(most);
        return g.isBeyond(most) ? FULL : tied(g).mostDone(act);
    }

    public int needed(int most, boolean above, int act) throws NoSuchElementException, IllegalArgumentException {
        needAct(act);
        needMost(most);
        Graph g = explored(most);
        if (g.isBeyond(most)) {
            return FULL;
        }
        if (g.firstMeeting(most, now.goals, above) == NONE) {
            return NONE;
        }
        return studied(g).comesWithout(act, now.goals, above) ? 0 : 1;
    }

    public int deepest(int most, int what) throws IllegalArgumentException {
        needMost(most);
        needWithin(what, 0, 1);
        Graph g = explored(most);
        if (g.isBeyond(most)) {
            return FULL;
        }
        int state = g.firstDeepest();
        return what == 0 ? g.depthOf(state) : state;
    }

    public int first(int what) throws IllegalArgumentException {
        needWithin(what, 0, 2);
        Walk w = walker();
        if (w.version != version) {
            w.leastFirst(net, now.marks, version);
        }
        if (w.endless) {
            return FULL;
        }
        if (what == 0) {
            return w.ends;
        }
        return what == 1 ? w.came : w.later;
    }

    public int alike() {
        return shape.countLikeRows(net);
    }

    public int image() {
        if (imageCount >= IMAGES_MOST) {
            return -1;
        }
        images[imageCount].copyFrom(now);
        imageCount++;
        return imageCount;
    }

    public int restore() {
        if (imageCount <= 0) {
            return -1;
        }
        imageCount--;
        now.copyFrom(images[imageCount]);
        version++;
        return imageCount;
    }

    public int count(int what) {
        if (what == 0) {
            return now.rowSize;
        }
        if (what == 1) {
            return imageCount;
        }
        return what == 2 ? tapeSize : NONE;
    }

    private void tapeNumber(int number) {
        for (int shift = 24; shift >= 0 && tapeSize < TAPE_ROOM; shift -= 8) {
            tape[tapeSize] = number >>> shift & 255;
            tapeSize++;
        }
    }

    private void needAct(int act) {
        if (act < 0 || act >= net.acts) {
            throw new NoSuchElementException("no such act");
        }
    }

    private void needPlace(int place) {
        if (place < 0 || place >= net.places) {
            throw new IndexOutOfBoundsException("no such place");
        }
    }

    private static void needWithin(int number, int least, int greatest) {
        if (number < least || number > greatest) {
            throw new IllegalArgumentException("no such number");
        }
    }

    private static void needMost(int most) {
        needWithin(most, 1, STATES_MOST);
    }

    private boolean mayFollow(int ahead, int act) {
        if (!net.fits(ahead, now.marks, 0)) {
            return false;
        }
        System.arraycopy(now.marks, 0, trial, 0, SIDE);
        net.carryOut(ahead, trial);
        return net.fits(act, trial, 0);
    }

    private Graph explored(int most) {
        if (graph == null) {
            graph = new Graph();
        }
        if (graph.version != version) {
            graph.begin(net, now.marks, version);
        }
        graph.explore(most);
        return graph;
    }

    private Study studied(Graph g) {
        if (study == null) {
            study = new Study();
        }
        study.graph = g;
        return study;
    }

    private Study tied(Graph g) {
        Study s = studied(g);
        if (s.version != version) {
            s.tie(version);
        }
        return s;
    }

    private Tree grown() {
        if (tree == null) {
            tree = new Tree();
        }
        if (tree.version != version) {
            tree.grow(net, now.marks, version);
        }
        return tree;
    }

    private Works working(int moments) {
        if (works == null) {
            works = new Works();
        }
        if (works.version != version) {
            works.begin(net, now.marks, version);
        }
        works.reach(moments);
        return works;
    }

    private Walk walker() {
        if (walk == null) {
            walk = new Walk();
        }
        return walk;
    }

    /** What a text tells: places, acts with their arcs, and conditions as code for a stack. */
    private static final class Net {
        static final int LACKS = 1;
        static final int BARRED = 2;
        static final int UNMET = 3;
        static final int CROWDED = 4;

        static final int OP_NUMBER = 0;
        static final int OP_MARKS = 1;
        static final int OP_NOT = 2;
        static final int OP_ADD = 3;
        static final int OP_SUBTRACT = 4;
        static final int OP_LESS = 5;
        static final int OP_MORE = 6;
        static final int OP_EQUAL = 7;
        static final int OP_AND = 8;
        static final int OP_OR = 9;

        // Six open brackets keep two numbers each at most, and the innermost B five: 17 in all.
        private static final int STACK_ROOM = 32;

        int places;
        int acts;
        final int[] told = new int[SIDE];
        final int[] room = new int[SIDE];
        final int[] cost = new int[SIDE];
        final int[] lasts = new int[SIDE];
        final int[] takes = new int[CELLS];
        final int[] gives = new int[CELLS];
        final int[] bars = new int[CELLS];
        final int[] takesFrom = new int[SIDE];
        final int[] givesTo = new int[SIDE];
        // The most marks with which neither bar nor room keeps an act from being done.
        private final int[] highest = new int[CELLS];
        private final int[] codeFrom = new int[SIDE];
        private final int[] codeTo = new int[SIDE];
        private final int[] code = new int[TAPE_ROOM];
        private final int[] stack = new int[STACK_ROOM];
        private int codeSize;

        void wipe() {
            places = 0;
            acts = 0;
            codeSize = 0;
            Arrays.fill(takes, 0);
            Arrays.fill(gives, 0);
            Arrays.fill(bars, 0);
        }

        void addPlace(int marks, int roomFor) {
            if (places < SIDE) {
                told[places] = marks;
                room[places] = roomFor;
                places++;
            }
        }

        void addAct(int price) {
            if (acts < SIDE) {
                cost[acts] = price;
                lasts[acts] = 0;
                codeFrom[acts] = 0;
                codeTo[acts] = 0;
                acts++;
            }
        }

        boolean hasCondition(int act) {
            return codeTo[act] > codeFrom[act];
        }

        int codeEnd() {
            return codeSize;
        }

        void emit(int op, int number) {
            if (codeSize < TAPE_ROOM) {
                code[codeSize] = op << 16 | number;
                codeSize++;
            }
        }

        void conditionOf(int act, int start) {
            codeFrom[act] = start;
            codeTo[act] = codeSize;
        }

        /** Prepares what the searches ask again and again. */
        void settle() {
            for (int act = 0; act < acts; act++) {
                takesFrom[act] = 0;
                givesTo[act] = 0;
                for (int p = 0; p < places; p++) {
                    int cell = act * SIDE + p;
                    takesFrom[act] |= takes[cell] > 0 ? 1 << p : 0;
                    givesTo[act] |= gives[cell] > 0 ? 1 << p : 0;
                    int byRoom = room[p] + takes[cell] - gives[cell];
                    highest[cell] = bars[cell] > 0 ? Math.min(byRoom, bars[cell] - 1) : byRoom;
                }
            }
        }

        int errsBy(int act, int[] marks) {
            int row = act * SIDE;
            for (int p = 0; p < places; p++) {
                if (marks[p] < takes[row + p]) {
                    return LACKS;
                }
            }
            for (int p = 0; p < places; p++) {
                if (bars[row + p] > 0 && marks[p] >= bars[row + p]) {
                    return BARRED;
                }
            }
            if (hasCondition(act) && !conditionHolds(act, marks, 0)) {
                return UNMET;
            }
            for (int p = 0; p < places; p++) {
                if (marks[p] - takes[row + p] + gives[row + p] > room[p]) {
                    return CROWDED;
                }
            }
            return 0;
        }

        /** Whether an act may be done with the marks that stand in a row of cells from a place on. */
        boolean fits(int act, int[] cells, int at) {
            int row = act * SIDE;
            for (int p = 0; p < places; p++) {
                int marks = cells[at + p];
                if (marks < takes[row + p] || marks > highest[row + p]) {
                    return false;
                }
            }
            return !hasCondition(act) || conditionHolds(act, cells, at);
        }

        int ableActs(int[] marks) {
            int able = 0;
            for (int act = 0; act < acts; act++) {
                able |= fits(act, marks, 0) ? 1 << act : 0;
            }
            return able;
        }

        /** Whether the takings of a set of acts are there together. */
        boolean allTaken(int set, int[] marks) {
            for (int p = 0; p < places; p++) {
                int sum = 0;
                for (int act = 0; act < acts; act++) {
                    sum += (set >> act & 1) * takes[act * SIDE + p];
                }
                if (sum > marks[p]) {
                    return false;
                }
            }
            return true;
        }

        void carryOut(int act, int[] marks) {
            takeAway(act, marks);
            giveOut(act, marks);
        }

        void takeAway(int act, int[] marks) {
            for (int p = 0; p < places; p++) {
                marks[p] -= takes[act * SIDE + p];
            }
        }

        void giveOut(int act, int[] marks) {
            for (int p = 0; p < places; p++) {
                marks[p] += gives[act * SIDE + p];
            }
        }

        private boolean conditionHolds(int act, int[] cells, int at) {
            int top = 0;
            for (int i = codeFrom[act]; i < codeTo[act] && top < STACK_ROOM; i++) {
                int op = code[i] >> 16;
                int number = code[i] & 0xFFFF;
                if (op <= OP_MARKS) {
                    stack[top] = op == OP_NUMBER ? number : cells[at + number];
                    top++;
                } else if (op == OP_NOT && top > 0) {
                    stack[top - 1] = 1 - stack[top - 1];
                } else if (top > 1) {
                    top--;
                    stack[top - 1] = joined(op, stack[top - 1], stack[top]);
                }
            }
            return stack[0] != 0;
        }

        private static int joined(int op, int left, int right) {
            switch (op) {
                case OP_ADD:
                    return left + right;
                case OP_SUBTRACT:
                    return left - right;
                case OP_LESS:
                    return left < right ? 1 : 0;
                case OP_MORE:
                    return left > right ? 1 : 0;
                case OP_EQUAL:
                    return left == right ? 1 : 0;
                case OP_AND:
                    return left & right;
                default:
                    return left | right;
            }
        }
    }

    /** Reads a net's text from the left and stops at its first fault. */
    private static final class Reader {
        private static final int END = 0;
        private static final int WORD = 1;
        private static final int NUMBER = 2;
        private static final int SIGN = 3;

        private static final int CANNOT_STAND = 1;
        private static final int NO_SUCH_NUMBER = 2;
        private static final int TOO_MANY = 3;
        private static final int NOTHING_TOLD = 4;

        // Above every number that a text may tell, and far from the end of int.
        private static final int BIG = 1000000;

        int faultAt = NONE;
        private int fault;
        private int[] text;
        private int size;
        private int end;
        private int at;
        private int kind;
        private int value;
        private int got;
        private int open;
        private Net net;

        /** The fault's number, 0 if the text is a net that now stands in the given one. */
        int readNet(int[] tape, int n, Net into) {
            text = tape;
            size = n;
            net = into;
            net.wipe();
            end = 0;
            open = 0;
            fault = 0;
            faultAt = NONE;
            advance();
            for (int i = 0; i <= CLAUSES_MOST && kind != END && fault == 0; i++) {
                readClause(i);
            }
            if (fault == 0 && (net.places == 0 || net.acts == 0)) {
                fails(NOTHING_TOLD, size);
            }
            return fault;
        }

        private boolean fails(int number, int where) {
            fault = number;
            faultAt = where;
            return false;
        }

        private void advance() {
            at = end;
            while (at < size && text[at] == ' ') {
                at++;
            }
            end = at;
            kind = END;
            value = 0;
            while (end < size && text[end] >= '0' && text[end] <= '9') {
                kind = NUMBER;
                value = Math.min(BIG, value * 10 + text[end] - '0');
                end++;
            }
            while (end < size && kind != NUMBER && text[end] >= 'a' && text[end] <= 'z') {
                kind = WORD;
                end++;
            }
            if (at < size && kind == END) {
                kind = SIGN;
                value = text[at];
                end = at + 1;
            }
        }

        private boolean isWord(String word) {
            if (kind != WORD || end - at != word.length()) {
                return false;
            }
            for (int i = 0; i < word.length(); i++) {
                if (text[at + i] != word.charAt(i)) {
                    return false;
                }
            }
            return true;
        }

        private boolean isSign(char sign) {
            return kind == SIGN && value == sign;
        }

        private boolean takeSign(char sign) {
            if (!isSign(sign)) {
                return fails(CANNOT_STAND, at);
            }
            advance();
            return true;
        }

        private boolean takeNumber(int least, int greatest) {
            if (kind != NUMBER) {
                return fails(CANNOT_STAND, at);
            }
            if (value < least || value > greatest) {
                return fails(NO_SUCH_NUMBER, at);
            }
            got = value;
            advance();
            return true;
        }

        private boolean readClause(int number) {
            boolean known = isWord("place") || isWord("act") || isWord("lasts") || isWord("if") || arcsOf() != null;
            if (!known) {
                return fails(CANNOT_STAND, at);
            }
            if (number >= CLAUSES_MOST) {
                return fails(TOO_MANY, at);
            }
            boolean fine;
            if (isWord("place")) {
                fine = readPlace();
            } else if (isWord("act")) {
                fine = readAct();
            } else if (isWord("lasts")) {
                fine = readLasts();
            } else if (isWord("if")) {
                fine = readIf();
            } else {
                fine = readArc();
            }
            return fine && takeSign(';');
        }

        /** The arcs that the word tells of; null if it tells of none. */
        private int[] arcsOf() {
            if (isWord("in")) {
                return net.takes;
            }
            if (isWord("out")) {
                return net.gives;
            }
            return isWord("bar") ? net.bars : null;
        }

        private boolean readPlace() {
            if (net.places >= SIDE) {
                return fails(TOO_MANY, at);
            }
            advance();
            if (!takeNumber(0, MARKS_MOST)) {
                return false;
            }
            int marks = got;
            int room = NO_ROOM_TOLD;
            if (isWord("room")) {
                advance();
                if (!takeNumber(Math.max(1, marks), MARKS_MOST)) {
                    return false;
                }
                room = got;
            }
            net.addPlace(marks, room);
            return true;
        }

        private boolean readAct() {
            if (net.acts >= SIDE) {
                return fails(TOO_MANY, at);
            }
            advance();
            if (!takeNumber(0, COST_MOST)) {
                return false;
            }
            net.addAct(got);
            return true;
        }

        private boolean readLasts() {
            advance();
            if (!takeNumber(0, net.acts - 1)) {
                return false;
            }
            int act = got;
            if (!takeNumber(0, LASTS_MOST)) {
                return false;
            }
            net.lasts[act] = got;
            return true;
        }

        private boolean readArc() {
            int[] arcs = arcsOf();
            int greatest = isWord("bar") ? MARKS_MOST : ARC_MOST;
            advance();
            if (!takeNumber(0, net.acts - 1)) {
                return false;
            }
            int cell = got * SIDE;
            if (!takeNumber(0, net.places - 1)) {
                return false;
            }
            cell += got;
            if (!takeNumber(1, greatest) || arcs == null) {
                return false;
            }
            arcs[cell] = got;
            return true;
        }

        private boolean readIf() {
            advance();
            if (!takeNumber(0, net.acts - 1)) {
                return false;
            }
            int act = got;
            int start = net.codeEnd();
            if (!readEither()) {
                return false;
            }
            net.conditionOf(act, start);
            return true;
        }

        /** One more of ( [ and not stands open from here on, if there are not too many. */
        private boolean opensOne() {
            if (open >= OPEN_MOST) {
                return fails(TOO_MANY, at);
            }
            open++;
            advance();
            return true;
        }

        private boolean readEither() {
            boolean fine = readBoth();
            for (int i = 0; i < size && fine && isWord("or"); i++) {
                advance();
                fine = readBoth();
                net.emit(Net.OP_OR, 0);
            }
            return fine;
        }

        private boolean readBoth() {
            boolean fine = readSingle();
            for (int i = 0; i < size && fine && isWord("and"); i++) {
                advance();
                fine = readSingle();
                net.emit(Net.OP_AND, 0);
            }
            return fine;
        }

        private boolean readSingle() {
            if (isWord("not")) {
                if (!opensOne() || !readSingle()) {
                    return false;
                }
                open--;
                net.emit(Net.OP_NOT, 0);
                return true;
            }
            if (isSign('[')) {
                if (!opensOne() || !readEither() || !takeSign(']')) {
                    return false;
                }
                open--;
                return true;
            }
            if (!readSum()) {
                return false;
            }
            int op = Net.OP_EQUAL;
            if (isSign('<')) {
                op = Net.OP_LESS;
            } else if (isSign('>')) {
                op = Net.OP_MORE;
            } else if (!isSign('=')) {
                return fails(CANNOT_STAND, at);
            }
            advance();
            if (!readSum()) {
                return false;
            }
            net.emit(op, 0);
            return true;
        }

        private boolean readSum() {
            boolean fine = readUnit();
            for (int i = 0; i < size && fine && (isSign('+') || isSign('-')); i++) {
                int op = isSign('+') ? Net.OP_ADD : Net.OP_SUBTRACT;
                advance();
                fine = readUnit();
                net.emit(op, 0);
            }
            return fine;
        }

        private boolean readUnit() {
            if (isSign('(')) {
                if (!opensOne() || !readSum() || !takeSign(')')) {
                    return false;
                }
                open--;
                return true;
            }
            boolean ofPlace = isWord("marks");
            if (ofPlace) {
                advance();
            }
            if (!takeNumber(0, ofPlace ? net.places - 1 : NUMBER_MOST)) {
                return false;
            }
            net.emit(ofPlace ? Net.OP_MARKS : Net.OP_NUMBER, got);
            return true;
        }
    }

    /** What changes from call to call and what an image keeps. */
    private static final class Stand {
        final int[] marks = new int[SIDE];
        final int[] goals = new int[SIDE];
        final int[] row = new int[ROW_ROOM];
        int rowSize;

        void begin(Net net) {
            System.arraycopy(net.told, 0, marks, 0, SIDE);
            Arrays.fill(goals, 0);
            rowSize = 0;
        }

        void copyFrom(Stand other) {
            System.arraycopy(other.marks, 0, marks, 0, SIDE);
            System.arraycopy(other.goals, 0, goals, 0, SIDE);
            System.arraycopy(other.row, 0, row, 0, ROW_ROOM);
            rowSize = other.rowSize;
        }
    }

    /** The one base of the rows whose sums with all changes are 0, in reduced form. */
    private static final class Base {
        // Euclid's steps for numbers of 64 bits stay below this.
        private static final int EUCLID_MOST = 100;

        final long[] rows = new long[CELLS];
        int rowCount;
        private final long[] table = new long[CELLS];
        private final int[] pivotRow = new int[SIDE];
        private int equations;
        private int unknowns;

        /** Of the acts' changes (rounds) or the places' (kept), all minors of which fit in 31 bits. */
        void solve(Net net, boolean rounds) {
            equations = rounds ? net.places : net.acts;
            unknowns = rounds ? net.acts : net.places;
            for (int e = 0; e < equations; e++) {
                for (int u = 0; u < unknowns; u++) {
                    int cell = rounds ? u * SIDE + e : e * SIDE + u;
                    table[e * SIDE + u] = net.gives[cell] - net.takes[cell];
                }
            }
            reduce();
            rowCount = 0;
            for (int u = 0; u < unknowns; u++) {
                if (pivotRow[u] == NONE) {
                    writeRow(u);
                    rowCount++;
                }
            }
        }

        boolean sameSums(int[] marks, int[] others) {
            for (int i = 0; i < rowCount; i++) {
                long sum = 0;
                for (int u = 0; u < unknowns; u++) {
                    sum += rows[i * SIDE + u] * (marks[u] - others[u]);
                }
                if (sum != 0) {
                    return false;
                }
            }
            return true;
        }

        /** From the right to the left, so that each free unknown leads its own row of the base. */
        private void reduce() {
            int rank = 0;
            for (int u = unknowns - 1; u >= 0; u--) {
                int found = rowWith(u, rank);
                pivotRow[u] = NONE;
                if (found != NONE) {
                    swapRows(found, rank);
                    pivotRow[u] = rank;
                    clearColumn(u, rank);
                    rank++;
                }
            }
        }

        private int rowWith(int u, int from) {
            for (int e = from; e < equations; e++) {
                if (table[e * SIDE + u] != 0) {
                    return e;
                }
            }
            return NONE;
        }

        private void swapRows(int one, int other) {
            for (int u = 0; u < unknowns; u++) {
                long kept = table[one * SIDE + u];
                table[one * SIDE + u] = table[other * SIDE + u];
                table[other * SIDE + u] = kept;
            }
        }

        private void clearColumn(int u, int pivot) {
            long lead = table[pivot * SIDE + u];
            for (int e = 0; e < equations; e++) {
                long here = table[e * SIDE + u];
                if (e != pivot && here != 0) {
                    long common = divisor(lead, here);
                    combine(e, lead / common, pivot, here / common);
                }
            }
        }

        private void combine(int row, long times, int pivot, long less) {
            long common = 0;
            for (int u = 0; u < unknowns; u++) {
                int cell = row * SIDE + u;
                table[cell] = table[cell] * times - table[pivot * SIDE + u] * less;
                common = divisor(common, table[cell]);
            }
            for (int u = 0; u < unknowns && common > 1; u++) {
                table[row * SIDE + u] /= common;
            }
        }

        private void writeRow(int free) {
            int to = rowCount * SIDE;
            long scale = 1;
            for (int u = free + 1; u < unknowns; u++) {
                if (pivotRow[u] != NONE) {
                    long lead = table[pivotRow[u] * SIDE + u];
                    long part = Math.abs(lead) / divisor(lead, table[pivotRow[u] * SIDE + free]);
                    scale = scale / divisor(scale, part) * part;
                }
            }
            for (int u = 0; u < unknowns; u++) {
                rows[to + u] = 0;
                if (pivotRow[u] != NONE) {
                    long lead = table[pivotRow[u] * SIDE + u];
                    long here = table[pivotRow[u] * SIDE + free];
                    rows[to + u] = lead == 0 ? 0 : -(here * scale / lead);
                }
            }
            rows[to + free] = scale;
        }

        /** The greatest that divides both, never 0. */
        private static long divisor(long one, long other) {
            long a = Math.abs(one);
            long b = Math.abs(other);
            for (int i = 0; i < EUCLID_MOST && b != 0; i++) {
                long rest = a % b;
                a = b;
                b = rest;
            }
            return a == 0 ? 1 : a;
        }
    }

    /** Rows of numbers, each once, found by what stands in them. */
    private static final class Table {
        final int[] cells;
        int width;
        int size;
        private final int capacity;
        private final int[] slots;

        /** Slots must be a power of two and more than the rows. */
        Table(int widest, int rows, int slotCount) {
            cells = new int[widest * rows];
            capacity = rows;
            slots = new int[slotCount];
        }

        void wipe(int newWidth) {
            width = newWidth;
            size = 0;
            Arrays.fill(slots, NONE);
        }

        /** The number of the row that is alike, which is the last one if there was none such. */
        int enter(int[] row) {
            int mask = slots.length - 1;
            int slot = spread(row) & mask;
            for (int i = 0; i <= mask && slots[slot] != NONE; i++) {
                if (isAlike(slots[slot], row)) {
                    return slots[slot];
                }
                slot = slot + 1 & mask;
            }
            if (size >= capacity) {
                return NONE;
            }
            System.arraycopy(row, 0, cells, size * width, width);
            slots[slot] = size;
            size++;
            return size - 1;
        }

        int greatestIn(int column) {
            int greatest = 0;
            for (int i = 0; i < size; i++) {
                greatest = Math.max(greatest, cells[i * width + column]);
            }
            return greatest;
        }

        private boolean isAlike(int number, int[] row) {
            for (int i = 0; i < width; i++) {
                if (cells[number * width + i] != row[i]) {
                    return false;
                }
            }
            return true;
        }

        private int spread(int[] row) {
            int hash = 7;
            for (int i = 0; i < width; i++) {
                hash = (hash + row[i]) * 0x9E3779B1;
                hash ^= hash >>> 15;
            }
            return hash;
        }
    }

    /** The states that can come, in the order in which they come, with all that leads on from them. */
    private static final class Graph {
        // The last state that is looked at may bring one by each act beyond the told number.
        static final int ROWS = STATES_MOST + SIDE;

        int version = NONE;
        Net net;
        final int[] leads = new int[ROWS * SIDE];
        private final Table table = new Table(SIDE, ROWS, 8192);
        private final int[] depth = new int[ROWS];
        private final int[] from = new int[ROWS];
        private final int[] by = new int[ROWS];
        private final int[] fresh = new int[SIDE];
        private int looked;

        void begin(Net ofNet, int[] marks, int ofVersion) {
            net = ofNet;
            version = ofVersion;
            table.wipe(net.places);
            looked = 0;
            table.enter(marks);
            depth[0] = 0;
            from[0] = NONE;
            by[0] = NONE;
        }

        /** Looks at states until all have come, or more than the told number. */
        void explore(int most) {
            for (; looked < table.size && table.size <= most; looked++) {
                for (int act = 0; act < net.acts; act++) {
                    leads[looked * SIDE + act] = follow(looked, act);
                }
            }
        }

        private int follow(int state, int act) {
            int at = state * table.width;
            if (!net.fits(act, table.cells, at)) {
                return NONE;
            }
            System.arraycopy(table.cells, at, fresh, 0, table.width);
            net.carryOut(act, fresh);
            int known = table.size;
            int next = table.enter(fresh);
            if (next >= known) {
                depth[next] = depth[state] + 1;
                from[next] = state;
                by[next] = act;
            }
            return next;
        }

        boolean isBeyond(int most) {
            return table.size > most;
        }

        int size() {
            return table.size;
        }

        int marksIn(int state, int place) {
            return table.cells[state * table.width + place];
        }

        int depthOf(int state) {
            return depth[state];
        }

        int deadState(int number) {
            int found = 0;
            for (int s = 0; s < table.size; s++) {
                if (isDead(s)) {
                    if (found == number) {
                        return s;
                    }
                    found++;
                }
            }
            return NONE;
        }

        private boolean isDead(int state) {
            for (int act = 0; act < net.acts; act++) {
                if (leads[state * SIDE + act] != NONE) {
                    return false;
                }
            }
            return true;
        }

        int greatest(int place) {
            return table.greatestIn(place);
        }

        boolean isMeeting(int state, int[] goals, boolean above) {
            for (int p = 0; p < net.places; p++) {
                int marks = table.cells[state * table.width + p];
                if (marks < goals[p] || marks > goals[p] && !above) {
                    return false;
                }
            }
            return true;
        }

        /** The first such state, which is come to by the first of the shortest rows; NONE or FULL. */
        int firstMeeting(int most, int[] goals, boolean above) {
            for (int s = 0; s < table.size && s < most; s++) {
                if (isMeeting(s, goals, above)) {
                    return s;
                }
            }
            return isBeyond(most) ? FULL : NONE;
        }

        int actOnWay(int target, int k) {
            if (k < 0 || k >= depth[target]) {
                return NONE;
            }
            int state = target;
            for (int i = depth[target] - 1; i > k && state > 0; i--) {
                state = from[state];
            }
            return by[state];
        }

        int firstDeepest() {
            int state = 0;
            for (int s = 1; s < table.size; s++) {
                if (depth[s] > depth[state]) {
                    state = s;
                }
            }
            return state;
        }
    }

    /** What a graph all of whose states have come says: knots, costs, numbers of rows. */
    private static final class Study {
        private static final int BUCKETS = COST_MOST + 1;

        int version = NONE;
        Graph graph;
        private final int[] numbers = new int[Graph.ROWS];
        private final int[] lows = new int[Graph.ROWS];
        private final int[] edges = new int[Graph.ROWS];
        private final int[] path = new int[Graph.ROWS];
        private final int[] pile = new int[Graph.ROWS];
        // Groups are states that can be come to from one another; those come to last are first.
        private final int[] groups = new int[Graph.ROWS];
        private final int[] sorted = new int[Graph.ROWS];
        // 1 for a group from which some other one can be come to.
        private final int[] open = new int[Graph.ROWS];
        private final int[] costs = new int[Graph.ROWS];
        private final int[] after = new int[Graph.ROWS];
        private final int[] before = new int[Graph.ROWS];
        private final int[] heads = new int[BUCKETS];
        private long[] counts = new long[Graph.ROWS];
        private long[] freshCounts = new long[Graph.ROWS];
        private int groupCount;
        private int grouped;
        private int pathSize;
        private int pileSize;

        /** Tarjan's way through the graph, with a path of its own instead of recursion. */
        void tie(int ofVersion) {
            version = ofVersion;
            groupCount = 0;
            grouped = 0;
            pathSize = 0;
            pileSize = 0;
            Arrays.fill(numbers, 0);
            enterState(0);
            int steps = graph.size() * (SIDE + 2);
            for (int i = 0; i < steps && pathSize > 0; i++) {
                int state = path[pathSize - 1];
                if (edges[state] < graph.net.acts) {
                    goAlong(state);
                } else {
                    leaveState(state);
                }
            }
            findOpen();
        }

        private void enterState(int state) {
            int number = pileSize + grouped + 1;
            numbers[state] = number;
            lows[state] = number;
            edges[state] = 0;
            groups[state] = NONE;
            path[pathSize] = state;
            pathSize++;
            pile[pileSize] = state;
            pileSize++;
        }

        private void goAlong(int state) {
            int next = graph.leads[state * SIDE + edges[state]];
            edges[state]++;
            if (next == NONE) {
                return;
            }
            if (numbers[next] == 0) {
                enterState(next);
            } else if (groups[next] == NONE) {
                lows[state] = Math.min(lows[state], numbers[next]);
            }
        }

        private void leaveState(int state) {
            pathSize--;
            if (pathSize > 0) {
                int ahead = path[pathSize - 1];
                lows[ahead] = Math.min(lows[ahead], lows[state]);
            }
            if (lows[state] == numbers[state]) {
                int last = NONE;
                while (pileSize > 0 && last != state) {
                    pileSize--;
                    last = pile[pileSize];
                    groups[last] = groupCount;
                    sorted[grouped] = last;
                    grouped++;
                }
                groupCount++;
            }
        }

        private void findOpen() {
            Arrays.fill(open, 0);
            for (int s = 0; s < graph.size(); s++) {
                for (int act = 0; act < graph.net.acts; act++) {
                    int next = graph.leads[s * SIDE + act];
                    if (next != NONE && groups[next] != groups[s]) {
                        open[groups[s]] = 1;
                    }
                }
            }
        }

        int knotCount() {
            int count = 0;
            for (int group = 0; group < groupCount; group++) {
                count += 1 - open[group];
            }
            return count;
        }

        /** A home lies in the only knot there is: from one of two knots the other is not come to. */
        int homes() {
            if (knotCount() != 1) {
                return 0;
            }
            int count = 0;
            for (int s = 0; s < graph.size(); s++) {
                count += 1 - open[groups[s]];
            }
            return count;
        }

        /** From each state some knot is come to: an act lives if it may be done in each knot. */
        int liveliness(int act) {
            Arrays.fill(lows, 0);
            boolean ever = false;
            for (int s = 0; s < graph.size(); s++) {
                if (graph.leads[s * SIDE + act] != NONE) {
                    ever = true;
                    lows[groups[s]] = 1;
                }
            }
            if (!ever) {
                return 0;
            }
            for (int group = 0; group < groupCount; group++) {
                if (open[group] == 0 && lows[group] == 0) {
                    return 1;
                }
            }
            return 2;
        }

        /** The most over all ways from group to group, of which later ones stand first. */
        int mostDone(int act) {
            Arrays.fill(lows, 0);
            for (int i = 0; i < grouped; i++) {
                int state = sorted[i];
                int group = groups[state];
                for (int other = 0; other < graph.net.acts; other++) {
                    int next = graph.leads[state * SIDE + other];
                    if (next == NONE) {
                        continue;
                    }
                    if (other == act && groups[next] == group) {
                        return NONE;
                    }
                    int done = lows[groups[next]] + (other == act ? 1 : 0);
                    lows[group] = Math.max(lows[group], done);
                }
            }
            return lows[groups[0]];
        }

        /** States by their cost in a ring of buckets, as no act costs more than the ring is long. */
        int leastCost(int[] goals, boolean above) {
            Arrays.fill(costs, NONE);
            Arrays.fill(heads, NONE);
            link(0, 0);
            int quiet = 0;
            for (int cost = 0; quiet < BUCKETS && cost <= COST_MOST * Graph.ROWS; cost++) {
                int bucket = cost % BUCKETS;
                quiet++;
                for (int i = 0; i < graph.size() && heads[bucket] != NONE; i++) {
                    int state = heads[bucket];
                    if (graph.isMeeting(state, goals, above)) {
                        return cost;
                    }
                    unlink(state);
                    goOn(state);
                    quiet = 0;
                }
            }
            return NONE;
        }

        private void goOn(int state) {
            for (int act = 0; act < graph.net.acts; act++) {
                int next = graph.leads[state * SIDE + act];
                int cost = costs[state] + graph.net.cost[act];
                if (next != NONE && costs[next] == NONE) {
                    link(next, cost);
                } else if (next != NONE && cost < costs[next]) {
                    unlink(next);
                    link(next, cost);
                }
            }
        }

        private void link(int state, int cost) {
            int bucket = cost % BUCKETS;
            costs[state] = cost;
            before[state] = NONE;
            after[state] = heads[bucket];
            if (heads[bucket] != NONE) {
                before[heads[bucket]] = state;
            }
            heads[bucket] = state;
        }

        private void unlink(int state) {
            if (before[state] != NONE) {
                after[before[state]] = after[state];
            } else {
                heads[costs[state] % BUCKETS] = after[state];
            }
            if (after[state] != NONE) {
                before[after[state]] = before[state];
            }
        }

        long rowsOfLength(int length) {
            Arrays.fill(counts, 0);
            counts[0] = 1;
            long sum = 1;
            for (int done = 0; done < length; done++) {
                sum = lengthen(done);
            }
            return sum;
        }

        /** Rows one act longer; states deeper than what is done are come to by none yet. */
        private long lengthen(int done) {
            long sum = 0;
            Arrays.fill(freshCounts, 0);
            for (int s = 0; s < graph.size() && graph.depthOf(s) <= done; s++) {
                for (int act = 0; act < graph.net.acts && counts[s] > 0; act++) {
                    int next = graph.leads[s * SIDE + act];
                    if (next != NONE) {
                        freshCounts[next] += counts[s];
                        sum += counts[s];
                    }
                }
            }
            long[] old = counts;
            counts = freshCounts;
            freshCounts = old;
            return sum;
        }

        boolean comesWithout(int act, int[] goals, boolean above) {
            Arrays.fill(costs, NONE);
            costs[0] = 0;
            after[0] = 0;
            int come = 1;
            for (int i = 0; i < come && i < Graph.ROWS; i++) {
                int state = after[i];
                if (graph.isMeeting(state, goals, above)) {
                    return true;
                }
                for (int other = 0; other < graph.net.acts; other++) {
                    int next = graph.leads[state * SIDE + other];
                    if (other != act && next != NONE && costs[next] == NONE) {
                        costs[next] = 0;
                        after[come] = next;
                        come++;
                    }
                }
            }
            return false;
        }
    }

    /** The tree of growth, in which marks may be without end. */
    private static final class Tree {
        private static final int ENDLESS = 1000000000;
        private static final int ROWS = TREE_MOST + SIDE;

        int version = NONE;
        private final Table table = new Table(SIDE, ROWS, 2048);
        private final int[] up = new int[ROWS];
        private final int[] fresh = new int[SIDE];
        private Net net;

        int size() {
            return table.size;
        }

        int greatest(int place) {
            int greatest = table.greatestIn(place);
            return greatest == ENDLESS ? NONE : greatest;
        }

        void grow(Net ofNet, int[] marks, int ofVersion) {
            net = ofNet;
            version = ofVersion;
            table.wipe(net.places);
            table.enter(marks);
            up[0] = NONE;
            for (int node = 0; node < table.size && table.size <= TREE_MOST; node++) {
                for (int act = 0; act < net.acts; act++) {
                    branch(node, act);
                }
            }
        }

        private void branch(int node, int act) {
            int at = node * table.width;
            for (int p = 0; p < net.places; p++) {
                int marks = table.cells[at + p];
                int cell = act * SIDE + p;
                if (marks < net.takes[cell]) {
                    return;
                }
                fresh[p] = marks == ENDLESS ? ENDLESS : marks - net.takes[cell] + net.gives[cell];
            }
            widen(endlessPlaces(node));
            int known = table.size;
            int next = table.enter(fresh);
            if (next >= known) {
                up[next] = node;
            }
        }

        /** Judged by the marks before any became endless, by all that stand ahead. */
        private int endlessPlaces(int parent) {
            int bits = 0;
            int node = parent;
            for (int i = 0; i < ROWS && node != NONE; i++) {
                bits |= fewerBits(node);
                node = up[node];
            }
            return bits;
        }

        private int fewerBits(int node) {
            int bits = 0;
            for (int p = 0; p < net.places; p++) {
                int marks = table.cells[node * table.width + p];
                if (marks > fresh[p]) {
                    return 0;
                }
                bits |= marks < fresh[p] ? 1 << p : 0;
            }
            return bits;
        }

        private void widen(int bits) {
            for (int p = 0; p < net.places; p++) {
                if ((bits >> p & 1) == 1) {
                    fresh[p] = ENDLESS;
                }
            }
        }
    }

    /** Acts by clocks: the marks, and how long acts are at work yet, ahead of each moment. */
    private static final class Works {
        private static final int ROWS = MOMENTS_MOST + 1;

        int version = NONE;
        // Of the period; NONE while no state has come again.
        int from = NONE;
        int length = NONE;
        private final Table table = new Table(2 * SIDE, ROWS, 4096);
        // How often each act began ahead of each moment; ahead of the first one never.
        private final int[] begun = new int[(ROWS + 1) * SIDE];
        private final int[] state = new int[2 * SIDE];
        private Net net;

        void begin(Net ofNet, int[] marks, int ofVersion) {
            net = ofNet;
            version = ofVersion;
            from = NONE;
            length = NONE;
            Arrays.fill(state, 0);
            System.arraycopy(marks, 0, state, 0, net.places);
            table.wipe(net.places + net.acts);
            table.enter(state);
        }

        /** Goes on until so many moments have gone by, or all further ones are known. */
        void reach(int moments) {
            for (int m = table.size - 1; m < moments && length == NONE; m++) {
                passMoment(m);
                int known = table.size;
                int row = table.enter(state);
                if (row < known) {
                    from = row;
                    length = known - row;
                }
            }
        }

        private void passMoment(int moment) {
            int to = (moment + 1) * SIDE;
            System.arraycopy(begun, moment * SIDE, begun, to, SIDE);
            for (int act = 0; act < net.acts; act++) {
                int left = net.places + act;
                if (state[left] > 0) {
                    state[left]--;
                    if (state[left] == 0) {
                        net.giveOut(act, state);
                    }
                }
            }
            for (int act = 0; act < net.acts; act++) {
                if (state[net.places + act] == 0 && net.fits(act, state, 0)) {
                    beginAct(act);
                    begun[to + act]++;
                }
            }
        }

        private void beginAct(int act) {
            net.takeAway(act, state);
            if (net.lasts[act] == 0) {
                net.giveOut(act, state);
            } else {
                state[net.places + act] = net.lasts[act];
            }
        }

        int marksAhead(int moment, int place) {
            return table.cells[rowOf(moment) * table.width + place];
        }

        int begunAhead(int moment, int act) {
            int count = begun[rowOf(moment) * SIDE + act];
            if (moment < table.size || length <= 0) {
                return count;
            }
            return count + (moment - from) / length * begunInPeriod(act);
        }

        int begunInPeriod(int act) {
            if (length == NONE) {
                return NONE;
            }
            return begun[(from + length) * SIDE + act] - begun[from * SIDE + act];
        }

        private int rowOf(int moment) {
            if (moment < table.size || length <= 0) {
                return Math.min(moment, table.size - 1);
            }
            return from + (moment - from) % length;
        }
    }

    /** Single rows of acts that leave the hall's own marks alone: by lots, and the least first. */
    private static final class Walk {
        int version = NONE;
        int ends;
        int came;
        int later;
        boolean endless;
        final int[] marks = new int[SIDE];
        private final Table table = new Table(SIDE, STATES_MOST, 8192);

        int byLots(Net net, int[] start, int n, int firstSeed) {
            System.arraycopy(start, 0, marks, 0, SIDE);
            int seed = firstSeed;
            for (int done = 0; done < n; done++) {
                int able = net.ableActs(marks);
                int count = Integer.bitCount(able);
                if (count == 0) {
                    return done;
                }
                seed = seed * 1103515245 + 12345;
                net.carryOut(memberOf(able, (seed >>> 16 & 0x7FFF) % count), marks);
            }
            return n;
        }

        private static int memberOf(int set, int number) {
            int rest = set;
            for (int i = 0; i < number && i < SIDE; i++) {
                rest &= rest - 1;
            }
            return Math.min(SIDE - 1, Integer.bitCount((rest & -rest) - 1));
        }

        void leastFirst(Net net, int[] start, int ofVersion) {
            version = ofVersion;
            ends = NONE;
            came = NONE;
            later = NONE;
            endless = false;
            System.arraycopy(start, 0, marks, 0, SIDE);
            table.wipe(net.places);
            for (int done = 0; done < STATES_MOST; done++) {
                int known = table.size;
                int row = table.enter(marks);
                if (row < known) {
                    came = row;
                    later = done - row;
                    return;
                }
                int act = leastAble(net);
                if (act == NONE) {
                    ends = done;
                    return;
                }
                net.carryOut(act, marks);
            }
            endless = true;
        }

        private int leastAble(Net net) {
            for (int act = 0; act < net.acts; act++) {
                if (net.fits(act, marks, 0)) {
                    return act;
                }
            }
            return NONE;
        }
    }

    /** What a net is by its looks alone: siphons and traps, kinds of nets, likeness. */
    private static final class Shape {
        // No more sets of eight places than this are without one another.
        private static final int LEAST_ROOM = 70;
        private final int[] least = new int[LEAST_ROOM];
        // Kinds of acts by cost, lasts and arcs to the first places: as told, and with others put for these.
        private final int[] kinds = new int[(SIDE + 1) * SIDE];
        private final int[] putKinds = new int[(SIDE + 1) * SIDE];
        private final int[] columns = new int[CELLS];
        private Net net;

        int leastSet(Net ofNet, boolean trap, int number) {
            int found = 0;
            for (int bits = 1; bits < 1 << ofNet.places; bits++) {
                if (holdsIn(ofNet, bits, trap) && !holdsLeast(bits, found) && found < LEAST_ROOM) {
                    if (found == number) {
                        return bits;
                    }
                    least[found] = bits;
                    found++;
                }
            }
            return 0;
        }

        private boolean holdsLeast(int bits, int found) {
            for (int i = 0; i < found; i++) {
                if ((least[i] & ~bits) == 0) {
                    return true;
                }
            }
            return false;
        }

        /** Whether places (one at least) are a siphon, or a trap. */
        static boolean holdsIn(Net net, int bits, boolean trap) {
            for (int act = 0; act < net.acts; act++) {
                boolean takes = (net.takesFrom[act] & bits) != 0;
                boolean gives = (net.givesTo[act] & bits) != 0;
                if (trap ? takes && !gives : gives && !takes) {
                    return false;
                }
            }
            return true;
        }

        static boolean guards(Net net, int bits, int[] marks) {
            int marked = 0;
            for (int p = 0; p < net.places; p++) {
                marked |= marks[p] > 0 ? 1 << p : 0;
            }
            for (int part = 1; part <= bits; part++) {
                if ((part & ~bits) == 0 && (part & marked) != 0 && holdsIn(net, part, true)) {
                    return true;
                }
            }
            return false;
        }

        static int kindOf(Net net) {
            if (net.places == 0) {
                return 0;
            }
            int bits = eachActOneToOne(net) ? 1 : 0;
            bits |= eachPlaceOneToOne(net) ? 2 : 0;
            bits |= choosesFreely(net) ? 4 : 0;
            bits |= isPlain(net) ? 8 : 0;
            bits |= isSingle(net) ? 16 : 0;
            return bits;
        }

        private static boolean eachActOneToOne(Net net) {
            for (int act = 0; act < net.acts; act++) {
                if (Integer.bitCount(net.takesFrom[act]) != 1 || Integer.bitCount(net.givesTo[act]) != 1) {
                    return false;
                }
            }
            return true;
        }

        private static boolean eachPlaceOneToOne(Net net) {
            for (int p = 0; p < net.places; p++) {
                int takers = 0;
                int givers = 0;
                for (int act = 0; act < net.acts; act++) {
                    takers += net.takesFrom[act] >> p & 1;
                    givers += net.givesTo[act] >> p & 1;
                }
                if (takers != 1 || givers != 1) {
                    return false;
                }
            }
            return true;
        }

        private static boolean choosesFreely(Net net) {
            for (int act = 0; act < net.acts; act++) {
                for (int other = 0; other < act; other++) {
                    boolean common = (net.takesFrom[act] & net.takesFrom[other]) != 0;
                    if (common && !takesAlike(net, act, other)) {
                        return false;
                    }
                }
            }
            return true;
        }

        private static boolean takesAlike(Net net, int act, int other) {
            for (int p = 0; p < net.places; p++) {
                if (net.takes[act * SIDE + p] != net.takes[other * SIDE + p]) {
                    return false;
                }
            }
            return true;
        }

        private static boolean isPlain(Net net) {
            for (int act = 0; act < net.acts; act++) {
                if (net.hasCondition(act)) {
                    return false;
                }
                for (int p = 0; p < net.places; p++) {
                    if (net.bars[act * SIDE + p] != 0 || net.room[p] != NO_ROOM_TOLD) {
                        return false;
                    }
                }
            }
            return true;
        }

        private static boolean isSingle(Net net) {
            for (int cell = 0; cell < CELLS; cell++) {
                if (net.takes[cell] > 1 || net.gives[cell] > 1) {
                    return false;
                }
            }
            return true;
        }

        /**
         * Rows are as many as the product, over the places, of how many places a row can have next
         * that has all places ahead as told: such rows make a group.
         */
        int countLikeRows(Net ofNet) {
            net = ofNet;
            if (net.places == 0) {
                return 0;
            }
            sortActs();
            int count = 1;
            for (int place = 0; place < net.places; place++) {
                System.arraycopy(kinds, place * SIDE, putKinds, place * SIDE, SIDE);
                int ahead = (1 << place) - 1;
                int choices = 0;
                for (int other = place; other < net.places; other++) {
                    choices += canPut(place, other, ahead) ? 1 : 0;
                }
                count *= choices;
            }
            return count;
        }

        /** An act's kind is the least act that is the same as far as the places ahead tell. */
        private void sortActs() {
            for (int act = 0; act < net.acts; act++) {
                for (int p = 0; p < net.places; p++) {
                    int cell = act * SIDE + p;
                    columns[cell] = net.takes[cell] << 16 | net.gives[cell] << 8 | net.bars[cell];
                }
                kinds[act] = act;
                for (int other = act; other >= 0; other--) {
                    if (net.cost[other] == net.cost[act] && net.lasts[other] == net.lasts[act]) {
                        kinds[act] = other;
                    }
                }
            }
            for (int place = 0; place < net.places; place++) {
                for (int act = 0; act < net.acts; act++) {
                    int level = place * SIDE;
                    kinds[level + SIDE + act] = leastAlike(level, kinds[level + act], columns[act * SIDE + place]);
                }
            }
        }

        private int leastAlike(int level, int kind, int column) {
            int place = level / SIDE;
            for (int act = 0; act < net.acts; act++) {
                if (kinds[level + act] == kind && columns[act * SIDE + place] == column) {
                    return act;
                }
            }
            return NONE;
        }

        /** Whether a place can be put for another one, and the rest in some way behind it. */
        private boolean canPut(int place, int other, int used) {
            if (place >= SIDE || net.told[place] != net.told[other] || net.room[place] != net.room[other]) {
                return false;
            }
            int level = place * SIDE;
            for (int act = 0; act < net.acts; act++) {
                putKinds[level + SIDE + act] =
                        leastAlike(level, putKinds[level + act], columns[act * SIDE + other]);
            }
            if (!sameKinds(level + SIDE)) {
                return false;
            }
            int next = place + 1;
            int taken = used | 1 << other;
            if (next >= net.places) {
                return true;
            }
            for (int third = 0; third < net.places; third++) {
                if ((taken >> third & 1) == 0 && canPut(next, third, taken)) {
                    return true;
                }
            }
            return false;
        }

        private boolean sameKinds(int level) {
            for (int act = 0; act < net.acts; act++) {
                int more = 0;
                for (int other = 0; other < net.acts; other++) {
                    more += kinds[level + other] == act ? 1 : 0;
                    more -= putKinds[level + other] == act ? 1 : 0;
                }
                if (more != 0) {
                    return false;
                }
            }
            return true;
        }
    }
}
