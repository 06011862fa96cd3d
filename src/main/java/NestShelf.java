/**
 * A shelf of things of unlike kinds: rows of numbers, rows of objects, tokens.
 * ../shared/DOC.md holds the promises that the public methods keep.
 */
public final class NestShelf {
    private static final int MOST_THINGS = 2000;
    private static final int MOST_PLACES = 500;
    private static final int MOST_DEPTH = 400;
    // A walk takes each place of each thing once and leaves each thing once.
    private static final int MOST_STEPS = MOST_THINGS * (MOST_PLACES + 1);

    private static final int INTS = 0;
    private static final int CHARS = 2;
    private static final int ROWS_OF_INTS = 3;
    private static final int TOKENS = 4;
    private static final int ROWS_OF_TOKENS = 5;
    private static final int RANKED_TOKENS = 6;
    private static final int PLAIN_TOKEN = 7;
    private static final int RANKED_TOKEN = 8;

    private static final int TEST_TOKEN_ROW = 4;
    private static final int TEST_TOKEN = 7;
    private static final int LAST_TEST = 8;

    private static final int NONE = -1;

    private static final int DONE = 0;
    private static final int NO_THING = 1;
    private static final int NO_PLACE = 2;
    private static final int NOT_ALLOWED = 3;
    private static final int WRONG_KIND = 4;
    private static final int RING_BELOW = 5;
    private static final int TOO_DEEP = 6;
    private static final int SHELF_FULL = 7;

    private final Thing[] things;
    private final Walk walk;
    private int thingCount;
    private int lastStatus;

    public NestShelf() {
        things = new Thing[MOST_THINGS];
        walk = new Walk();
        thingCount = 0;
        lastStatus = DONE;
    }

    public int make(int kind, int n) {
        if (kind < INTS || kind > RANKED_TOKENS) {
            return -1;
        }
        if (n > MOST_PLACES || !hasRoomFor(1)) {
            return -2;
        }
        if (n < 0) {
            return -3;
        }
        boolean ofNumbers = holdsNumbers(kind);
        long[] numbers = new long[ofNumbers ? n : 0];
        Thing[] hung = new Thing[ofNumbers ? 0 : n];
        return shelve(new Thing(thingCount, kind, 0, numbers, hung));
    }

    public int token(int v, boolean ranked) {
        if (!hasRoomFor(1)) {
            return -2;
        }
        int kind = ranked ? RANKED_TOKEN : PLAIN_TOKEN;
        Thing[] hung = new Thing[ranked ? 0 : 1];
        return shelve(new Thing(thingCount, kind, v, new long[0], hung));
    }

    public int put(int thing, int i, long v) {
        Thing row = thingAt(thing);
        if (row == null) {
            return NO_THING;
        }
        if (!holdsNumbers(row.kind)) {
            return WRONG_KIND;
        }
        if (i < 0 || i >= row.numbers.length) {
            return NO_PLACE;
        }
        long fitting = fitted(row.kind, v);
        row.sum += fitting - row.numbers[i];
        row.numbers[i] = fitting;
        return DONE;
    }

    public int hang(int thing, int i, int child) {
        Thing holder = thingAt(thing);
        Thing hanger = thingAt(child);
        if (holder == null || (hanger == null && child != NONE)) {
            return NO_THING;
        }
        if (!holdsThings(holder.kind)) {
            return WRONG_KIND;
        }
        if (i < 0 || i >= holder.hung.length) {
            return NO_PLACE;
        }
        if (hanger != null && !mayHang(hanger.kind, holder.kind)) {
            return NOT_ALLOWED;
        }
        holder.hung[i] = hanger;
        return DONE;
    }

    public int kind(int thing) {
        Thing asked = thingAt(thing);
        return asked == null ? -1 : asked.kind;
    }

    public int length(int thing) {
        Thing asked = thingAt(thing);
        if (asked == null) {
            return -1;
        }
        return holdsNumbers(asked.kind) ? asked.numbers.length : asked.hung.length;
    }

    public long number(int thing, int i) {
        Thing asked = thingAt(thing);
        lastStatus = numberRefusal(asked, i);
        if (asked == null || lastStatus != DONE) {
            return 0;
        }
        return i >= 0 && i < asked.numbers.length ? asked.numbers[i] : asked.value;
    }

    public int below(int thing, int i) {
        Thing holder = thingAt(thing);
        lastStatus = belowRefusal(holder, i);
        if (holder == null || i < 0 || i >= holder.hung.length) {
            return -2;
        }
        Thing hanger = holder.hung[i];
        return hanger == null ? NONE : hanger.id;
    }

    public int is(int thing, int test) {
        Thing asked = thingAt(thing);
        if (isUnknownQuestion(asked, thing, test)) {
            return -1;
        }
        return asked != null && passes(asked.kind, test) ? 1 : 0;
    }

    public int as(int thing, int test) {
        Thing asked = thingAt(thing);
        if (isUnknownQuestion(asked, thing, test)) {
            return -1;
        }
        return asked == null || passes(asked.kind, test) ? 0 : 1;
    }

    public long weight(int thing) {
        Thing asked = thingAt(thing);
        lastStatus = walkRefusal(asked);
        return asked == null || lastStatus != DONE ? -1 : asked.total;
    }

    public int depth(int thing) {
        Thing asked = thingAt(thing);
        lastStatus = walkRefusal(asked);
        return asked == null || lastStatus != DONE ? -1 : asked.longest;
    }

    public int equal(int a, int b) {
        Thing left = thingAt(a);
        Thing right = thingAt(b);
        int leftRefusal = walkRefusal(left);
        lastStatus = firstReason(leftRefusal, walkRefusal(right));
        if (left == null || right == null || lastStatus != DONE) {
            return -1;
        }
        return new Matching().matches(left, right) ? 1 : 0;
    }

    public int order(int a, int b) {
        Thing left = thingAt(a);
        Thing right = thingAt(b);
        if (left == null || right == null) {
            return 3;
        }
        if (left.kind != RANKED_TOKEN || right.kind != RANKED_TOKEN) {
            return 2;
        }
        if (left.value == right.value) {
            return 0;
        }
        return left.value < right.value ? -1 : 1;
    }

    public int sort(int thing) {
        Thing row = thingAt(thing);
        if (row == null) {
            return NO_THING;
        }
        if (!passes(row.kind, TEST_TOKEN_ROW)) {
            return WRONG_KIND;
        }
        if (holdsPlainToken(row.hung)) {
            return NOT_ALLOWED;
        }
        putInOrder(row.hung);
        return DONE;
    }

    public int copy(int thing, int deep) {
        Thing original = thingAt(thing);
        lastStatus = copyRefusal(original, deep);
        if (original == null || lastStatus != DONE) {
            return -1;
        }
        return deep == 0 ? shelve(original.duplicate(thingCount)) : shelveTwins(original);
    }

    public int ring(int thing) {
        Thing asked = thingAt(thing);
        if (asked == null) {
            return -1;
        }
        walk.goFrom(asked);
        return walk.startMetAgain ? 1 : 0;
    }

    public int status() {
        return lastStatus;
    }

    public int count() {
        return thingCount;
    }

    private Thing thingAt(int id) {
        return id >= 0 && id < thingCount && id < things.length ? things[id] : null;
    }

    private boolean hasRoomFor(int newcomers) {
        return thingCount + newcomers <= MOST_THINGS;
    }

    private int shelve(Thing newcomer) {
        if (thingCount < 0 || thingCount >= things.length) {
            return NONE;
        }
        things[thingCount] = newcomer;
        thingCount++;
        return newcomer.id;
    }

    private static boolean holdsNumbers(int kind) {
        return kind >= INTS && kind <= CHARS;
    }

    private static boolean holdsThings(int kind) {
        return kind >= ROWS_OF_INTS && kind <= PLAIN_TOKEN;
    }

    private static boolean isToken(int kind) {
        return kind == PLAIN_TOKEN || kind == RANKED_TOKEN;
    }

    private static long fitted(int kind, long v) {
        if (kind == INTS) {
            return (int) v;
        }
        return kind == CHARS ? (char) v : v;
    }

    private static boolean passes(int kind, int test) {
        if (test == TEST_TOKEN_ROW) {
            return kind == TOKENS || kind == RANKED_TOKENS;
        }
        if (test == TEST_TOKEN) {
            return isToken(kind);
        }
        return kind == test;
    }

    private static boolean mayHang(int childKind, int holderKind) {
        switch (holderKind) {
            case ROWS_OF_INTS:
                return passes(childKind, INTS);
            case TOKENS:
                return passes(childKind, TEST_TOKEN);
            case ROWS_OF_TOKENS:
                return passes(childKind, TEST_TOKEN_ROW);
            case RANKED_TOKENS:
                return passes(childKind, RANKED_TOKEN);
            default:
                return holderKind == PLAIN_TOKEN;
        }
    }

    private static boolean isUnknownQuestion(Thing asked, int id, int test) {
        return test < 0 || test > LAST_TEST || (asked == null && id != NONE);
    }

    private static int numberRefusal(Thing asked, int i) {
        if (asked == null) {
            return NO_THING;
        }
        if (!holdsNumbers(asked.kind) && !isToken(asked.kind)) {
            return WRONG_KIND;
        }
        int places = isToken(asked.kind) ? 1 : asked.numbers.length;
        return i < 0 || i >= places ? NO_PLACE : DONE;
    }

    private static int belowRefusal(Thing holder, int i) {
        if (holder == null) {
            return NO_THING;
        }
        if (!holdsThings(holder.kind)) {
            return WRONG_KIND;
        }
        return i < 0 || i >= holder.hung.length ? NO_PLACE : DONE;
    }

    /** Leaves the notes of a fresh walk on the thing and on all below it. */
    private int walkRefusal(Thing asked) {
        if (asked == null) {
            return NO_THING;
        }
        walk.goFrom(asked);
        if (walk.ringFound) {
            return RING_BELOW;
        }
        return asked.longest > MOST_DEPTH ? TOO_DEEP : DONE;
    }

    // The document lists the reasons of a walk by rising number, so the lesser one comes first.
    private static int firstReason(int left, int right) {
        if (left == DONE) {
            return right;
        }
        return right == DONE ? left : Math.min(left, right);
    }

    private int copyRefusal(Thing original, int deep) {
        if (original == null) {
            return NO_THING;
        }
        int newcomers = 1;
        if (deep != 0) {
            int refusal = walkRefusal(original);
            if (refusal != DONE) {
                return refusal;
            }
            newcomers = walk.reached;
        }
        return hasRoomFor(newcomers) ? DONE : SHELF_FULL;
    }

    /** Rests on the walk from the original that copyRefusal has just made. */
    private int shelveTwins(Thing original) {
        int firstId = thingCount;
        Thing at = original;
        for (int k = 0; k < MOST_THINGS && at != null; k++) {
            at.twin = at.duplicate(thingCount);
            shelve(at.twin);
            at = at.nextReached;
        }
        at = original;
        for (int k = 0; k < MOST_THINGS && at != null; k++) {
            hangTwins(at);
            at = at.nextReached;
        }
        return firstId;
    }

    private static void hangTwins(Thing original) {
        Thing twin = original.twin;
        if (twin == null) {
            return;
        }
        for (int i = 0; i < twin.hung.length; i++) {
            Thing child = twin.hung[i];
            if (child != null) {
                twin.hung[i] = child.twin;
            }
        }
    }

    private static boolean holdsPlainToken(Thing[] hung) {
        for (int i = 0; i < hung.length; i++) {
            Thing hanger = hung[i];
            if (hanger != null && hanger.kind == PLAIN_TOKEN) {
                return true;
            }
        }
        return false;
    }

    // Sorting by insertion keeps tokens of one value as they were.
    private static void putInOrder(Thing[] hung) {
        for (int i = 1; i < hung.length; i++) {
            Thing moving = hung[i];
            int to = i;
            while (to > 0 && belongsBehind(hung[to - 1], moving)) {
                hung[to] = hung[to - 1];
                to--;
            }
            hung[to] = moving;
        }
    }

    private static boolean belongsBehind(Thing left, Thing right) {
        if (right == null) {
            return false;
        }
        return left == null || left.value > right.value;
    }

    /** A row or a token; a row of numbers has no hung places, all others have no numbers. */
    private static final class Thing {
        final int id;
        final int kind;
        final int value;
        final long[] numbers;
        final Thing[] hung;
        // Kept up to date by each put, so that a walk need not add up the numbers again.
        long sum;

        // The notes of the latest walk that came here; they stand in the thing itself,
        // so that no walk has to make rows for them.
        int walkNumber;
        boolean open;
        int nextPlace;
        Thing cameFrom;
        Thing nextReached;
        int longest;
        long total;
        Thing twin;

        // The notes of a matching, wiped by the walk ahead of it.
        Thing leader;
        int followers;
        Thing nextJoined;

        Thing(int id, int kind, int value, long[] numbers, Thing[] hung) {
            this.id = id;
            this.kind = kind;
            this.value = value;
            this.numbers = numbers;
            this.hung = hung;
            this.sum = value;
        }

        Thing duplicate(int newId) {
            Thing twinThing = new Thing(newId, kind, value, numbers.clone(), hung.clone());
            twinThing.sum = sum;
            return twinThing;
        }

        void beginNotes(int ofWalk, Thing from) {
            walkNumber = ofWalk;
            open = true;
            nextPlace = 0;
            cameFrom = from;
            nextReached = null;
            longest = 1;
            total = sum;
            twin = null;
            leader = null;
            followers = 0;
            nextJoined = null;
        }

        void addNotesOf(Thing child) {
            total += child.total;
            if (longest <= child.longest) {
                longest = child.longest + 1;
            }
        }

        boolean looksLike(Thing other) {
            if (kind != other.kind || value != other.value) {
                return false;
            }
            return hung.length == other.hung.length && hasNumbersOf(other);
        }

        private boolean hasNumbersOf(Thing other) {
            if (numbers.length != other.numbers.length) {
                return false;
            }
            for (int i = 0; i < numbers.length && i < other.numbers.length; i++) {
                if (numbers[i] != other.numbers[i]) {
                    return false;
                }
            }
            return true;
        }
    }

    /**
     * A walk to all that is below a thing. It goes back by links in the things and not by
     * recursion, as a way may have as many things as the shelf.
     */
    private static final class Walk {
        // A new number for each walk makes the marks of all earlier ones void.
        private int current;
        private Thing start;
        private Thing lastReached;
        int reached;
        boolean ringFound;
        boolean startMetAgain;

        void goFrom(Thing first) {
            current++;
            start = first;
            lastReached = null;
            reached = 0;
            ringFound = false;
            startMetAgain = false;
            Thing at = arrive(first, null);
            for (int step = 0; step < MOST_STEPS && at != null; step++) {
                int place = at.nextPlace;
                if (place < 0 || place >= at.hung.length) {
                    at = leave(at);
                } else {
                    at.nextPlace = place + 1;
                    at = meet(at.hung[place], at);
                }
            }
        }

        /** Answers the thing to go on from. */
        private Thing meet(Thing child, Thing from) {
            if (child == null) {
                return from;
            }
            if (child.walkNumber != current) {
                return arrive(child, from);
            }
            if (child.open) {
                // What is found still open has a way back to itself.
                ringFound = true;
                startMetAgain = startMetAgain || child == start;
            } else {
                from.addNotesOf(child);
            }
            return from;
        }

        private Thing arrive(Thing newcomer, Thing from) {
            newcomer.beginNotes(current, from);
            if (lastReached != null) {
                lastReached.nextReached = newcomer;
            }
            lastReached = newcomer;
            reached++;
            return newcomer;
        }

        private Thing leave(Thing at) {
            at.open = false;
            Thing back = at.cameFrom;
            if (back != null) {
                back.addNotesOf(at);
            }
            return back;
        }
    }

    /**
     * Tells whether two things without a ring are equal. Things that must be equal are joined
     * to one group, each group once, so that many ways to one thing cost no more than one.
     */
    private static final class Matching {
        private Thing lastJoined;

        boolean matches(Thing left, Thing right) {
            Thing at = join(left, right);
            for (int k = 0; k < MOST_THINGS && at != null; k++) {
                Thing leader = at.leader;
                if (leader == null || !at.looksLike(leader) || !joinPlaces(at, leader)) {
                    return false;
                }
                at = at.nextJoined;
            }
            return true;
        }

        private boolean joinPlaces(Thing left, Thing right) {
            for (int i = 0; i < left.hung.length && i < right.hung.length; i++) {
                Thing leftChild = left.hung[i];
                Thing rightChild = right.hung[i];
                if (leftChild != null && rightChild != null) {
                    join(leftChild, rightChild);
                } else if (leftChild != rightChild) {
                    return false;
                }
            }
            return true;
        }

        /** Answers the thing that got a leader, null if both were of one group. */
        private Thing join(Thing left, Thing right) {
            Thing leftTop = topOf(left);
            Thing rightTop = topOf(right);
            if (leftTop == rightTop) {
                return null;
            }
            // The lesser group follows the greater one, which keeps the chains of leaders short.
            boolean leftFollows = leftTop.followers <= rightTop.followers;
            Thing follower = leftFollows ? leftTop : rightTop;
            Thing leader = leftFollows ? rightTop : leftTop;
            follower.leader = leader;
            leader.followers += follower.followers + 1;
            if (lastJoined != null) {
                lastJoined.nextJoined = follower;
            }
            lastJoined = follower;
            return follower;
        }

        private static Thing topOf(Thing member) {
            Thing top = member;
            for (int k = 0; k < MOST_THINGS && top.leader != null; k++) {
                top = top.leader;
            }
            return top;
        }
    }
}
