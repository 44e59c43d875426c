import java.util.Arrays;

/** Adventures with locks and keys that are made out of a seed, a game in them, and what can still be done in it. */
public final class LockQuest {
    public static final int BAD = -1;
    public static final int LOCKED = -2;
    public static final int NONE = -3;

    private static final int NO_SUCH_FACT = -100;

    private static final int MAX_ROOMS = 12;
    private static final int MAX_LEVELS = 3;
    private static final int MAX_SMALL = 3;
    private static final int MAX_BARRIERS = 2;

    private static final int PLAIN = 0;
    private static final int LOCK = 1;
    private static final int SMALL = 2;
    private static final int RED = 3;
    private static final int BLUE = 4;

    private static final int TAKING = 100;
    private static final int TOGGLING = 200;

    private final Adventure adventure = new Adventure();
    private final Maker maker = new Maker(adventure);
    private final Search search = new Search(adventure);
    private int situation;

    public LockQuest() {
        maker.build(0L, 2, 1, 0, 0);
        situation = Situation.FIRST;
    }

    public int make(long seed, int rooms, int levels, int small, int barriers) {
        if (!isWithin(rooms, 2, MAX_ROOMS) || !isWithin(levels, 1, MAX_LEVELS) || levels >= rooms
                || !isWithin(small, 0, MAX_SMALL) || !isWithin(barriers, 0, MAX_BARRIERS)) {
            return BAD;
        }
        maker.build(seed, rooms, levels, small, barriers);
        situation = Situation.FIRST;
        return adventure.allDoors;
    }

    public int room(int r, int what) {
        if (!adventure.hasRoom(r)) {
            return NO_SUCH_FACT;
        }
        switch (what) {
            case 0: return adventure.parent[r];
            case 1: return adventure.level[r];
            case 2: return adventure.kind[r];
            case 3: return adventure.x[r];
            case 4: return adventure.y[r];
            case 5: return adventure.lying[r];
            case 6: return adventure.switched[r] ? 1 : 0;
            case 7: return adventure.doors[r];
            default: return NO_SUCH_FACT;
        }
    }

    public int behind(int r, int i) {
        return adventure.hasDoor(r, i) ? adventure.beyond[r][i] : BAD;
    }

    public int goal() {
        return adventure.goalRoom;
    }

    public void restart() {
        situation = Situation.FIRST;
    }

    public int walk(int i) {
        int next = adventure.afterWalking(situation, i);
        if (next < 0) {
            return next;
        }
        situation = next;
        return Situation.roomOf(next);
    }

    public int take() {
        int next = adventure.afterTaking(situation);
        int things = Integer.bitCount(next ^ situation);
        situation = next;
        return things;
    }

    public int toggle() {
        int next = adventure.afterToggling(situation);
        if (next < 0) {
            return next;
        }
        situation = next;
        return Situation.positionOf(next);
    }

    public int here() {
        return Situation.roomOf(situation);
    }

    public int having() {
        return Situation.keysOf(situation) + 8 * Situation.smallKeysLeft(situation)
                + 64 * Situation.positionOf(situation);
    }

    public int steps() {
        int at = search.findGoal(situation);
        return at < 0 ? NONE : search.distance[at];
    }

    public int hint() {
        int at = search.findGoal(situation);
        if (at == 0) {
            return BAD;
        }
        return at < 0 ? NONE : search.opening[at];
    }

    public int situations() {
        search.findAll(situation);
        return search.count;
    }

    public boolean safe() {
        search.findAll(situation);
        return search.allLeadToGoal();
    }

    private static boolean isWithin(int number, int least, int most) {
        return number >= least && number <= most;
    }

    /**
     * A situation is one int, so that a search can keep many without making objects: from the lowest bit on the three
     * keys and the three small keys that were taken (as in what lies in a room), the three small doors that were
     * opened, the switch position, the room.
     */
    private static final class Situation {
        static final int FIRST = 0;
        static final int COUNT = MAX_ROOMS << 10;

        private static final int KEYS = 7;
        private static final int SMALL_KEYS = 7 << 3;
        private static final int OPENED = 7 << 6;
        private static final int POSITION = 1 << 9;
        private static final int ALL_BUT_ROOM = (1 << 10) - 1;

        static int roomOf(int situation) {
            return situation >> 10;
        }

        static int keysOf(int situation) {
            return situation & KEYS;
        }

        static int positionOf(int situation) {
            return (situation & POSITION) == 0 ? 0 : 1;
        }

        static int smallKeysLeft(int situation) {
            return Integer.bitCount(situation & SMALL_KEYS) - Integer.bitCount(situation & OPENED);
        }

        static boolean hasKey(int situation, int level) {
            return (situation & keyBit(level)) != 0;
        }

        static boolean hasOpened(int situation, int smallDoor) {
            return (situation & openedBit(smallDoor)) != 0;
        }

        static int keyBit(int level) {
            return 1 << (level - 1);
        }

        static int smallKeyBit(int smallKey) {
            return 8 << smallKey;
        }

        static int openedBit(int smallDoor) {
            return 64 << smallDoor;
        }

        static int inRoom(int situation, int room) {
            return (situation & ALL_BUT_ROOM) | (room << 10);
        }

        static int toggled(int situation) {
            return situation ^ POSITION;
        }
    }

    /** The rooms and doors of an adventure, and where its actions lead. A room's door is kept with that room. */
    private static final class Adventure {
        int rooms;
        int levels;
        int goalRoom;
        int allDoors;
        final int[] parent = new int[MAX_ROOMS];
        final int[] level = new int[MAX_ROOMS];
        final int[] kind = new int[MAX_ROOMS];
        final int[] smallNumber = new int[MAX_ROOMS];
        final int[] x = new int[MAX_ROOMS];
        final int[] y = new int[MAX_ROOMS];
        final int[] lying = new int[MAX_ROOMS];
        final boolean[] switched = new boolean[MAX_ROOMS];
        final int[] doors = new int[MAX_ROOMS];
        final int[][] beyond = new int[MAX_ROOMS][MAX_ROOMS];

        boolean hasRoom(int r) {
            return r >= 0 && r < rooms;
        }

        boolean hasDoor(int r, int i) {
            return hasRoom(r) && i >= 0 && i < doors[r];
        }

        int afterWalking(int situation, int i) {
            int from = Situation.roomOf(situation);
            if (!hasDoor(from, i)) {
                return BAD;
            }
            int to = beyond[from][i];
            int owner = doorOwner(from, to);
            if (!opens(situation, owner)) {
                return LOCKED;
            }
            int moved = Situation.inRoom(situation, to);
            return kind[owner] == SMALL ? moved | Situation.openedBit(smallNumber[owner]) : moved;
        }

        int afterTaking(int situation) {
            return situation | lying[Situation.roomOf(situation)];
        }

        int afterToggling(int situation) {
            return switched[Situation.roomOf(situation)] ? Situation.toggled(situation) : BAD;
        }

        /** Room 0, which has no door of its own and so the kind plain, stands for the loops. */
        private int doorOwner(int from, int to) {
            if (parent[from] == to) {
                return from;
            }
            return parent[to] == from ? to : 0;
        }

        private boolean opens(int situation, int owner) {
            switch (kind[owner]) {
                case LOCK:
                    return Situation.hasKey(situation, level[owner]);
                case SMALL:
                    return Situation.hasOpened(situation, smallNumber[owner]) || Situation.smallKeysLeft(situation) > 0;
                case RED:
                    return Situation.positionOf(situation) == 0;
                case BLUE:
                    return Situation.positionOf(situation) == 1;
                default:
                    return true;
            }
        }
    }

    /** Draws numbers, and one of the rooms that were put before it. */
    private static final class Drawing {
        private long state;
        private int count;
        private final int[] offered = new int[MAX_ROOMS];

        void begin(long seed) {
            state = seed;
        }

        int number(int n) {
            state = state * 6364136223846793005L + 1442695040888963407L;
            return n < 1 ? 0 : (int) ((state >>> 33) % n);
        }

        void clearOffer() {
            count = 0;
        }

        void offer(int room) {
            if (count < offered.length) {
                offered[count] = room;
                count++;
            }
        }

        boolean hasOffer() {
            return count > 0;
        }

        int offeredRoom() {
            return offered[number(count)];
        }
    }

    /** Makes an adventure in place, in the order in which the document draws it. */
    private static final class Maker {
        private static final int[] EAST = {1, 0, -1, 0};
        private static final int[] NORTH = {0, 1, 0, -1};

        private final Adventure made;
        private final Drawing drawing = new Drawing();
        private final boolean[] open = new boolean[MAX_ROOMS];

        Maker(Adventure adventure) {
            made = adventure;
        }

        void build(long seed, int rooms, int levels, int small, int barriers) {
            drawing.begin(seed);
            clear();
            made.rooms = rooms;
            made.levels = levels;
            addRooms();
            layKeys();
            laySmallKeys(makeSmallDoors(small));
            makeBarriers(barriers);
            offerLevels(levels, levels);
            made.goalRoom = drawing.offeredRoom();
            placeRooms();
            joinFamilies();
            joinLoops();
        }

        private void clear() {
            Arrays.fill(made.lying, 0);
            Arrays.fill(made.doors, 0);
            for (int r = 0; r < MAX_ROOMS; r++) {
                made.switched[r] = false;
            }
            made.allDoors = 0;
        }

        private void addRooms() {
            int top = 0;
            made.parent[0] = -1;
            made.level[0] = 0;
            made.kind[0] = PLAIN;
            for (int r = 1; r < made.rooms; r++) {
                boolean mustRise = made.rooms - r == made.levels - top;
                int parent = mustRise ? drawnBefore(r, top) : drawing.number(r);
                boolean rises = mustRise || (mayRise(parent, top) && drawing.number(4) == 0);
                if (rises) {
                    top++;
                }
                made.parent[r] = parent;
                made.level[r] = rises ? top : made.level[parent];
                made.kind[r] = rises ? LOCK : PLAIN;
            }
        }

        private boolean mayRise(int parent, int top) {
            return made.level[parent] == top && top < made.levels;
        }

        private int drawnBefore(int r, int level) {
            drawing.clearOffer();
            for (int q = 0; q < r; q++) {
                if (made.level[q] == level) {
                    drawing.offer(q);
                }
            }
            return drawing.offeredRoom();
        }

        private void offerLevels(int least, int most) {
            drawing.clearOffer();
            for (int r = 0; r < made.rooms; r++) {
                if (isWithin(made.level[r], least, most)) {
                    drawing.offer(r);
                }
            }
        }

        private void offerPlainDoors() {
            drawing.clearOffer();
            for (int r = 1; r < made.rooms; r++) {
                if (made.kind[r] == PLAIN) {
                    drawing.offer(r);
                }
            }
        }

        private void layKeys() {
            for (int l = 1; l <= made.levels; l++) {
                offerLevels(0, l - 1);
                made.lying[drawing.offeredRoom()] |= Situation.keyBit(l);
            }
        }

        private int makeSmallDoors(int asked) {
            int number = 0;
            for (int n = 0; n < asked; n++) {
                offerPlainDoors();
                if (drawing.hasOffer()) {
                    int r = drawing.offeredRoom();
                    made.kind[r] = SMALL;
                    made.smallNumber[r] = number;
                    number++;
                }
            }
            return number;
        }

        private void laySmallKeys(int number) {
            offerOpenRooms();
            for (int n = 0; n < number; n++) {
                made.lying[drawing.offeredRoom()] |= Situation.smallKeyBit(n);
            }
        }

        /** A room of level 0 has a parent of level 0, so it is open if its door is not small and its parent is open. */
        private void offerOpenRooms() {
            drawing.clearOffer();
            open[0] = true;
            drawing.offer(0);
            for (int r = 1; r < made.rooms; r++) {
                open[r] = made.level[r] == 0 && made.kind[r] != SMALL && open[made.parent[r]];
                if (open[r]) {
                    drawing.offer(r);
                }
            }
        }

        private void makeBarriers(int asked) {
            for (int n = 0; n < asked; n++) {
                offerPlainDoors();
                if (drawing.hasOffer()) {
                    int r = drawing.offeredRoom();
                    made.kind[r] = drawing.number(2) == 0 ? RED : BLUE;
                    made.switched[r] = true;
                    made.switched[made.parent[r]] = true;
                }
            }
        }

        private void placeRooms() {
            made.x[0] = 0;
            made.y[0] = 0;
            for (int r = 1; r < made.rooms; r++) {
                place(r, drawing.number(4));
            }
        }

        /** The r rooms before r, its parent among them, fill at most r - 1 places of the way: the r-th is free. */
        private void place(int r, int direction) {
            int x = made.x[made.parent[r]];
            int y = made.y[made.parent[r]];
            for (int n = 0; n < r; n++) {
                x += EAST[direction];
                y += NORTH[direction];
                if (isFree(x, y, r)) {
                    break;
                }
            }
            made.x[r] = x;
            made.y[r] = y;
        }

        private boolean isFree(int x, int y, int placed) {
            for (int q = 0; q < placed; q++) {
                if (made.x[q] == x && made.y[q] == y) {
                    return false;
                }
            }
            return true;
        }

        /** Each room joins its parent before its own children join it: so its own door is its first. */
        private void joinFamilies() {
            for (int r = 1; r < made.rooms; r++) {
                join(r, made.parent[r]);
            }
        }

        private void joinLoops() {
            for (int r = 1; r < made.rooms; r++) {
                for (int q = 0; q < r; q++) {
                    if (mayLoop(r, q) && drawing.number(3) == 0) {
                        join(r, q);
                    }
                }
            }
        }

        /** q is before r, so r can't be its parent. */
        private boolean mayLoop(int r, int q) {
            int apart = Math.abs(made.x[r] - made.x[q]) + Math.abs(made.y[r] - made.y[q]);
            return apart == 1 && made.level[r] == made.level[q] && made.parent[r] != q;
        }

        private void join(int r, int q) {
            made.beyond[r][made.doors[r]] = q;
            made.beyond[q][made.doors[q]] = r;
            made.doors[r]++;
            made.doors[q]++;
            made.allDoors++;
        }
    }

    /** A set of situations. */
    private static final class Marks {
        private final long[] bits = new long[Situation.COUNT / 64];

        void clear() {
            Arrays.fill(bits, 0L);
        }

        boolean has(int situation) {
            return (bits[situation >> 6] & (1L << (situation & 63))) != 0;
        }

        void add(int situation) {
            bits[situation >> 6] |= 1L << (situation & 63);
        }
    }

    /**
     * Goes through situations breadth first, the actions of each by their numbers. So those of one distance are found
     * in the order of the actions with which their ways open, and each is found by the least of these.
     */
    private static final class Search {
        private final Adventure adventure;
        private final Marks seen = new Marks();
        private final Marks saved = new Marks();
        private final int[] found = new int[Situation.COUNT];
        final int[] distance = new int[Situation.COUNT];
        final int[] opening = new int[Situation.COUNT];
        int count;

        Search(Adventure adventure) {
            this.adventure = adventure;
        }

        /** Where in the rows the goal comes first, or NONE. */
        int findGoal(int start) {
            begin(start);
            for (int at = 0; at < count && at < Situation.COUNT; at++) {
                if (isAtGoal(found[at])) {
                    return at;
                }
                goOn(at);
            }
            return NONE;
        }

        void findAll(int start) {
            begin(start);
            for (int at = 0; at < count && at < Situation.COUNT; at++) {
                goOn(at);
            }
        }

        /**
         * Whether the goal can be reached from all that were found. Each sweep goes from the last found to the first,
         * as ways to the goal mostly lead on to what was found later.
         */
        boolean allLeadToGoal() {
            saved.clear();
            int left = count;
            boolean more = true;
            for (int sweep = 0; more && left > 0 && sweep <= count; sweep++) {
                more = false;
                for (int at = count - 1; at >= 0; at--) {
                    int situation = found[at];
                    if (!saved.has(situation) && (isAtGoal(situation) || leadsToSaved(situation))) {
                        saved.add(situation);
                        left--;
                        more = true;
                    }
                }
            }
            return left == 0;
        }

        private void begin(int start) {
            seen.clear();
            seen.add(start);
            found[0] = start;
            distance[0] = 0;
            count = 1;
        }

        private void goOn(int at) {
            int situation = found[at];
            int doors = adventure.doors[Situation.roomOf(situation)];
            for (int i = 0; i < doors; i++) {
                reach(adventure.afterWalking(situation, i), at, i);
            }
            reach(adventure.afterTaking(situation), at, TAKING);
            reach(adventure.afterToggling(situation), at, TOGGLING);
        }

        private void reach(int situation, int from, int action) {
            if (situation < 0 || seen.has(situation) || count >= Situation.COUNT) {
                return;
            }
            seen.add(situation);
            found[count] = situation;
            distance[count] = distance[from] + 1;
            opening[count] = from == 0 ? action : opening[from];
            count++;
        }

        private boolean isAtGoal(int situation) {
            return Situation.roomOf(situation) == adventure.goalRoom;
        }

        private boolean leadsToSaved(int situation) {
            int doors = adventure.doors[Situation.roomOf(situation)];
            for (int i = 0; i < doors; i++) {
                if (isSaved(adventure.afterWalking(situation, i))) {
                    return true;
                }
            }
            return isSaved(adventure.afterTaking(situation)) || isSaved(adventure.afterToggling(situation));
        }

        private boolean isSaved(int situation) {
            return situation >= 0 && saved.has(situation);
        }
    }
}
