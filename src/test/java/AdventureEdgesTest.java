/** The edges in promises 1 to 5. Each method is the test of one sentence. */
public final class AdventureEdgesTest {
    private static final Checks CHECKS = new Checks("AdventureEdgesTest");
    private static final int LEAST = Integer.MIN_VALUE;
    private static final int MOST = Integer.MAX_VALUE;

    // Rooms 0 to 3 stand in a square, the last two below 0, that a loop closes; room 1 has a small door, room 2 a blue
    // one, room 4 a lock.
    private static final String SQUARE = "rooms 1:0 4:+ 2:1 4:+ 3:2 4:+ 4:0 | keys 4:0 | small doors 3:0 "
            + "| small keys 1:0 | barriers 2:0 2:1 | goal 1:0 | places 4:2 4:3 4:0 4:1 | loops 3:0";

    public static void main(String[] args) {
        CHECKS.run(
                AdventureEdgesTest::newObject,
                AdventureEdgesTest::roomsOfMake,
                AdventureEdgesTest::levelsOfMake,
                AdventureEdgesTest::levelsLessThanRooms,
                AdventureEdgesTest::smallOfMake,
                AdventureEdgesTest::barriersOfMake,
                AdventureEdgesTest::boundsOfMakeTogether,
                AdventureEdgesTest::anySeed,
                AdventureEdgesTest::doorsWithoutLoops,
                AdventureEdgesTest::doorsWithLoops,
                AdventureEdgesTest::makeBeginsItsGame,
                AdventureEdgesTest::parentOfRoomZero,
                AdventureEdgesTest::doorOfRoomZero,
                AdventureEdgesTest::negativePlaces,
                AdventureEdgesTest::whatLiesAtFirst,
                AdventureEdgesTest::keysLyingTogether,
                AdventureEdgesTest::switchOrNone,
                AdventureEdgesTest::noSuchRoom,
                AdventureEdgesTest::noSuchFact,
                AdventureEdgesTest::roomsOfALargerAdventureBefore,
                AdventureEdgesTest::noSuchDoorBehind,
                AdventureEdgesTest::doorsOfALargerAdventureBefore,
                AdventureEdgesTest::noSuchRoomBehind,
                AdventureEdgesTest::goalStays);
    }

    private static LockQuest square() {
        LockQuest quest = new LockQuest();
        CHECKS.due("make of the square", quest.make(Draws.seedOf(SQUARE), 5, 1, 1, 1), 5);
        return quest;
    }

    private static LockQuest twoRoomsAfterTwelve() {
        LockQuest quest = new LockQuest();
        quest.make(-7, 12, 3, 3, 2);
        CHECKS.due("room(11, 1) of twelve rooms", quest.room(11, 1), 3);
        CHECKS.due("behind(0, 3) of twelve rooms", quest.behind(0, 3), 10);
        CHECKS.due("make(0, 2, 1, 0, 0)", quest.make(0, 2, 1, 0, 0), 1);
        return quest;
    }

    private static void newObject() {
        CHECKS.sentence("Promise 1", "The adventure of make(0, 2, 1, 0, 0).", "and its game begun");
        LockQuest quest = new LockQuest();
        CHECKS.due("a new object", Sight.all(quest), "here 0 having 0 steps 2 hint 100 situations 3 safe true "
                + "| goal 1 | -1 0 | 0 1 | 0 1 | 0 1 | 0 0 | 1 0 | 0 0 | 1 1 | 1 | 0");
        LockQuest other = square();
        other.take();
        CHECKS.due("make(0, 2, 1, 0, 0)", other.make(0, 2, 1, 0, 0), 1);
        CHECKS.due("make(0, 2, 1, 0, 0) and a new object", Sight.all(other), Sight.all(quest));
    }

    private static void isMade(int rooms, int levels, int small, int barriers, boolean due) {
        LockQuest quest = new LockQuest();
        int doors = quest.make(5, rooms, levels, small, barriers);
        String call = "make(5, " + rooms + ", " + levels + ", " + small + ", " + barriers + ")";
        CHECKS.due(call + " is BAD", doors == LockQuest.BAD, !due);
        CHECKS.due(call + " makes so many rooms", Sight.facts(quest, Sight.PARENT).split(" ").length, due ? rooms : 2);
        CHECKS.due(call + " counts its doors", due && doors < rooms - 1, false);
    }

    private static void roomsOfMake() {
        CHECKS.sentence("Promise 2", "BAD when rooms is not 2 .. 12", "rooms alone");
        for (int rooms : new int[] {LEAST, -2, -1, 0, 1, 13, 14, 256 + 5, 1 << 16, MOST}) {
            isMade(rooms, 1, 0, 0, false);
        }
        isMade(2, 1, 0, 0, true);
        isMade(12, 1, 0, 0, true);
    }

    private static void levelsOfMake() {
        CHECKS.sentence("Promise 2", "levels not 1 .. 3", "levels alone");
        for (int levels : new int[] {LEAST, -1, 0, 4, 5, 11, MOST}) {
            isMade(12, levels, 0, 0, false);
        }
        isMade(12, 1, 0, 0, true);
        isMade(12, 3, 0, 0, true);
    }

    private static void levelsLessThanRooms() {
        CHECKS.sentence("Promise 2", "or not less than rooms", "as many, one less");
        isMade(2, 2, 0, 0, false);
        isMade(2, 3, 0, 0, false);
        isMade(3, 3, 0, 0, false);
        isMade(2, 1, 0, 0, true);
        isMade(3, 2, 0, 0, true);
        isMade(4, 3, 0, 0, true);
    }

    private static void smallOfMake() {
        CHECKS.sentence("Promise 2", "small not 0 .. 3", "small alone");
        for (int small : new int[] {LEAST, -1, 4, 5, MOST}) {
            isMade(12, 2, small, 0, false);
        }
        isMade(12, 2, 0, 0, true);
        isMade(12, 2, 3, 0, true);
    }

    private static void barriersOfMake() {
        CHECKS.sentence("Promise 2", "or barriers not 0 .. 2.", "barriers alone");
        for (int barriers : new int[] {LEAST, -1, 3, 4, MOST}) {
            isMade(12, 2, 0, barriers, false);
        }
        isMade(12, 2, 0, 0, true);
        isMade(12, 2, 0, 2, true);
    }

    private static void boundsOfMakeTogether() {
        CHECKS.sentence("Promise 2", "BAD when rooms is not 2 .. 12, levels not 1 .. 3 or not less than rooms, small "
                + "not 0 .. 3, or barriers not 0 .. 2.", "all bounds, within and one beyond");
        for (int rooms = 1; rooms <= 13; rooms++) {
            for (int levels = 0; levels <= 4; levels++) {
                for (int small = -1; small <= 4; small++) {
                    for (int barriers = -1; barriers <= 3; barriers++) {
                        boolean due = rooms >= 2 && rooms <= 12 && levels >= 1 && levels <= 3 && levels < rooms
                                && small >= 0 && small <= 3 && barriers >= 0 && barriers <= 2;
                        isMade(rooms, levels, small, barriers, due);
                    }
                }
            }
        }
    }

    private static void anySeed() {
        CHECKS.sentence("Promise 2", "Makes an adventure with R = rooms, K = levels", "of any seed");
        for (long seed : new long[] {Long.MIN_VALUE, -1, 0, 1, Long.MAX_VALUE}) {
            LockQuest quest = new LockQuest();
            CHECKS.due("make(" + seed + ", 12, 3, 3, 2) is made", quest.make(seed, 12, 3, 3, 2) >= 11, true);
            CHECKS.due("the last room of seed " + seed, quest.room(11, Sight.LEVEL) >= 0, true);
        }
    }

    private static void doorsWithoutLoops() {
        CHECKS.sentence("Promise 2", "how many doors there are, loops and all", "no loops");
        LockQuest quest = new LockQuest();
        CHECKS.due("make of two rooms", quest.make(9, 2, 1, 3, 2), 1);
        String script = SQUARE.replace("loops 3:0", "loops 3:1");
        CHECKS.due("make of a square that is not closed", quest.make(Draws.seedOf(script), 5, 1, 1, 1), 4);
    }

    private static void doorsWithLoops() {
        CHECKS.sentence("Promise 2", "how many doors there are, loops and all", "one loop, two loops");
        CHECKS.due("the doors of the square", Sight.facts(square(), Sight.DOORS), "3 2 2 2 1");
        String script = "rooms 1:0 4:+ 2:0 4:+ 3:1 4:+ 4:3 4:+ 5:4 4:+ 6:5 | keys 6:* | goal 1:0 "
                + "| places 4:1 4:0 4:1 4:0 4:3 4:* | loops ";
        LockQuest quest = new LockQuest();
        CHECKS.due("make with two loops", quest.make(Draws.seedOf(script + "3:0 3:0"), 7, 1, 0, 0), 8);
        CHECKS.due("make with one loop", quest.make(Draws.seedOf(script + "3:+ 3:0"), 7, 1, 0, 0), 7);
        CHECKS.due("make with neither", quest.make(Draws.seedOf(script + "3:+ 3:+"), 7, 1, 0, 0), 6);
    }

    private static void makeBeginsItsGame() {
        CHECKS.sentence("Promise 2", "and begins its game", "after another game");
        LockQuest quest = square();
        quest.take();
        quest.walk(0);
        CHECKS.due("toggle", quest.toggle(), 1);
        CHECKS.due("here before make", quest.here(), 1);
        CHECKS.due("having before make", quest.having(), 65);
        quest.make(Draws.seedOf(SQUARE), 5, 1, 1, 1);
        CHECKS.due("the square made again", Sight.all(quest), Sight.all(square()));
        CHECKS.due("the small door is shut again", quest.walk(0), LockQuest.LOCKED);
        CHECKS.due("what was taken lies there again", quest.take(), 2);
    }

    private static void parentOfRoomZero() {
        CHECKS.sentence("Promise 3", "what = 0 its parent (-1 for room 0)", "room 0");
        CHECKS.due("room(0, 0) of a new object", new LockQuest().room(0, 0), -1);
        CHECKS.due("the parents in the square", Sight.facts(square(), 0), "-1 0 1 2 0");
    }

    private static void doorOfRoomZero() {
        CHECKS.sentence("Promise 3", "2 its door's kind (0 plain, also for room 0; 1 a lock, 2 small, 3 red, 4 blue)",
                "room 0, and each kind");
        CHECKS.due("the kinds in the square", Sight.facts(square(), 2), "0 2 4 0 1");
        LockQuest red = new LockQuest();
        red.make(Draws.seedOf("rooms 1:0 4:0 2:0 | keys 2:1 | barriers 1:0 2:0"), 3, 1, 0, 2);
        CHECKS.due("the kinds with a red door", Sight.facts(red, 2), "0 1 3");
    }

    private static void negativePlaces() {
        CHECKS.sentence("Promise 3", "3 x, 4 y of its place", "less than 0");
        LockQuest quest = square();
        CHECKS.due("x in the square", Sight.facts(quest, 3), "0 -1 -1 0 0");
        CHECKS.due("y in the square", Sight.facts(quest, 4), "0 0 -1 -1 1");
    }

    private static void whatLiesAtFirst() {
        CHECKS.sentence("Promise 3", "5 what lies there at first", "when it was taken");
        LockQuest quest = square();
        CHECKS.due("what lies in the square", Sight.facts(quest, 5), "9 0 0 0 0");
        CHECKS.due("take", quest.take(), 2);
        CHECKS.due("what lay in the square before it was taken", Sight.facts(quest, 5), "9 0 0 0 0");
    }

    private static void keysLyingTogether() {
        CHECKS.sentence("Promise 3", "(the sum of 2^(l - 1) for keys l, and of 8 * 2^i for small keys i)",
                "all of them, some, none");
        String rooms = "rooms 1:0 4:+ 2:0 4:+ 3:0 4:+ 4:0 4:+ 5:0 1:0 1:0 | keys ";
        LockQuest all = new LockQuest();
        all.make(Draws.seedOf(rooms + "5:0 6:0 7:0 | small doors 4:0 3:0 2:0 | small keys 2:0 2:0 2:0"), 8, 3, 3, 0);
        CHECKS.due("all keys in room 0", Sight.facts(all, 5), "63 0 0 0 0 0 0 0");
        LockQuest each = new LockQuest();
        each.make(Draws.seedOf(rooms + "5:1 6:5 7:6 | small doors 4:0 3:0 2:0 | small keys 2:1 2:0 2:1"), 8, 3, 3, 0);
        CHECKS.due("keys in many rooms", Sight.facts(each, 5), "16 1 0 0 40 2 4 0");
    }

    private static void switchOrNone() {
        CHECKS.sentence("Promise 3", "6 whether it has a switch (1 or 0)", "1 and 0");
        CHECKS.due("the switches in the square", Sight.facts(square(), 6), "0 1 1 0 0");
        CHECKS.due("the switches of a new object", Sight.facts(new LockQuest(), 6), "0 0");
    }

    private static void noSuchRoom() {
        CHECKS.sentence("Promise 3", "-100 when there is no such room", "too small, too large");
        LockQuest quest = square();
        for (int r : new int[] {LEAST, -100, -2, -1, 5, 6, 11, 12, 13, 256, MOST}) {
            for (int what = 0; what <= 7; what++) {
                CHECKS.due("room(" + r + ", " + what + ")", quest.room(r, what), -100);
            }
        }
        CHECKS.due("room(4, 0)", quest.room(4, 0), 0);
        CHECKS.due("room(2, 7) of a new object", new LockQuest().room(2, 7), -100);
    }

    private static void noSuchFact() {
        CHECKS.sentence("Promise 3", "or what is not 0 .. 7.", "too small, too large");
        LockQuest quest = square();
        for (int what : new int[] {LEAST, -8, -1, 8, 9, 256, MOST}) {
            for (int r = -1; r <= 5; r++) {
                CHECKS.due("room(" + r + ", " + what + ")", quest.room(r, what), -100);
            }
        }
        CHECKS.due("room(0, 7)", quest.room(0, 7), 3);
    }

    private static void roomsOfALargerAdventureBefore() {
        CHECKS.sentence("Promise 3", "-100 when there is no such room", "there was one in the adventure before");
        LockQuest quest = twoRoomsAfterTwelve();
        for (int r = 2; r < 12; r++) {
            CHECKS.due("room(" + r + ", 1) of two rooms", quest.room(r, 1), -100);
        }
        CHECKS.due("what lies in two rooms", Sight.facts(quest, 5), "1 0");
        CHECKS.due("the switches in two rooms", Sight.facts(quest, 6), "0 0");
        CHECKS.due("the doors in two rooms", Sight.facts(quest, 7), "1 1");
    }

    private static void noSuchDoorBehind() {
        CHECKS.sentence("Promise 4", "The room behind door i of room r; BAD when there is none.", "no such door");
        LockQuest quest = square();
        int[] doors = {3, 2, 2, 2, 1};
        for (int r = 0; r < 5; r++) {
            for (int i : new int[] {LEAST, -1, doors[r], doors[r] + 1, 11, 12, 100, MOST}) {
                CHECKS.due("behind(" + r + ", " + i + ")", quest.behind(r, i), LockQuest.BAD);
            }
        }
        CHECKS.due("the last door of room 0", quest.behind(0, 2), 3);
        CHECKS.due("the first door of room 0", quest.behind(0, 0), 1);
    }

    private static void doorsOfALargerAdventureBefore() {
        CHECKS.sentence("Promise 4", "The room behind door i of room r; BAD when there is none.",
                "there was one in the adventure before");
        LockQuest quest = twoRoomsAfterTwelve();
        for (int r = 0; r < 12; r++) {
            CHECKS.due("behind(" + r + ", 0) of two rooms", quest.behind(r, 0), r < 2 ? 1 - r : LockQuest.BAD);
            CHECKS.due("behind(" + r + ", 1) of two rooms", quest.behind(r, 1), LockQuest.BAD);
        }
        CHECKS.due("walk(1) in two rooms", quest.walk(1), LockQuest.BAD);
    }

    private static void noSuchRoomBehind() {
        CHECKS.sentence("Promise 4", "The room behind door i of room r; BAD when there is none.", "no such room");
        LockQuest quest = square();
        for (int r : new int[] {LEAST, -1, 5, 6, 11, 12, MOST}) {
            for (int i = -1; i <= 3; i++) {
                CHECKS.due("behind(" + r + ", " + i + ")", quest.behind(r, i), LockQuest.BAD);
            }
        }
        CHECKS.due("the door of the last room", quest.behind(4, 0), 0);
    }

    private static void goalStays() {
        CHECKS.sentence("Promise 5", "The goal.", "whatever is done in the game");
        LockQuest quest = new LockQuest();
        CHECKS.due("the goal of two rooms", quest.goal(), 1);
        quest.take();
        quest.walk(0);
        CHECKS.due("the goal when one is there", quest.goal(), 1);
        quest.restart();
        CHECKS.due("the goal after restart", quest.goal(), 1);
    }
}
