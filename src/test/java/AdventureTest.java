/** Promises 1 to 5: a new object, make, room, behind, goal. AdventureEdgesTest and MakingEdgesTest have their edges. */
public final class AdventureTest {
    private static final Checks CHECKS = new Checks("AdventureTest");

    // Of each room: parent, level, kind of its door, x, y, what lies there, switch, doors; then the rooms behind them.
    private static final int[][] NEW = {
        {-1, 0, 0, 0, 0, 1, 0, 1, 1},
        {0, 1, 1, 1, 0, 0, 0, 1, 0},
    };
    // Room 4 goes west from room 3 and comes to lie behind room 2, which is next to both but joined to neither.
    private static final int[][] OF_12345 = {
        {-1, 0, 0, 0, 0, 24, 0, 2, 1, 2},
        {0, 0, 2, 1, 0, 2, 1, 2, 0, 3},
        {0, 0, 2, 0, -1, 0, 0, 1, 0},
        {1, 0, 4, 1, -1, 0, 1, 3, 1, 4, 5},
        {3, 0, 0, -1, -1, 0, 0, 1, 3},
        {3, 0, 0, 1, 1, 1, 0, 2, 3, 6},
        {5, 1, 1, 1, 2, 0, 0, 2, 5, 7},
        {6, 2, 1, 2, 2, 0, 0, 1, 6},
    };
    // The largest: three small doors, a blue and a red barrier, and the loops 4 to 9 and 6 to 8.
    private static final int[][] OF_MINUS_7 = {
        {-1, 0, 0, 0, 0, 9, 1, 4, 1, 2, 3, 10},
        {0, 0, 2, -1, 0, 0, 0, 2, 0, 5},
        {0, 1, 1, 0, -1, 2, 0, 2, 0, 7},
        {0, 0, 2, -2, 0, 0, 1, 4, 0, 4, 6, 8},
        {3, 0, 2, -3, 0, 0, 0, 2, 3, 9},
        {1, 0, 0, -1, 1, 0, 0, 1, 1},
        {3, 0, 4, 1, 0, 0, 1, 3, 3, 9, 8},
        {2, 2, 1, 0, 1, 0, 0, 2, 2, 11},
        {3, 0, 0, 2, 0, 4, 0, 2, 3, 6},
        {6, 0, 0, -4, 0, 0, 0, 2, 6, 4},
        {0, 0, 3, 0, -2, 48, 1, 1, 0},
        {7, 3, 1, 1, 1, 0, 0, 1, 7},
    };
    // As many rooms as levels allow: each rises, so no door is plain and nothing that was asked for besides is made.
    private static final int[][] OF_3 = {
        {-1, 0, 0, 0, 0, 3, 0, 1, 1},
        {0, 1, 1, 0, 1, 0, 0, 2, 0, 2},
        {1, 2, 1, 0, 2, 4, 0, 2, 1, 3},
        {2, 3, 1, 0, 3, 0, 0, 1, 2},
    };

    public static void main(String[] args) {
        newObject();
        make();
        goal();
        CHECKS.end();
    }

    private static void newObject() {
        LockQuest quest = new LockQuest();
        expect(quest, "new", NEW, 1);
        CHECKS.due("here of a new object", quest.here(), 0);
        CHECKS.due("having of a new object", quest.having(), 0);
        CHECKS.due("steps of a new object", quest.steps(), 2);
        CHECKS.due("make(0, 2, 1, 0, 0)", quest.make(0, 2, 1, 0, 0), 1);
        expect(quest, "make(0, 2, 1, 0, 0)", NEW, 1);
    }

    private static void make() {
        LockQuest quest = new LockQuest();
        CHECKS.due("make(12345, 8, 2, 2, 1)", quest.make(12345, 8, 2, 2, 1), 7);
        expect(quest, "make(12345, 8, 2, 2, 1)", OF_12345, 7);
        CHECKS.due("make(-7, 12, 3, 3, 2)", quest.make(-7, 12, 3, 3, 2), 13);
        expect(quest, "make(-7, 12, 3, 3, 2)", OF_MINUS_7, 11);
        CHECKS.due("make(3, 4, 3, 3, 2)", quest.make(3, 4, 3, 3, 2), 3);
        expect(quest, "make(3, 4, 3, 3, 2)", OF_3, 3);
        CHECKS.due("the least rooms", quest.make(Long.MAX_VALUE, 2, 1, 3, 2), 1);
        CHECKS.due("a room of the adventure before", quest.room(2, 0), -100);
        CHECKS.due("the same seed again", quest.make(-7, 12, 3, 3, 2), 13);
        expect(quest, "the same seed again", OF_MINUS_7, 11);
    }

    private static void goal() {
        LockQuest quest = new LockQuest();
        quest.make(0, 12, 1, 0, 0);
        CHECKS.due("a goal that is not the last room", quest.goal(), 6);
        quest.walk(2);
        CHECKS.due("the goal after a walk", quest.goal(), 6);
        CHECKS.due("the goal's level", quest.room(6, 1), 1);
    }

    private static void expect(LockQuest quest, String name, int[][] rooms, int goal) {
        for (int r = 0; r < rooms.length; r++) {
            for (int what = 0; what < 8; what++) {
                CHECKS.due("room(" + r + ", " + what + ") of " + name, quest.room(r, what), rooms[r][what]);
            }
            for (int i = 0; i < rooms[r][7]; i++) {
                CHECKS.due("behind(" + r + ", " + i + ") of " + name, quest.behind(r, i), rooms[r][8 + i]);
            }
            CHECKS.due("no more doors in room " + r + " of " + name, quest.behind(r, rooms[r][7]), LockQuest.BAD);
        }
        CHECKS.due("no more rooms in " + name, quest.room(rooms.length, 0), -100);
        CHECKS.due("goal of " + name, quest.goal(), goal);
    }
}
