import java.util.function.ToIntFunction;

/** The edges in the document's Terms, THE GAME, and in promises 6 to 11. Each method is the test of one sentence. */
public final class GameEdgesTest {
    private static final Checks CHECKS = new Checks("GameEdgesTest");
    private static final int TAKE = 100;
    private static final int TOGGLE = 200;

    // Room 1 has key 1, room 0 key 2; room 2 behind a lock of level 1, room 3 behind that behind one of level 2.
    private static final String LOCKS = "rooms 1:0 4:+ 2:0 1:0 | keys 2:1 3:0 | goal 1:0 | places 4:0 4:1 4:2";
    // Rooms 1 and 2 behind small doors, room 4 behind a lock; small key 1 in room 0, small key 0 in room 3, the key in
    // room 1.
    private static final String SMALL = "rooms 1:0 4:+ 2:0 4:+ 3:0 4:+ 4:0 | keys 4:1 | small doors 3:0 2:0 "
            + "| small keys 2:1 2:0 | goal 1:0 | places 4:0 4:1 4:2 4:3";
    // Rooms 0 to 3 in a square that a loop from room 3 to room 0 closes; behind(0): 1 4 3. Room 1's door follows.
    private static final String SQUARE = "rooms 1:0 4:+ 2:1 4:+ 3:2 4:+ 4:0 | keys 4:0 | ";
    private static final String CLOSED = " | goal 1:0 | places 4:0 4:1 4:2 4:3 | loops 3:0";
    // All three keys and all three small keys in room 0, behind whose doors are 1 2 3 (small), 4 (red), 5 (a lock).
    private static final String TREASURE = "rooms 1:0 4:+ 2:0 4:+ 3:0 4:+ 4:0 4:+ 5:0 1:0 1:0 | keys 5:0 6:0 7:0 "
            + "| small doors 4:0 3:0 2:0 | small keys 2:0 2:0 2:0 | barriers 1:0 2:0 | goal 1:0";

    public static void main(String[] args) {
        CHECKS.run(
                GameEdgesTest::atFirst,
                GameEdgesTest::aLockNeedsItsOwnKey,
                GameEdgesTest::aKeyStays,
                GameEdgesTest::noSmallKey,
                GameEdgesTest::asManySmallDoorsOpenedAsKeysTaken,
                GameEdgesTest::anOpenedSmallDoorStaysOpen,
                GameEdgesTest::aSmallDoorFromBehind,
                GameEdgesTest::red,
                GameEdgesTest::blue,
                GameEdgesTest::loopsArePlain,
                GameEdgesTest::takeAll,
                GameEdgesTest::takeNothing,
                GameEdgesTest::toggleToAndFro,
                GameEdgesTest::refusedMake,
                GameEdgesTest::refusedRoomAndBehind,
                GameEdgesTest::refusedWalk,
                GameEdgesTest::lockedWalk,
                GameEdgesTest::refusedToggle,
                GameEdgesTest::refusedHint,
                GameEdgesTest::orderOfRefusals,
                GameEdgesTest::restartFromTheGoal,
                GameEdgesTest::restartTwice,
                GameEdgesTest::walkWithoutSuchADoor,
                GameEdgesTest::walkLocked,
                GameEdgesTest::walkToAndFro,
                GameEdgesTest::takeHowMany,
                GameEdgesTest::toggleWithoutASwitch,
                GameEdgesTest::hereAtFirst,
                GameEdgesTest::havingNothing,
                GameEdgesTest::havingAll,
                GameEdgesTest::havingSmallKeysCounted);
    }

    private static LockQuest made(String script, int rooms, int levels, int small, int barriers) {
        LockQuest quest = new LockQuest();
        quest.make(Draws.seedOf(script), rooms, levels, small, barriers);
        return quest;
    }

    private static LockQuest locks() {
        return made(LOCKS, 4, 2, 0, 0);
    }

    private static LockQuest small() {
        return made(SMALL, 5, 1, 2, 0);
    }

    private static LockQuest squareWithSmallDoor() {
        return made(SQUARE + "small doors 3:0 | small keys 1:0" + CLOSED, 5, 1, 1, 0);
    }

    private static LockQuest squareWithRedDoor() {
        return made(SQUARE + "barriers 3:0 2:0" + CLOSED, 5, 1, 0, 1);
    }

    private static LockQuest squareWithBlueDoor() {
        return made(SQUARE + "barriers 3:0 2:1" + CLOSED, 5, 1, 0, 1);
    }

    private static LockQuest treasure() {
        return made(TREASURE, 8, 3, 3, 1);
    }

    private static void walk(LockQuest quest, int i, int due) {
        int from = quest.here();
        CHECKS.due("walk(" + i + ") from room " + from, quest.walk(i), due);
        CHECKS.due("here after walk(" + i + ") from room " + from, quest.here(), due < 0 ? from : due);
    }

    private static void take(LockQuest quest, int due) {
        CHECKS.due("take in room " + quest.here(), quest.take(), due);
    }

    private static void toggle(LockQuest quest, int due) {
        CHECKS.due("toggle in room " + quest.here(), quest.toggle(), due);
    }

    private static void having(LockQuest quest, int due) {
        CHECKS.due("having in room " + quest.here(), quest.having(), due);
    }

    private static void atFirst() {
        CHECKS.sentence("THE GAME", "Its SITUATION: the room where one is, at first 0; the keys one has; the small "
                + "keys that were taken; the small doors that were opened; the SWITCH POSITION, 0 or 1, at first 0.",
                "at first");
        LockQuest quest = treasure();
        CHECKS.due("here at first", quest.here(), 0);
        having(quest, 0);
        walk(quest, 0, LockQuest.LOCKED);
        walk(quest, 1, LockQuest.LOCKED);
        walk(quest, 2, LockQuest.LOCKED);
        walk(quest, 4, LockQuest.LOCKED);
        walk(quest, 3, 4);
    }

    private static void aLockNeedsItsOwnKey() {
        CHECKS.sentence("THE GAME", "A lock of level l needs key l", "no key, another key");
        LockQuest quest = locks();
        walk(quest, 1, LockQuest.LOCKED);
        take(quest, 1);
        having(quest, 2);
        walk(quest, 1, LockQuest.LOCKED);
        walk(quest, 0, 1);
        take(quest, 1);
        walk(quest, 0, 0);
        walk(quest, 1, 2);
        walk(quest, 1, 3);
        LockQuest other = locks();
        walk(other, 0, 1);
        take(other, 1);
        having(other, 1);
        walk(other, 0, 0);
        walk(other, 1, 2);
        walk(other, 1, LockQuest.LOCKED);
    }

    private static void aKeyStays() {
        CHECKS.sentence("THE GAME", "A lock of level l needs key l (which stays)", "used many times");
        LockQuest quest = new LockQuest();
        take(quest, 1);
        for (int n = 0; n < 4; n++) {
            walk(quest, 0, 1);
            having(quest, 1);
            walk(quest, 0, 0);
            having(quest, 1);
        }
    }

    private static void noSmallKey() {
        CHECKS.sentence("THE GAME", "a small door that was not opened needs that more small keys were taken than small "
                + "doors opened, and is opened then", "none taken, none opened");
        LockQuest quest = small();
        walk(quest, 0, LockQuest.LOCKED);
        walk(quest, 1, LockQuest.LOCKED);
        take(quest, 1);
        having(quest, 8);
        walk(quest, 1, 2);
        having(quest, 0);
    }

    private static void asManySmallDoorsOpenedAsKeysTaken() {
        CHECKS.sentence("THE GAME", "a small door that was not opened needs that more small keys were taken than small "
                + "doors opened, and is opened then", "as many taken as opened");
        LockQuest quest = small();
        take(quest, 1);
        walk(quest, 0, 1);
        walk(quest, 0, 0);
        walk(quest, 1, LockQuest.LOCKED);
        walk(quest, 2, 3);
        take(quest, 1);
        having(quest, 8);
        walk(quest, 0, 0);
        walk(quest, 1, 2);
        having(quest, 0);
    }

    private static void anOpenedSmallDoorStaysOpen() {
        CHECKS.sentence("THE GAME", "a small door that was not opened needs that more small keys were taken than small "
                + "doors opened, and is opened then", "it was opened");
        LockQuest quest = small();
        take(quest, 1);
        for (int n = 0; n < 3; n++) {
            walk(quest, 0, 1);
            having(quest, 0);
            walk(quest, 0, 0);
            having(quest, 0);
        }
        walk(quest, 2, 3);
        take(quest, 1);
        walk(quest, 0, 0);
        walk(quest, 0, 1);
        having(quest, 8);
    }

    private static void aSmallDoorFromBehind() {
        CHECKS.sentence("THE GAME", "a small door that was not opened needs that more small keys were taken than small "
                + "doors opened, and is opened then", "from the side that is not its parent's");
        LockQuest quest = squareWithSmallDoor();
        walk(quest, 0, LockQuest.LOCKED);
        walk(quest, 2, 3);
        walk(quest, 0, 2);
        walk(quest, 0, 1);
        walk(quest, 0, LockQuest.LOCKED);
        quest.restart();
        take(quest, 2);
        walk(quest, 2, 3);
        walk(quest, 0, 2);
        walk(quest, 0, 1);
        having(quest, 9);
        walk(quest, 0, 0);
        having(quest, 1);
        walk(quest, 0, 1);
    }

    private static void red() {
        CHECKS.sentence("THE GAME", "a red door needs position 0", "both positions, from both sides");
        LockQuest quest = squareWithRedDoor();
        walk(quest, 0, 1);
        walk(quest, 0, 0);
        toggle(quest, 1);
        walk(quest, 0, LockQuest.LOCKED);
        toggle(quest, 0);
        walk(quest, 0, 1);
        toggle(quest, 1);
        walk(quest, 0, LockQuest.LOCKED);
        toggle(quest, 0);
        walk(quest, 0, 0);
    }

    private static void blue() {
        CHECKS.sentence("THE GAME", "a blue one position 1", "both positions, from both sides");
        LockQuest quest = squareWithBlueDoor();
        walk(quest, 0, LockQuest.LOCKED);
        toggle(quest, 1);
        walk(quest, 0, 1);
        walk(quest, 0, 0);
        walk(quest, 0, 1);
        toggle(quest, 0);
        walk(quest, 0, LockQuest.LOCKED);
        toggle(quest, 1);
        walk(quest, 0, 0);
    }

    private static void loopsArePlain() {
        CHECKS.sentence("LOOPS", "a plain door leads from one to the other besides.", "whatever doors its rooms have");
        LockQuest quest = squareWithRedDoor();
        toggle(quest, 1);
        walk(quest, 2, 3);
        walk(quest, 1, 0);
        toggle(quest, 0);
        walk(quest, 2, 3);
        walk(quest, 1, 0);
        // Room 3 has the small door here, which its loop goes round.
        LockQuest other = made(SQUARE + "small doors 3:2 | small keys 3:0" + CLOSED, 5, 1, 1, 0);
        walk(other, 2, 3);
        walk(other, 0, LockQuest.LOCKED);
        walk(other, 1, 0);
        having(other, 0);
    }

    private static void takeAll() {
        CHECKS.sentence("THE GAME", "to TAKE all that lies in the room and was not taken", "all there are");
        LockQuest quest = treasure();
        take(quest, 6);
        having(quest, 31);
        walk(quest, 0, 1);
        walk(quest, 0, 0);
        walk(quest, 4, 5);
        walk(quest, 1, 6);
        walk(quest, 1, 7);
    }

    private static void takeNothing() {
        CHECKS.sentence("THE GAME", "to TAKE all that lies in the room and was not taken",
                "nothing lies there, or it was taken");
        LockQuest quest = treasure();
        walk(quest, 3, 4);
        take(quest, 0);
        having(quest, 0);
        walk(quest, 0, 0);
        take(quest, 6);
        take(quest, 0);
        walk(quest, 0, 1);
        walk(quest, 0, 0);
        take(quest, 0);
        having(quest, 23);
    }

    private static void toggleToAndFro() {
        CHECKS.sentence("THE GAME", "to TOGGLE, where there is a switch: the position becomes the other one.",
                "and the first one again");
        LockQuest quest = squareWithRedDoor();
        for (int n = 0; n < 3; n++) {
            toggle(quest, 1);
            having(quest, 64);
            toggle(quest, 0);
            having(quest, 0);
        }
        walk(quest, 0, 1);
        toggle(quest, 1);
        having(quest, 64);
    }

    private static int act(LockQuest quest, int action) {
        return action == TAKE ? quest.take() : action == TOGGLE ? quest.toggle() : quest.walk(action);
    }

    private static LockQuest played(int... actions) {
        LockQuest quest = new LockQuest();
        quest.make(12345, 8, 2, 2, 1);
        for (int action : actions) {
            act(quest, action);
        }
        return quest;
    }

    /**
     * Compares an object on which the call was refused with one on which it was not made, at once and as games go on.
     * The adventure comes last, as it is seen with refused calls too.
     */
    private static void changesNothing(String call, ToIntFunction<LockQuest> refused, int due, int... before) {
        LockQuest quest = played(before);
        LockQuest other = played(before);
        CHECKS.due(call, refused.applyAsInt(quest), due);
        CHECKS.due("the game after " + call, Sight.game(quest), Sight.game(other));
        int[] after = {0, TAKE, TOGGLE, 1, TAKE, 2, TOGGLE, 0, 1, TAKE, 0, 2, TAKE, 1, 1, 0};
        for (int action : after) {
            CHECKS.due("action " + action + " after " + call, act(quest, action), act(other, action));
            CHECKS.due("the game then", Sight.game(quest), Sight.game(other));
        }
        CHECKS.due("the adventure after " + call, Sight.adventure(quest), Sight.adventure(other));
    }

    // Where the games of seed 12345 are when the refused calls come.
    private static final int[] START = {};
    private static final int[] ROOM_1 = {TAKE, 0, TAKE};
    private static final int[] ROOM_1_TOGGLED = {TAKE, 0, TAKE, TOGGLE};
    private static final int[] ROOM_5 = {TAKE, 0, TAKE, TOGGLE, 1, 2};
    private static final int[] THE_GOAL = {TAKE, 0, TAKE, TOGGLE, 1, 2, TAKE, 1, 1};

    private static void refusedMake() {
        CHECKS.sentence("THE GAME", "A call that is refused changes nothing", "make");
        int[][] wrong = {{1, 1, 0, 0}, {13, 1, 0, 0}, {5, 0, 0, 0}, {5, 4, 0, 0}, {3, 3, 0, 0}, {5, 1, -1, 0},
            {5, 1, 4, 0}, {5, 1, 0, -1}, {5, 1, 0, 3}, {13, 4, 4, 3}};
        for (int[] a : wrong) {
            String call = "make(1, " + a[0] + ", " + a[1] + ", " + a[2] + ", " + a[3] + ")";
            changesNothing(call, quest -> quest.make(1, a[0], a[1], a[2], a[3]), LockQuest.BAD, START);
            changesNothing(call, quest -> quest.make(1, a[0], a[1], a[2], a[3]), LockQuest.BAD, ROOM_1_TOGGLED);
            changesNothing(call, quest -> quest.make(1, a[0], a[1], a[2], a[3]), LockQuest.BAD, THE_GOAL);
        }
    }

    private static void refusedRoomAndBehind() {
        CHECKS.sentence("THE GAME", "A call that is refused changes nothing", "room, behind");
        changesNothing("room(8, 0)", quest -> quest.room(8, 0), -100, ROOM_1);
        changesNothing("room(-1, 5)", quest -> quest.room(-1, 5), -100, ROOM_1);
        changesNothing("room(0, 8)", quest -> quest.room(0, 8), -100, ROOM_5);
        changesNothing("room(0, -1)", quest -> quest.room(0, -1), -100, ROOM_5);
        changesNothing("behind(8, 0)", quest -> quest.behind(8, 0), LockQuest.BAD, ROOM_1);
        changesNothing("behind(0, 2)", quest -> quest.behind(0, 2), LockQuest.BAD, ROOM_5);
    }

    private static void refusedWalk() {
        CHECKS.sentence("THE GAME", "A call that is refused changes nothing", "walk, no such door");
        changesNothing("walk(2) in room 0", quest -> quest.walk(2), LockQuest.BAD, START);
        changesNothing("walk(2) in room 1", quest -> quest.walk(2), LockQuest.BAD, ROOM_1);
        changesNothing("walk(-1) in room 5", quest -> quest.walk(-1), LockQuest.BAD, ROOM_5);
        changesNothing("walk(1) in room 7", quest -> quest.walk(1), LockQuest.BAD, THE_GOAL);
    }

    private static void lockedWalk() {
        CHECKS.sentence("THE GAME", "A call that is refused changes nothing", "walk, the door does not open");
        changesNothing("walk(0), a small door", quest -> quest.walk(0), LockQuest.LOCKED, START);
        changesNothing("walk(1), a small door", quest -> quest.walk(1), LockQuest.LOCKED, START);
        changesNothing("walk(1), a blue door", quest -> quest.walk(1), LockQuest.LOCKED, ROOM_1);
        changesNothing("walk(1), a lock", quest -> quest.walk(1), LockQuest.LOCKED, ROOM_5);
    }

    private static void refusedToggle() {
        CHECKS.sentence("THE GAME", "A call that is refused changes nothing", "toggle");
        changesNothing("toggle in room 0", LockQuest::toggle, LockQuest.BAD, START);
        changesNothing("toggle in room 5", LockQuest::toggle, LockQuest.BAD, ROOM_5);
        changesNothing("toggle in room 7", LockQuest::toggle, LockQuest.BAD, THE_GOAL);
    }

    private static void refusedHint() {
        CHECKS.sentence("THE GAME", "A call that is refused changes nothing", "hint");
        changesNothing("hint in room 7", LockQuest::hint, LockQuest.BAD, THE_GOAL);
    }

    /** No call can be refused in two ways at once; where one way is nearest to the other, it is still the right one. */
    private static void orderOfRefusals() {
        CHECKS.sentence("THE GAME", "refusals are tested in the order in which they are named.", "one way at a time");
        LockQuest quest = new LockQuest();
        walk(quest, 0, LockQuest.LOCKED);
        walk(quest, 1, LockQuest.BAD);
        walk(quest, -1, LockQuest.BAD);
        LockQuest atGoal = played(THE_GOAL);
        CHECKS.due("steps at the goal", atGoal.steps(), 0);
        CHECKS.due("hint at the goal", atGoal.hint(), LockQuest.BAD);
        CHECKS.due("make with all but the seed wrong", atGoal.make(0, 0, 0, -1, -1), LockQuest.BAD);
        CHECKS.due("room with both wrong", atGoal.room(-1, -1), -100);
        CHECKS.due("behind with both wrong", atGoal.behind(-1, -1), LockQuest.BAD);
    }

    private static void restartFromTheGoal() {
        CHECKS.sentence("Promise 6", "Begins the game anew.", "keys taken, small doors opened, the position changed");
        LockQuest quest = played(THE_GOAL);
        having(quest, 75);
        quest.restart();
        CHECKS.due("all that can be seen after restart", Sight.all(quest), Sight.all(played(START)));
        walk(quest, 0, LockQuest.LOCKED);
        take(quest, 2);
        walk(quest, 0, 1);
        walk(quest, 1, LockQuest.LOCKED);
        take(quest, 1);
    }

    private static void restartTwice() {
        CHECKS.sentence("Promise 6", "Begins the game anew.", "one that has not gone on");
        LockQuest quest = played(START);
        quest.restart();
        CHECKS.due("the game after restart", Sight.game(quest), Sight.game(played(START)));
        quest.restart();
        CHECKS.due("all that can be seen after two restarts", Sight.all(quest), Sight.all(played(START)));
    }

    private static void walkWithoutSuchADoor() {
        CHECKS.sentence("Promise 7", "BAD when there is no such door", "too small, too large");
        LockQuest quest = played(START);
        for (int i : new int[] {Integer.MIN_VALUE, -3, -2, -1, 2, 3, 11, 12, TAKE, TOGGLE, 256, Integer.MAX_VALUE}) {
            walk(quest, i, LockQuest.BAD);
        }
        LockQuest atGoal = played(THE_GOAL);
        walk(atGoal, 1, LockQuest.BAD);
        walk(atGoal, 0, 6);
        walk(atGoal, 2, LockQuest.BAD);
        walk(atGoal, 1, 7);
    }

    private static void walkLocked() {
        CHECKS.sentence("Promise 7", "LOCKED = -2: The door does not open.", "doors of each kind");
        LockQuest quest = treasure();
        CHECKS.due("a small door", quest.walk(0), -2);
        CHECKS.due("a lock", quest.walk(4), -2);
        quest.toggle();
        CHECKS.due("a red door", quest.walk(3), -2);
        CHECKS.due("a blue door", squareWithBlueDoor().walk(0), -2);
        take(quest, 6);
        CHECKS.due("a small door with small keys", quest.walk(0), 1);
    }

    private static void walkToAndFro() {
        CHECKS.sentence("Promise 7", "Walks: the room where one is then.", "room 0, and back");
        LockQuest quest = new LockQuest();
        take(quest, 1);
        walk(quest, 0, 1);
        walk(quest, 0, 0);
        LockQuest large = new LockQuest();
        large.make(-7, 12, 3, 3, 2);
        take(large, 2);
        walk(large, 1, 2);
        walk(large, 3, LockQuest.BAD);
        walk(large, 0, 0);
    }

    private static void takeHowMany() {
        CHECKS.sentence("Promise 8", "Takes: how many things.", "none, one, all");
        LockQuest quest = treasure();
        take(quest, 6);
        take(quest, 0);
        quest.restart();
        take(quest, 6);
        LockQuest other = small();
        take(other, 1);
        take(other, 0);
        walk(other, 2, 3);
        take(other, 1);
        take(other, 0);
    }

    private static void toggleWithoutASwitch() {
        CHECKS.sentence("Promise 9", "BAD when there is no switch here.", "but in the room before");
        LockQuest quest = squareWithRedDoor();
        walk(quest, 2, 3);
        toggle(quest, LockQuest.BAD);
        walk(quest, 0, 2);
        toggle(quest, LockQuest.BAD);
        walk(quest, 0, 1);
        toggle(quest, 1);
        walk(quest, 1, 2);
        toggle(quest, LockQuest.BAD);
        having(quest, 64);
        toggle(new LockQuest(), LockQuest.BAD);
    }

    private static void hereAtFirst() {
        CHECKS.sentence("Promise 10", "The room where one is.", "at first, and when a walk was refused");
        LockQuest quest = new LockQuest();
        CHECKS.due("here of a new object", quest.here(), 0);
        quest.walk(0);
        CHECKS.due("here after LOCKED", quest.here(), 0);
        quest.walk(9);
        CHECKS.due("here after BAD", quest.here(), 0);
        quest.take();
        quest.walk(0);
        CHECKS.due("here behind the door", quest.here(), 1);
    }

    private static void havingNothing() {
        CHECKS.sentence("Promise 11", "What one has: the sum of 2^(l - 1) for keys l, plus 8 times how many more small "
                + "keys were taken than small doors opened, plus 64 times the position.", "nothing");
        having(new LockQuest(), 0);
        LockQuest quest = treasure();
        having(quest, 0);
        toggle(quest, 1);
        having(quest, 64);
    }

    private static void havingAll() {
        CHECKS.sentence("Promise 11", "What one has: the sum of 2^(l - 1) for keys l, plus 8 times how many more small "
                + "keys were taken than small doors opened, plus 64 times the position.", "all there are");
        LockQuest quest = treasure();
        take(quest, 6);
        toggle(quest, 1);
        having(quest, 7 + 8 * 3 + 64);
        for (int i = 0; i < 3; i++) {
            walk(quest, i, i + 1);
            having(quest, 7 + 8 * (2 - i) + 64);
            walk(quest, 0, 0);
        }
        toggle(quest, 0);
        having(quest, 7);
    }

    private static void havingSmallKeysCounted() {
        CHECKS.sentence("Promise 11", "What one has: the sum of 2^(l - 1) for keys l, plus 8 times how many more small "
                + "keys were taken than small doors opened, plus 64 times the position.",
                "small keys are counted, not numbered");
        LockQuest quest = small();
        CHECKS.due("small key 1 lies in room 0", quest.room(0, 5), 16);
        take(quest, 1);
        having(quest, 8);
        walk(quest, 2, 3);
        take(quest, 1);
        having(quest, 16);
        walk(quest, 0, 0);
        walk(quest, 1, 2);
        having(quest, 8);
    }
}
