import java.math.BigInteger;

/**
 * The edges in the document's Terms, DRAWING to THE DOORS OF A ROOM. Each method is the test of one sentence. The
 * scripts say what is drawn, in the document's order, so that each answer can be found with the document alone; what
 * stands there after "never" is drawn by no right program, and would show if it were.
 */
public final class MakingEdgesTest {
    private static final Checks CHECKS = new Checks("MakingEdgesTest");

    public static void main(String[] args) {
        CHECKS.run(
                MakingEdgesTest::aDrawOfOneThingMovesTheState,
                MakingEdgesTest::theStateWraps,
                MakingEdgesTest::firstAndLastOfThingsDrawn,
                MakingEdgesTest::roomZero,
                MakingEdgesTest::noMoreRoomsThanLevels,
                MakingEdgesTest::theLastRoomsRise,
                MakingEdgesTest::theLastRoomRisesFromTheTop,
                MakingEdgesTest::risesByADrawOfZeroAlone,
                MakingEdgesTest::noDrawBelowTheTop,
                MakingEdgesTest::noDrawOnceTheTopIsReached,
                MakingEdgesTest::levelsAndLocks,
                MakingEdgesTest::keys,
                MakingEdgesTest::smallDoorsUntilNoneIsPlain,
                MakingEdgesTest::noDoorIsPlainForASmallOne,
                MakingEdgesTest::noSmallDoorsAskedFor,
                MakingEdgesTest::roomZeroHasNoDoor,
                MakingEdgesTest::noSmallKeysWithoutSmallDoors,
                MakingEdgesTest::smallKeysLieBeforeSmallDoors,
                MakingEdgesTest::barriersUntilNoneIsPlain,
                MakingEdgesTest::noDoorIsPlainForABarrier,
                MakingEdgesTest::noBarrierWhereSmallDoorsAre,
                MakingEdgesTest::noBarriersAskedFor,
                MakingEdgesTest::redAndBlue,
                MakingEdgesTest::switches,
                MakingEdgesTest::goals,
                MakingEdgesTest::fourDirections,
                MakingEdgesTest::placesThatAreTaken,
                MakingEdgesTest::theParentInTheWay,
                MakingEdgesTest::theFirstFreePlace,
                MakingEdgesTest::loopsOnFourSides,
                MakingEdgesTest::noLoopRoundACorner,
                MakingEdgesTest::noLoopOverAGap,
                MakingEdgesTest::noLoopBetweenLevels,
                MakingEdgesTest::noLoopBesidesTheOwnDoor,
                MakingEdgesTest::orderOfDoors);
    }

    private static LockQuest made(String script, int rooms, int levels, int small, int barriers) {
        LockQuest quest = new LockQuest();
        long seed = Draws.seedOf(script);
        CHECKS.due("make of " + script, quest.make(seed, rooms, levels, small, barriers) >= rooms - 1, true);
        return quest;
    }

    private static void facts(LockQuest quest, String name, int what, String due) {
        CHECKS.due(name + " of the rooms", Sight.facts(quest, what), due);
    }

    private static void family(LockQuest quest, String parents, String levels, String kinds) {
        facts(quest, "parents", Sight.PARENT, parents);
        facts(quest, "levels", Sight.LEVEL, levels);
        facts(quest, "doors' kinds", Sight.KIND, kinds);
    }

    private static void places(LockQuest quest, String x, String y) {
        facts(quest, "x", Sight.X, x);
        facts(quest, "y", Sight.Y, y);
    }

    private static void behind(LockQuest quest, int r, String due) {
        CHECKS.due("the rooms behind the doors of room " + r, Sight.behind(quest, r), due);
    }

    private static int east(int direction) {
        return direction == 0 ? 1 : direction == 2 ? -1 : 0;
    }

    private static int north(int direction) {
        return direction == 1 ? 1 : direction == 3 ? -1 : 0;
    }

    private static void aDrawOfOneThingMovesTheState() {
        CHECKS.sentence("DRAWING", "DRAW(n), for n from 1 on, makes it STATE * 6364136223846793005 + "
                + "1442695040888963407", "n is 1");
        for (int d = 0; d < 4; d++) {
            int other = (d + 1) % 4;
            String script = "rooms 4:" + other + " | keys 4:" + other + " | goal 4:" + other + " | places 4:" + d;
            LockQuest quest = made(script, 2, 1, 0, 0);
            places(quest, "0 " + east(d), "0 " + north(d));
        }
    }

    private static void theStateWraps() {
        CHECKS.sentence("DRAWING", "wrapping, and is (STATE >>> 33) modulo n.", "seeds and states of both signs");
        long[] seeds = {0, 1, -1, 2, -2, Long.MAX_VALUE, Long.MIN_VALUE, Long.MAX_VALUE - 1, Long.MIN_VALUE + 1,
            Integer.MAX_VALUE, Integer.MIN_VALUE, 1L << 32, 1L << 33, -1L << 33, 1L << 62, 6364136223846793005L};
        for (long seed : seeds) {
            LockQuest quest = new LockQuest();
            CHECKS.due("make(" + seed + ", 2, 1, 0, 0)", quest.make(seed, 2, 1, 0, 0), 1);
            int d = fourthDrawOfFour(seed);
            places(quest, "0 " + east(d), "0 " + north(d));
        }
    }

    /** With numbers that do not wrap by themselves. */
    private static int fourthDrawOfFour(long seed) {
        BigInteger all = BigInteger.ONE.shiftLeft(64);
        BigInteger state = BigInteger.valueOf(seed).mod(all);
        for (int n = 0; n < 4; n++) {
            state = state.multiply(new BigInteger("6364136223846793005"))
                    .add(new BigInteger("1442695040888963407")).mod(all);
        }
        return state.shiftRight(33).mod(BigInteger.valueOf(4)).intValue();
    }

    private static void firstAndLastOfThingsDrawn() {
        CHECKS.sentence("DRAWING", "\"One of m things, drawn\" is the DRAW(m)-th of them from 0 on, in the order of "
                + "their numbers.", "the first and the last");
        int[] due = {1, 2, 4};
        for (int v = 0; v < 3; v++) {
            LockQuest quest = made("rooms 1:0 4:0 2:1 3:0 4:2 | keys 2:0 | goal 3:" + v, 5, 1, 0, 0);
            family(quest, "-1 0 1 0 2", "0 1 1 0 1", "0 1 0 0 0");
            CHECKS.due("the goal by DRAW(3) = " + v, quest.goal(), due[v]);
        }
    }

    private static void roomZero() {
        CHECKS.sentence("ROOMS", "Room 0 has level 0.", "the first key lies there");
        LockQuest quest = made("rooms 1:0 4:0 2:1 | keys 1:0", 3, 1, 3, 2);
        CHECKS.due("room(0, 1)", quest.room(0, Sight.LEVEL), 0);
        CHECKS.due("the key lies in room 0", quest.room(0, Sight.LYING) & 1, 1);
    }

    private static void noMoreRoomsThanLevels() {
        CHECKS.sentence("ROOMS", "if R - r is K - TOP, the parent of r is one of the rooms before r with level TOP, "
                + "drawn, and r RISES.", "from the first room on");
        LockQuest quest = made("rooms 1:0 1:0 1:0 | keys 1:0 2:1 3:2 | goal 1:0 | places 4:1 4:2 4:3", 4, 3, 0, 0);
        family(quest, "-1 0 1 2", "0 1 2 3", "0 1 1 1");
        facts(quest, "what lies", Sight.LYING, "1 2 4 0");
        places(quest, "0 0 -1 -1", "0 1 1 0");
    }

    private static void theLastRoomsRise() {
        CHECKS.sentence("ROOMS", "if R - r is K - TOP, the parent of r is one of the rooms before r with level TOP, "
                + "drawn, and r RISES.", "the last rooms, where none rose before");
        LockQuest quest = made("rooms 1:0 4:+ 2:0 4:+ 3:2 1:0 | keys 3:1 4:3 | goal 1:0 | places 4:0 4:1 4:2 4:3",
                5, 2, 0, 0);
        family(quest, "-1 0 0 2 3", "0 0 0 1 2", "0 0 0 1 1");
        facts(quest, "what lies", Sight.LYING, "0 1 0 2 0");
        places(quest, "0 1 0 -1 -1", "0 0 1 1 0");
    }

    private static void theLastRoomRisesFromTheTop() {
        CHECKS.sentence("ROOMS", "if R - r is K - TOP, the parent of r is one of the rooms before r with level TOP, "
                + "drawn, and r RISES.", "its parent is none of a lesser level");
        LockQuest quest = made("rooms 1:0 4:0 2:1 4:+ 3:0 2:1 | keys 2:1 4:2 | goal 1:0 | places 4:0 4:1 4:2 4:3",
                5, 2, 0, 0);
        family(quest, "-1 0 1 0 2", "0 1 1 0 2", "0 1 0 0 1");
        facts(quest, "what lies", Sight.LYING, "0 0 2 1 0");
        places(quest, "0 1 1 -1 1", "0 0 1 0 -1");
    }

    private static void risesByADrawOfZeroAlone() {
        CHECKS.sentence("ROOMS", "Otherwise its parent is room DRAW(r), and r rises if its parent's level is TOP, TOP "
                + "is less than K, and then DRAW(4) is 0", "0, and 1, 2, 3");
        family(made("rooms 1:0 4:0 2:1", 3, 1, 0, 0), "-1 0 1", "0 1 1", "0 1 0");
        family(made("rooms 1:0 4:0 2:0", 3, 1, 0, 0), "-1 0 0", "0 1 0", "0 1 0");
        for (int v = 1; v < 4; v++) {
            family(made("rooms 1:0 4:" + v + " 2:1", 3, 1, 0, 0), "-1 0 1", "0 0 1", "0 0 1");
        }
    }

    private static void noDrawBelowTheTop() {
        CHECKS.sentence("ROOMS", "(drawn only if the other two hold)", "its parent's level is not TOP");
        LockQuest quest = made("rooms 1:0 4:0 2:0 3:0 1:0 | keys 3:2 4:1 | goal 1:0 | places 4:0 4:1 4:2 4:3",
                5, 2, 0, 0);
        family(quest, "-1 0 0 0 1", "0 1 0 0 2", "0 1 0 0 1");
        facts(quest, "what lies", Sight.LYING, "0 2 0 1 0");
        places(quest, "0 1 0 -1 1", "0 0 1 0 -1");
    }

    private static void noDrawOnceTheTopIsReached() {
        CHECKS.sentence("ROOMS", "(drawn only if the other two hold)", "TOP is K");
        LockQuest quest = made("rooms 1:0 4:0 2:1 3:2 | keys 1:0 | goal 3:1 | places 4:0 4:0 4:1", 4, 1, 0, 0);
        family(quest, "-1 0 1 2", "0 1 1 1", "0 1 0 0");
        CHECKS.due("goal", quest.goal(), 2);
        places(quest, "0 1 2 2", "0 0 0 1");
    }

    private static void levelsAndLocks() {
        CHECKS.sentence("ROOMS", "If r rises, its level is TOP + 1 (so TOP is, from then on), and its DOOR, between it "
                + "and its parent, is a LOCK of that level; if not, its level is its parent's, and its door is plain.",
                "up to level K, and after that");
        LockQuest quest = made("rooms 1:0 4:0 2:1 4:0 3:0 4:2 | keys 2:0 3:1 | goal 2:1 | places 4:0 4:0 4:2 4:0",
                5, 2, 0, 0);
        family(quest, "-1 0 1 0 2", "0 1 2 0 2", "0 1 1 0 0");
        quest.take();
        CHECKS.due("the lock of level 1 with key 1", quest.walk(0), 1);
        CHECKS.due("the lock of level 2 with key 1", quest.walk(1), LockQuest.LOCKED);
        quest.take();
        CHECKS.due("the lock of level 2 with key 2", quest.walk(1), 2);
        CHECKS.due("the plain door of level 2", quest.walk(1), 4);
    }

    private static void keys() {
        CHECKS.sentence("KEYS", "For l = 1 .. K: key l lies in one of the rooms with a level less than l, drawn.",
                "level l - 1, and level l");
        int[] below1 = {0, 3};
        int[] below2 = {0, 1, 2, 3};
        for (int v = 0; v < 2; v++) {
            for (int w = 0; w < 4; w++) {
                LockQuest quest = made("rooms 1:0 4:0 2:1 4:+ 3:0 2:1 | keys 2:" + v + " 4:" + w, 5, 2, 0, 0);
                facts(quest, "levels", Sight.LEVEL, "0 1 1 0 2");
                for (int r = 0; r < 5; r++) {
                    int due = (below1[v] == r ? 1 : 0) + (below2[w] == r ? 2 : 0);
                    CHECKS.due("what lies in room " + r, quest.room(r, Sight.LYING), due);
                }
            }
        }
    }

    private static void smallDoorsUntilNoneIsPlain() {
        CHECKS.sentence("SMALL DOORS", "As many times as was asked for: if some room's door is plain, the door of one "
                + "of these rooms, drawn, becomes a SMALL one.", "fewer plain doors than asked for");
        LockQuest quest = made("rooms 1:0 4:0 2:0 3:1 | keys 2:1 | small doors 2:1 1:0 | small keys 1:0 1:0 | goal 2:0 "
                + "| places 4:1 4:2 4:3", 4, 1, 3, 0);
        family(quest, "-1 0 0 1", "0 1 0 1", "0 1 2 2");
        facts(quest, "what lies", Sight.LYING, "24 0 1 0");
        CHECKS.due("goal", quest.goal(), 1);
        places(quest, "0 0 -1 0", "0 1 0 -1");
    }

    private static void noDoorIsPlainForASmallOne() {
        CHECKS.sentence("SMALL DOORS", "if some room's door is plain", "none is");
        LockQuest quest = made("rooms 1:0 1:0 1:0 | keys 1:0 2:1 3:2 | goal 1:0 | places 4:1 4:2 4:3", 4, 3, 3, 0);
        family(quest, "-1 0 1 2", "0 1 2 3", "0 1 1 1");
        facts(quest, "what lies", Sight.LYING, "1 2 4 0");
        facts(quest, "switches", Sight.SWITCH, "0 0 0 0");
        places(quest, "0 0 -1 -1", "0 1 1 0");
    }

    private static void noSmallDoorsAskedFor() {
        CHECKS.sentence("SMALL DOORS", "As many times as was asked for", "not once");
        LockQuest quest = made("rooms 1:0 4:0 2:0 3:1 | keys 2:1 | goal 2:0 | places 4:1 4:2 4:3", 4, 1, 0, 0);
        family(quest, "-1 0 0 1", "0 1 0 1", "0 1 0 0");
        facts(quest, "what lies", Sight.LYING, "0 0 1 0");
        places(quest, "0 0 -1 0", "0 1 0 -1");
    }

    private static void roomZeroHasNoDoor() {
        CHECKS.sentence("SMALL DOORS", "As many times as was asked for: if some room's door is plain, the door of one "
                + "of these rooms, drawn, becomes a SMALL one.", "room 0, without a door, is none of these rooms");
        LockQuest quest = made("rooms 1:0 4:0 2:0 | keys 2:1 | small doors 1:0 | small keys 1:0 | goal 1:0 "
                + "| places 4:1 4:2", 3, 1, 3, 2);
        family(quest, "-1 0 0", "0 1 0", "0 1 2");
        facts(quest, "what lies", Sight.LYING, "8 0 1");
        facts(quest, "switches", Sight.SWITCH, "0 0 0");
        places(quest, "0 0 -1", "0 1 0");
    }

    private static void noSmallKeysWithoutSmallDoors() {
        CHECKS.sentence("SMALL KEYS", "SMALL KEYS, numbered 0, 1, .. , as many as there are small doors",
                "none, and fewer than asked for");
        String rooms = "rooms 1:0 4:0 2:0 3:1 | keys 2:1 | ";
        facts(made("rooms 1:0 | keys 1:0", 2, 1, 3, 0), "what lies", Sight.LYING, "1 0");
        facts(made(rooms, 4, 1, 0, 2), "what lies", Sight.LYING, "0 0 1 0");
        facts(made(rooms + "small doors 2:0", 4, 1, 1, 2), "what lies", Sight.LYING, "8 0 1 0");
        facts(made(rooms + "small doors 2:0", 4, 1, 2, 2), "what lies", Sight.LYING, "24 0 1 0");
        facts(made(rooms + "small doors 2:0", 4, 1, 3, 2), "what lies", Sight.LYING, "24 0 1 0");
    }

    private static void smallKeysLieBeforeSmallDoors() {
        CHECKS.sentence("SMALL KEYS", "each lies in one of the rooms of level 0 from which one comes to room 0, going "
                + "from parent to parent, without a small door, drawn.", "on the near and on the far side");
        // Room 1 has the small door, room 2 is behind it, rooms 3 and 4 have level 1: rooms 0 and 5 are left.
        String script = "rooms 1:0 4:+ 2:1 4:+ 3:0 4:0 4:3 5:0 | keys 4:2 | small doors 4:0 | small keys ";
        LockQuest first = made(script + "2:0 | goal 2:1 | places 4:1 4:2", 6, 1, 1, 0);
        family(first, "-1 0 1 0 3 0", "0 0 0 1 1 0", "0 2 0 1 0 0");
        facts(first, "what lies", Sight.LYING, "8 0 1 0 0 0");
        LockQuest last = made(script + "2:1 | goal 2:1 | places 4:1 4:2", 6, 1, 1, 0);
        facts(last, "what lies", Sight.LYING, "0 0 1 0 0 8");
        CHECKS.due("goal", last.goal(), 4);
    }

    private static void barriersUntilNoneIsPlain() {
        CHECKS.sentence("BARRIERS", "As many times as was asked for: if some room's door is plain, the door of one of "
                + "these rooms, drawn, becomes RED if DRAW(2) is 0, otherwise BLUE",
                "fewer plain doors than asked for");
        LockQuest quest = made("rooms 1:0 4:0 2:0 | keys 2:1 | barriers 1:0 2:1 | goal 1:0 | places 4:1 4:2",
                3, 1, 0, 2);
        family(quest, "-1 0 0", "0 1 0", "0 1 4");
        places(quest, "0 0 -1", "0 1 0");
    }

    private static void noDoorIsPlainForABarrier() {
        CHECKS.sentence("BARRIERS", "if some room's door is plain", "none is");
        LockQuest quest = made("rooms 1:0 1:0 1:0 | keys 1:0 2:1 3:2 | goal 1:0 | places 4:1 4:2 4:3", 4, 3, 0, 2);
        family(quest, "-1 0 1 2", "0 1 2 3", "0 1 1 1");
        facts(quest, "what lies", Sight.LYING, "1 2 4 0");
        facts(quest, "switches", Sight.SWITCH, "0 0 0 0");
        places(quest, "0 0 -1 -1", "0 1 1 0");
    }

    private static void noBarrierWhereSmallDoorsAre() {
        CHECKS.sentence("BARRIERS", "As many times as was asked for: if some room's door is plain, the door of one of "
                + "these rooms, drawn, becomes RED if DRAW(2) is 0, otherwise BLUE", "small doors are not plain");
        LockQuest quest = made("rooms 1:0 4:0 2:0 3:1 | keys 2:1 | small doors 2:0 | small keys 1:0 | barriers 1:0 2:0 "
                + "| goal 2:0 | places 4:1 4:2 4:3", 4, 1, 1, 2);
        family(quest, "-1 0 0 1", "0 1 0 1", "0 1 2 3");
        facts(quest, "switches", Sight.SWITCH, "0 1 0 1");
        places(quest, "0 0 -1 0", "0 1 0 -1");
    }

    private static void noBarriersAskedFor() {
        CHECKS.sentence("BARRIERS", "As many times as was asked for", "not once");
        LockQuest quest = made("rooms 1:0 4:0 2:0 3:1 | keys 2:1 | goal 2:1 | places 4:1 4:2 4:3", 4, 1, 0, 0);
        facts(quest, "doors' kinds", Sight.KIND, "0 1 0 0");
        facts(quest, "switches", Sight.SWITCH, "0 0 0 0");
        CHECKS.due("goal", quest.goal(), 3);
        places(quest, "0 0 -1 0", "0 1 0 -1");
    }

    private static void redAndBlue() {
        CHECKS.sentence("BARRIERS", "becomes RED if DRAW(2) is 0, otherwise BLUE", "each colour for each of two");
        String rooms = "rooms 1:0 4:0 2:0 3:1 | keys 2:1 | barriers ";
        facts(made(rooms + "2:0 2:0 1:0 2:0", 4, 1, 0, 2), "doors' kinds", Sight.KIND, "0 1 3 3");
        facts(made(rooms + "2:0 2:0 1:0 2:1", 4, 1, 0, 2), "doors' kinds", Sight.KIND, "0 1 3 4");
        facts(made(rooms + "2:1 2:0 1:0 2:1", 4, 1, 0, 2), "doors' kinds", Sight.KIND, "0 1 4 3");
        facts(made(rooms + "2:1 2:1 1:0 2:1", 4, 1, 0, 2), "doors' kinds", Sight.KIND, "0 1 4 4");
    }

    private static void switches() {
        CHECKS.sentence("BARRIERS", "that room and its parent have a SWITCH from then on.", "and no other");
        String rooms = "rooms 1:0 4:0 2:0 3:1 | keys 2:1 | barriers ";
        facts(made(rooms + "2:0 2:0", 4, 1, 0, 1), "switches", Sight.SWITCH, "1 0 1 0");
        facts(made(rooms + "2:1 2:0", 4, 1, 0, 1), "switches", Sight.SWITCH, "0 1 0 1");
        facts(made(rooms + "2:1 2:0 1:0 2:0", 4, 1, 0, 2), "switches", Sight.SWITCH, "1 1 1 1");
    }

    private static void goals() {
        CHECKS.sentence("GOAL", "One of the rooms with level K, drawn.", "the first and the last");
        String rooms = "rooms 1:0 4:0 2:1 4:0 3:2 4:1 | keys 1:0 3:0 | goal ";
        LockQuest first = made(rooms + "2:0 | places 4:1", 5, 2, 0, 0);
        facts(first, "levels", Sight.LEVEL, "0 1 2 2 1");
        CHECKS.due("the first goal", first.goal(), 2);
        CHECKS.due("the last goal", made(rooms + "2:1 | places 4:1", 5, 2, 0, 0).goal(), 3);
    }

    private static void fourDirections() {
        CHECKS.sentence("PLACES", "Room 0 is at x = 0, y = 0. For r = 1, 2, ..: d is DRAW(4), 0 east (x + 1), 1 north "
                + "(y + 1), 2 west, 3 south", "each of the four");
        for (int d = 0; d < 4; d++) {
            LockQuest quest = made("rooms 1:0 | keys 1:0 | goal 1:0 | places 4:" + d, 2, 1, 0, 0);
            places(quest, "0 " + east(d), "0 " + north(d));
        }
    }

    private static void placesThatAreTaken() {
        CHECKS.sentence("PLACES", "r's place is the first one without a room that one comes to from its parent's place "
                + "in this direction.", "one and two rooms in the way");
        for (int d = 0; d < 4; d++) {
            String place = " 4:" + d;
            LockQuest quest = made("rooms 1:0 4:0 2:0 3:0 | keys 3:0 | goal 1:0 | places" + place + place + place
                    + " | loops 3:1", 4, 1, 0, 0);
            facts(quest, "parents", Sight.PARENT, "-1 0 0 0");
            places(quest, "0 " + east(d) + " " + 2 * east(d) + " " + 3 * east(d),
                    "0 " + north(d) + " " + 2 * north(d) + " " + 3 * north(d));
        }
    }

    private static void theParentInTheWay() {
        CHECKS.sentence("PLACES", "r's place is the first one without a room that one comes to from its parent's place "
                + "in this direction.", "room 0 in the way");
        LockQuest quest = made("rooms 1:0 4:+ 2:1 | keys 2:0 | goal 1:0 | places 4:0 4:2", 3, 1, 0, 0);
        facts(quest, "parents", Sight.PARENT, "-1 0 1");
        places(quest, "0 1 -1", "0 0 0");
    }

    private static void theFirstFreePlace() {
        CHECKS.sentence("PLACES", "r's place is the first one without a room that one comes to from its parent's place "
                + "in this direction.", "a room behind it");
        LockQuest quest = made("rooms 1:0 4:+ 2:1 4:+ 3:2 4:+ 4:3 4:+ 5:0 | keys 5:* | goal 1:0 "
                + "| places 4:1 4:0 4:0 4:3 4:0", 6, 1, 0, 0);
        facts(quest, "parents", Sight.PARENT, "-1 0 1 2 3 0");
        places(quest, "0 0 1 2 2 1", "0 1 1 1 0 0");
    }

    private static void loopsOnFourSides() {
        CHECKS.sentence("LOOPS", "if their places are neighbours (x or y differ by 1, the other one by 0), [..] and "
                + "then DRAW(3) is 0, a plain door leads from one to the other besides.", "on four sides; 0, and 1, 2");
        for (int d = 0; d < 4; d++) {
            for (int v = 0; v < 3; v++) {
                // A square: room 1 from room 0, room 2 from room 1 to its left, room 3 from room 2 to its left.
                LockQuest quest = made("rooms 1:0 4:+ 2:1 4:+ 3:2 4:+ 4:0 | keys 4:* | goal 1:0 | places 4:" + d + " 4:"
                        + (d + 1) % 4 + " 4:" + (d + 2) % 4 + " 4:" + (d + 3) % 4 + " | loops 3:" + v, 5, 1, 0, 0);
                facts(quest, "doors' kinds", Sight.KIND, "0 0 0 0 1");
                behind(quest, 0, v == 0 ? "1 4 3" : "1 4");
                behind(quest, 1, "0 2");
                behind(quest, 2, "1 3");
                behind(quest, 3, v == 0 ? "2 0" : "2");
            }
        }
    }

    private static void noLoopRoundACorner() {
        CHECKS.sentence("LOOPS", "if their places are neighbours (x or y differ by 1, the other one by 0)",
                "not both by 1");
        LockQuest quest = made("rooms 1:0 4:+ 2:1 4:+ 3:0 | keys 3:* | goal 1:0 | places 4:0 4:1 4:3 | never 3:0",
                4, 1, 0, 0);
        places(quest, "0 1 1 0", "0 0 1 -1");
        behind(quest, 0, "1 3");
        behind(quest, 2, "1");
    }

    private static void noLoopOverAGap() {
        CHECKS.sentence("LOOPS", "if their places are neighbours (x or y differ by 1, the other one by 0)", "not by 2");
        for (int d = 0; d < 4; d++) {
            String place = " 4:" + d;
            LockQuest quest = made("rooms 1:0 4:+ 2:1 4:+ 3:0 | keys 3:* | goal 1:0 | places" + place + place
                    + " 4:* | never 3:0", 4, 1, 0, 0);
            behind(quest, 0, "1 3");
            behind(quest, 2, "1");
        }
    }

    private static void noLoopBetweenLevels() {
        CHECKS.sentence("LOOPS", "they have the same level", "rooms 0 and 3 have not, rooms 2 and 4 have");
        LockQuest quest = made("rooms 1:0 4:+ 2:1 4:0 3:2 4:3 | keys 2:* | goal 3:* | places 4:0 4:1 4:2 4:0 "
                + "| loops 3:0 | never 3:+", 5, 1, 0, 0);
        facts(quest, "levels", Sight.LEVEL, "0 0 1 1 1");
        places(quest, "0 1 1 0 2", "0 0 1 1 1");
        behind(quest, 0, "1");
        behind(quest, 2, "1 3 4");
        behind(quest, 3, "2 4");
        behind(quest, 4, "3 2");
    }

    private static void noLoopBesidesTheOwnDoor() {
        CHECKS.sentence("LOOPS", "neither is the other's parent", "a row of rooms");
        LockQuest quest = made("rooms 1:0 4:+ 2:1 | keys 2:* | goal 1:0 | places 4:0 4:0 | never 3:0", 3, 1, 0, 0);
        places(quest, "0 1 2", "0 0 0");
        behind(quest, 0, "1");
        behind(quest, 1, "0 2");
        behind(quest, 2, "1");
    }

    private static void orderOfDoors() {
        CHECKS.sentence("THE DOORS OF A ROOM", "its own (not for room 0), then those of the rooms whose parent it is, "
                + "by these rooms' numbers, then the loops, by the numbers of the rooms to which they lead.",
                "room 0, and a room with doors of each sort");
        LockQuest quest = made("rooms 1:0 4:+ 2:0 4:+ 3:1 4:+ 4:3 4:+ 5:4 4:+ 6:5 | keys 6:* | goal 1:0 "
                + "| places 4:1 4:0 4:1 4:0 4:3 4:* | loops 3:0 3:0", 7, 1, 0, 0);
        behind(quest, 0, "1 2");
        behind(quest, 1, "0 3 5");
        behind(quest, 2, "0 5");
        behind(quest, 3, "1 4");
        behind(quest, 4, "3 5");
        behind(quest, 5, "4 6 1 2");
        behind(quest, 6, "5");
        facts(quest, "numbers of doors", Sight.DOORS, "2 3 2 2 2 4 1");
    }
}
