/** The edges in promises 12 to 15, and in the document's "What it is". Each method is the test of one sentence. */
public final class OutlookEdgesTest {
    private static final Checks CHECKS = new Checks("OutlookEdgesTest");
    private static final int MOST_CALLS = 512;

    // Room 1 behind a blue door, room 2 behind that behind the lock; the key in room 0.
    private static final String BLUE = "rooms 1:0 4:+ 2:1 | keys 2:0 | barriers 1:0 2:1 | goal 1:0";
    // Rooms 1 and 2 behind small doors, room 4 behind a lock; small key 1 in room 0, small key 0 in room 3, the key in
    // room 1.
    private static final String SMALL = "rooms 1:0 4:+ 2:0 4:+ 3:0 4:+ 4:0 | keys 4:1 | small doors 3:0 2:0 "
            + "| small keys 2:1 2:0 | goal 1:0 | places 4:0 4:1 4:2 4:3";
    // Rooms 0 to 3 in a square that a loop from room 3 to room 0 closes, the key in room 2; behind(0): 1 4 3.
    private static final String SQUARE = "rooms 1:0 4:+ 2:1 4:+ 3:2 4:+ 4:0 | keys 4:2 | ";
    private static final String CLOSED = " | goal 1:0 | places 4:0 4:1 4:2 4:3 | loops 3:0";
    // Rooms 1 to 7 all behind doors of room 0, the last one behind the lock; the key in room 0.
    private static final String STAR = "rooms 1:0 4:+ 2:0 4:+ 3:0 4:+ 4:0 4:+ 5:0 4:+ 6:0 4:+ 7:0 | keys 7:0 "
            + "| goal 1:0";

    public static void main(String[] args) {
        CHECKS.run(
                OutlookEdgesTest::nobodyGetsStuck,
                OutlookEdgesTest::spentInTheWrongPlace,
                OutlookEdgesTest::allCallsOfAnObject,
                OutlookEdgesTest::allMakesOfAnObject,
                OutlookEdgesTest::noStepAtTheGoal,
                OutlookEdgesTest::oneStep,
                OutlookEdgesTest::onlyTheGoalCounts,
                OutlookEdgesTest::hintAtTheGoal,
                OutlookEdgesTest::hintOfTheLastDoor,
                OutlookEdgesTest::hintToTakeOrToggle,
                OutlookEdgesTest::hintOfTheLesserDoor,
                OutlookEdgesTest::hintOfADoorBeforeTaking,
                OutlookEdgesTest::hintThatWillDo,
                OutlookEdgesTest::itselfCounted,
                OutlookEdgesTest::positionsCounted,
                OutlookEdgesTest::smallKeysAndDoorsCounted,
                OutlookEdgesTest::onlyFromThisOne,
                OutlookEdgesTest::theMostSituations,
                OutlookEdgesTest::elevenDoors);
    }

    private static LockQuest made(String script, int rooms, int levels, int small, int barriers) {
        LockQuest quest = new LockQuest();
        quest.make(Draws.seedOf(script), rooms, levels, small, barriers);
        return quest;
    }

    private static void way(LockQuest quest, String when, int steps, int hint) {
        CHECKS.due("steps " + when, quest.steps(), steps);
        CHECKS.due("hint " + when, quest.hint(), hint);
    }

    private static void situations(LockQuest quest, String when, int due) {
        CHECKS.due("situations " + when, quest.situations(), due);
        CHECKS.due("safe " + when, quest.safe(), true);
    }

    private static void nobodyGetsStuck() {
        CHECKS.sentence("What it is", "Adventures with locks and keys that are made out of a seed, so that nobody can "
                + "get stuck in them", "all sizes");
        for (int n = 0; n < 11 * 3 * 4 * 3 * 4; n++) {
            int rooms = 2 + n % 11;
            int levels = 1 + n / 11 % 3;
            if (levels < rooms) {
                LockQuest quest = new LockQuest();
                quest.make(n * 7919L, rooms, levels, n / 33 % 4, n / 132 % 3);
                CHECKS.due("safe of adventure " + n, quest.safe(), true);
                CHECKS.due("the goal of adventure " + n + " is a way off", quest.steps() > levels, true);
            }
        }
    }

    private static void spentInTheWrongPlace() {
        CHECKS.sentence("Promise 15", "Whether from each of these situations the goal can be reached.",
                "a small key is spent in vain");
        LockQuest quest = made(SMALL, 5, 1, 2, 0);
        CHECKS.due("safe at first", quest.safe(), true);
        quest.take();
        CHECKS.due("the door to room 2", quest.walk(1), 2);
        CHECKS.due("safe with a small key spent in vain", quest.safe(), true);
        way(quest, "with a small key spent in vain", 8, 0);
    }

    private static void allCallsOfAnObject() {
        CHECKS.sentence("What it is", "An object is used for at most 512 calls after it has been made",
                "each of them is answered");
        LockQuest quest = new LockQuest();
        CHECKS.due("make(2708, 12, 3, 3, 2), call 1", quest.make(2708, 12, 3, 3, 2) >= 11, true);
        for (int n = 2; n <= MOST_CALLS; n++) {
            ask(quest, n);
        }
    }

    private static void ask(LockQuest quest, int n) {
        switch (n % 4) {
            case 0:
                CHECKS.due("situations, call " + n, quest.situations(), 6636);
                break;
            case 1:
                CHECKS.due("steps, call " + n, quest.steps(), 19);
                break;
            case 2:
                CHECKS.due("hint, call " + n, quest.hint(), 0);
                break;
            default:
                CHECKS.due("safe, call " + n, quest.safe(), true);
        }
    }

    private static void allMakesOfAnObject() {
        CHECKS.sentence("What it is", "An object is used for at most 512 calls after it has been made",
                "all of them are make");
        LockQuest quest = new LockQuest();
        for (int n = 1; n < MOST_CALLS; n++) {
            CHECKS.due("make, call " + n, quest.make(n, 12, 3, 3, 2) >= 11, true);
        }
        CHECKS.due("make, call 512", quest.make(-7, 12, 3, 3, 2), 13);
    }

    private static void noStepAtTheGoal() {
        CHECKS.sentence("Promise 12", "0 when one is there", "there, away, there again");
        LockQuest quest = new LockQuest();
        quest.take();
        quest.walk(0);
        CHECKS.due("steps at the goal", quest.steps(), 0);
        quest.take();
        CHECKS.due("steps at the goal after take", quest.steps(), 0);
        quest.walk(0);
        CHECKS.due("steps away from the goal", quest.steps(), 1);
        quest.walk(0);
        CHECKS.due("steps at the goal again", quest.steps(), 0);
        quest.restart();
        CHECKS.due("steps after restart", quest.steps(), 2);
    }

    private static void oneStep() {
        CHECKS.sentence("Promise 12", "The least number of actions after which one can be at the goal", "one");
        LockQuest quest = made(STAR, 8, 1, 0, 0);
        CHECKS.due("steps at first", quest.steps(), 2);
        quest.take();
        CHECKS.due("steps with the key", quest.steps(), 1);
        quest.walk(0);
        CHECKS.due("steps in another room", quest.steps(), 2);
    }

    private static void onlyTheGoalCounts() {
        CHECKS.sentence("Promise 12", "The least number of actions after which one can be at the goal",
                "another room of its level is not it");
        String rooms = "rooms 1:0 4:0 2:1 | keys 1:0 | goal ";
        LockQuest near = made(rooms + "2:0", 3, 1, 0, 0);
        CHECKS.due("steps to room 1", near.steps(), 2);
        LockQuest far = made(rooms + "2:1", 3, 1, 0, 0);
        CHECKS.due("steps to room 2", far.steps(), 3);
        far.take();
        far.walk(0);
        way(far, "in room 1", 1, 1);
    }

    private static void hintAtTheGoal() {
        CHECKS.sentence("Promise 13", "BAD when one is at the goal", "there and away");
        LockQuest quest = new LockQuest();
        quest.take();
        CHECKS.due("hint before the goal", quest.hint(), 0);
        quest.walk(0);
        CHECKS.due("hint at the goal", quest.hint(), LockQuest.BAD);
        quest.walk(0);
        CHECKS.due("hint away from the goal", quest.hint(), 0);
    }

    private static void hintOfTheLastDoor() {
        CHECKS.sentence("Promise 13", "i for walking through door i", "the last one of a room");
        LockQuest quest = made(STAR, 8, 1, 0, 0);
        CHECKS.due("doors of room 0", quest.room(0, 7), 7);
        quest.take();
        way(quest, "with the key", 1, 6);
    }

    private static void hintToTakeOrToggle() {
        CHECKS.sentence("Promise 13", "100 for taking, 200 for toggling, the least of these numbers that will do",
                "either");
        LockQuest quest = made(BLUE, 3, 1, 0, 1);
        way(quest, "where taking and toggling will do", 4, 100);
        quest.take();
        way(quest, "where toggling will do", 3, 200);
        quest.toggle();
        way(quest, "where walking will do", 2, 0);
        quest.restart();
        quest.toggle();
        way(quest, "where taking will do", 3, 100);
    }

    private static void hintOfTheLesserDoor() {
        CHECKS.sentence("Promise 13", "the least of these numbers that will do", "two doors");
        LockQuest quest = made(SQUARE + CLOSED, 5, 1, 0, 0);
        way(quest, "where doors 0 and 2 will do", 6, 0);
        quest.walk(0);
        quest.walk(1);
        quest.take();
        way(quest, "back from room 2, where doors 0 and 1 will do", 3, 0);
    }

    private static void hintOfADoorBeforeTaking() {
        CHECKS.sentence("Promise 13", "the least of these numbers that will do", "a door, taking and toggling");
        // Room 1 is plain and has key 1, room 0 has key 2; room 2 is blue; rooms 3 and 4 behind it have locks.
        LockQuest quest = made("rooms 1:0 4:+ 2:0 4:+ 3:2 1:0 | keys 3:1 4:0 | barriers 2:1 2:1 | goal 1:0",
                5, 2, 0, 1);
        CHECKS.due("kinds", Sight.facts(quest, Sight.KIND), "0 0 4 1 1");
        way(quest, "where door 0, taking and toggling will do", 8, 0);
    }

    private static void hintThatWillDo() {
        CHECKS.sentence("Promise 13", "the least of these numbers that will do", "lesser ones will not");
        // Door 0 is small and not open; to take the small key would be one action more than the loop, door 2.
        LockQuest quest = made(SQUARE + "small doors 3:0 | small keys 1:0" + CLOSED, 5, 1, 1, 0);
        way(quest, "round the small door", 6, 2);
        quest.take();
        way(quest, "with the small key", 6, 0);
    }

    private static void itselfCounted() {
        CHECKS.sentence("Promise 14", "How many situations one can come to from this one, itself counted.",
                "the fewest");
        LockQuest quest = new LockQuest();
        situations(quest, "at first", 3);
        quest.take();
        situations(quest, "with the key", 2);
        quest.walk(0);
        situations(quest, "at the goal", 2);
    }

    private static void positionsCounted() {
        CHECKS.sentence("THE GAME", "Its SITUATION: [..] the SWITCH POSITION, 0 or 1", "both are counted");
        // 2 rooms without the key, 3 with it, each in 2 positions.
        LockQuest quest = made(BLUE, 3, 1, 0, 1);
        situations(quest, "at first", 10);
        quest.toggle();
        situations(quest, "with the position changed", 10);
        quest.take();
        situations(quest, "with the key", 6);
    }

    private static void smallKeysAndDoorsCounted() {
        CHECKS.sentence("THE GAME", "Its SITUATION: [..] the keys one has; the small keys that were taken; the small "
                + "doors that were opened", "each of them is counted");
        // Without small keys 2 rooms. With one: none opened, 2 rooms; room 1's door, 3, and with the key from there 4;
        // room 2's door, 3: in all 12, for each of the two. With both: 2 + 7 + 3, and with both doors opened 4 and 5.
        situations(made(SMALL, 5, 1, 2, 0), "with two small keys and doors", 2 + 12 + 12 + 21);
    }

    private static void onlyFromThisOne() {
        CHECKS.sentence("Promise 14", "How many situations one can come to from this one, itself counted.",
                "not those that are gone");
        LockQuest quest = made(SMALL, 5, 1, 2, 0);
        quest.take();
        situations(quest, "with one small key", 12 + 21);
        quest.walk(1);
        situations(quest, "with room 2's door opened", 3 + 3 + 9);
        quest.restart();
        situations(quest, "after restart", 47);
    }

    private static void theMostSituations() {
        CHECKS.sentence("Promise 14", "How many situations one can come to from this one, itself counted.",
                "the most that are known");
        LockQuest quest = new LockQuest();
        quest.make(2708, 12, 3, 3, 2);
        Model.Outlook outlook = new Model(2708, 12, 3, 3, 2).outlook();
        CHECKS.due("the outlook of the model", outlook.toString(),
                "Outlook[steps=19, hint=0, situations=6636, safe=true]");
        way(quest, "of seed 2708", 19, 0);
        situations(quest, "of seed 2708", 6636);
    }

    private static void elevenDoors() {
        CHECKS.sentence("THE DOORS OF A ROOM", "THE DOORS OF A ROOM are numbered 0, 1, ..",
                "as many as a room can have");
        // All rooms but room 0 are behind doors of room 1; room 2 behind the lock, the key in room 5.
        LockQuest quest = new LockQuest();
        CHECKS.due("make(2943511, 12, 1, 0, 0)", quest.make(2943511, 12, 1, 0, 0), 11);
        CHECKS.due("doors of room 1", quest.room(1, 7), 11);
        CHECKS.due("the rooms behind them", Sight.behind(quest, 1), "0 2 3 4 5 6 7 8 9 10 11");
        way(quest, "at first", 5, 0);
        situations(quest, "at first", 11 + 12);
        quest.walk(0);
        way(quest, "in room 1", 4, 4);
        CHECKS.due("walk through the last door", quest.walk(10), 11);
        CHECKS.due("walk back", quest.walk(0), 1);
        CHECKS.due("walk through the door after the last", quest.walk(11), LockQuest.BAD);
    }
}
