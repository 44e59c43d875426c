import java.lang.reflect.Field;

/**
 * The edges in promises 12 to 15 where the goal can't be reached. No adventure that make makes is of this kind, so the
 * test takes things out of one from inside. Each method is the test of one sentence.
 */
public final class StuckTest {
    private static final Checks CHECKS = new Checks("StuckTest");

    public static void main(String[] args) {
        CHECKS.run(
                StuckTest::stepsToNowhere,
                StuckTest::hintToNowhere,
                StuckTest::notSafeFromItself,
                StuckTest::notSafeFromOneOfThem,
                StuckTest::situationsWithoutAWay);
    }

    private static LockQuest withoutTheKey() throws ReflectiveOperationException {
        LockQuest quest = new LockQuest();
        lying(quest)[0] = 0;
        CHECKS.due("take without the key", quest.take(), 0);
        return quest;
    }

    private static LockQuest withOneSmallKeyForTwoDoors() throws ReflectiveOperationException {
        LockQuest quest = new LockQuest();
        quest.make(12345, 8, 2, 2, 1);
        lying(quest)[0] = 8;
        return quest;
    }

    private static void spend(LockQuest quest, int door) {
        quest.restart();
        quest.take();
        CHECKS.due("walk(" + door + ") with the small key", quest.walk(door), door + 1);
    }

    private static void stepsToNowhere() throws ReflectiveOperationException {
        CHECKS.sentence("Promise 12", "NONE = -3: The goal can't be reached.", "steps");
        CHECKS.due("steps without the key", withoutTheKey().steps(), -3);
        LockQuest quest = withOneSmallKeyForTwoDoors();
        CHECKS.due("steps while the small key is unspent", quest.steps(), 9);
        spend(quest, 1);
        CHECKS.due("steps with the small key spent at the wrong door", quest.steps(), -3);
        spend(quest, 0);
        CHECKS.due("steps with the small key spent at the right door", quest.steps(), 7);
    }

    private static void hintToNowhere() throws ReflectiveOperationException {
        CHECKS.sentence("Promise 13", "NONE = -3: The goal can't be reached.", "hint");
        CHECKS.due("hint without the key", withoutTheKey().hint(), -3);
        LockQuest quest = withOneSmallKeyForTwoDoors();
        CHECKS.due("hint while the small key is unspent", quest.hint(), 100);
        spend(quest, 1);
        CHECKS.due("hint with the small key spent at the wrong door", quest.hint(), -3);
        spend(quest, 0);
        CHECKS.due("hint with the small key spent at the right door", quest.hint(), 100);
    }

    private static void notSafeFromItself() throws ReflectiveOperationException {
        CHECKS.sentence("Promise 15", "Whether from each of these situations the goal can be reached.", "from none");
        CHECKS.due("safe without the key", withoutTheKey().safe(), false);
        LockQuest quest = withOneSmallKeyForTwoDoors();
        spend(quest, 1);
        CHECKS.due("safe with the small key spent at the wrong door", quest.safe(), false);
    }

    private static void notSafeFromOneOfThem() throws ReflectiveOperationException {
        CHECKS.sentence("Promise 15", "Whether from each of these situations the goal can be reached.", "from some");
        LockQuest quest = withOneSmallKeyForTwoDoors();
        CHECKS.due("safe while the small key is unspent", quest.safe(), false);
        spend(quest, 0);
        CHECKS.due("safe with the small key spent at the right door", quest.safe(), true);
    }

    private static void situationsWithoutAWay() throws ReflectiveOperationException {
        CHECKS.sentence("Promise 14", "How many situations one can come to from this one, itself counted.",
                "to none but itself");
        CHECKS.due("situations without the key", withoutTheKey().situations(), 1);
        LockQuest quest = withOneSmallKeyForTwoDoors();
        spend(quest, 1);
        CHECKS.due("situations with the small key spent at the wrong door", quest.situations(), 2);
    }

    private static int[] lying(LockQuest quest) throws ReflectiveOperationException {
        Object adventure = privateField(quest, "adventure");
        return (int[]) privateField(adventure, "lying");
    }

    private static Object privateField(Object owner, String name) throws ReflectiveOperationException {
        Field field = owner.getClass().getDeclaredField(name);
        field.setAccessible(true);
        return field.get(owner);
    }
}
