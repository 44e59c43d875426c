import java.lang.reflect.Field;

/**
 * Promises 12, 13 and 15 where the goal can't be reached. No adventure that make makes is of this kind, so the test takes
 * things out of one from inside.
 */
public final class StuckTest {
    private static final Checks CHECKS = new Checks("StuckTest");

    public static void main(String[] args) throws ReflectiveOperationException {
        withoutTheKey();
        withOneSmallKeyForTwoDoors();
        CHECKS.end();
    }

    private static void expect(LockQuest quest, String when, int steps, int hint, int situations, boolean safe) {
        CHECKS.due("steps " + when, quest.steps(), steps);
        CHECKS.due("hint " + when, quest.hint(), hint);
        CHECKS.due("situations " + when, quest.situations(), situations);
        CHECKS.due("safe " + when, quest.safe(), safe);
    }

    private static void withoutTheKey() throws ReflectiveOperationException {
        LockQuest quest = new LockQuest();
        lying(quest)[0] = 0;
        CHECKS.due("take without the key", quest.take(), 0);
        expect(quest, "without the key", LockQuest.NONE, LockQuest.NONE, 1, false);
    }

    private static void withOneSmallKeyForTwoDoors() throws ReflectiveOperationException {
        LockQuest quest = new LockQuest();
        quest.make(12345, 8, 2, 2, 1);
        lying(quest)[0] = 8;
        CHECKS.due("steps while the small key is unspent", quest.steps(), 9);
        CHECKS.due("hint while the small key is unspent", quest.hint(), 100);
        CHECKS.due("safe while the small key is unspent", quest.safe(), false);
        quest.take();
        quest.walk(1);
        expect(quest, "with the small key spent at the wrong door", LockQuest.NONE, LockQuest.NONE, 2, false);
        quest.restart();
        quest.take();
        quest.walk(0);
        CHECKS.due("steps with the small key spent at the right door", quest.steps(), 7);
        CHECKS.due("safe with the small key spent at the right door", quest.safe(), true);
    }

    private static int[] lying(LockQuest quest) throws ReflectiveOperationException {
        Object adventure = privateField(quest, "adventure");
        return (int[]) privateField(adventure, "lying");
    }

    private static Object privateField(Object owner, String name) throws ReflectiveOperationException {
        Field field = owner.getClass().getDeclaredField(name);
        field.setAccessible(true);
        return field.get(owner);
    }
}
