/** Promises 12 to 15: steps, hint, situations, safe. Their edges are in OutlookEdgesTest and StuckTest. */
public final class OutlookTest {
    private static final Checks CHECKS = new Checks("OutlookTest");

    public static void main(String[] args) {
        newObject();
        leastHint();
        countedByHand();
        hintsLeadToTheGoal();
        askingChangesNothing();
        CHECKS.end();
    }

    private static void expect(LockQuest quest, String when, int steps, int hint, int situations) {
        CHECKS.due("steps " + when, quest.steps(), steps);
        CHECKS.due("hint " + when, quest.hint(), hint);
        CHECKS.due("situations " + when, quest.situations(), situations);
        CHECKS.due("safe " + when, quest.safe(), true);
    }

    private static void newObject() {
        LockQuest quest = new LockQuest();
        expect(quest, "at first", 2, 100, 3);
        quest.walk(0);
        expect(quest, "after a refused walk", 2, 100, 3);
        quest.take();
        expect(quest, "with the key", 1, 0, 2);
        quest.walk(0);
        expect(quest, "at the goal", 0, LockQuest.BAD, 2);
        quest.walk(0);
        expect(quest, "back from the goal", 1, 0, 2);
    }

    /** Adventures in which several actions begin a shortest way: the least number is the hint. */
    private static void leastHint() {
        // The small key lies here, the key behind door 0: either first.
        expectMade(42, 4, 1, 1, 0, 6, 0, 15);
        // The key lies here, and the switch must be toggled: either first.
        expectMade(3, 3, 1, 0, 1, 4, 100, 10);
        // The key lies in the middle of a ring: either way round.
        expectMade(63, 5, 1, 0, 0, 5, 0, 9);
        // The switch must be toggled, the key lies behind door 0: either first.
        expectMade(50, 4, 1, 0, 1, 6, 0, 14);
        // The small door 0 is locked yet, so door 1, taking and toggling will do.
        expectMade(313, 5, 1, 1, 2, 6, 1, 54);
    }

    private static void expectMade(long seed, int rooms, int levels, int small, int barriers, int steps, int hint,
            int situations) {
        LockQuest quest = new LockQuest();
        quest.make(seed, rooms, levels, small, barriers);
        expect(quest, "of seed " + seed, steps, hint, situations);
    }

    private static void countedByHand() {
        LockQuest quest = new LockQuest();
        // Two rooms before the small door, one behind it, one behind the lock: 8 while it is shut, 3 + 4 once open.
        quest.make(42, 4, 1, 1, 0);
        quest.take();
        expect(quest, "with the small key", 5, 0, 11);
        quest.walk(1);
        expect(quest, "with the small door opened", 6, 0, 7);
        quest.walk(0);
        quest.walk(0);
        quest.take();
        expect(quest, "with all taken and opened", 3, 0, 4);
        quest.restart();
        expect(quest, "after restart", 6, 0, 15);
        // Two rooms with switches, one behind the lock: 4 without the key, 6 with it.
        quest.make(3, 3, 1, 0, 1);
        quest.toggle();
        expect(quest, "with the position changed", 3, 100, 10);
        quest.take();
        expect(quest, "with the position changed and the key", 2, 0, 6);
    }

    private static void hintsLeadToTheGoal() {
        for (int seed = 0; seed < 60; seed++) {
            LockQuest quest = new LockQuest();
            quest.make(seed, 12, 3, 3, 2);
            int steps = quest.steps();
            for (int left = steps; left > 0; left--) {
                CHECKS.due("steps of seed " + seed, quest.steps(), left);
                follow(quest, quest.hint());
            }
            CHECKS.due("here after all hints of seed " + seed, quest.here(), quest.goal());
            CHECKS.due("hint at the goal of seed " + seed, quest.hint(), LockQuest.BAD);
        }
    }

    private static void follow(LockQuest quest, int hint) {
        if (hint == 100) {
            CHECKS.due("a hint to take finds something", quest.take() > 0, true);
        } else if (hint == 200) {
            CHECKS.due("a hint to toggle is not refused", quest.toggle() >= 0, true);
        } else {
            CHECKS.due("a hint to walk is not refused", quest.walk(hint) >= 0, true);
        }
    }

    private static void askingChangesNothing() {
        LockQuest quest = new LockQuest();
        quest.make(-7, 12, 3, 3, 2);
        quest.take();
        quest.toggle();
        quest.walk(0);
        for (int n = 0; n < 3; n++) {
            CHECKS.due("steps, asked again", quest.steps(), 14);
            CHECKS.due("hint, asked again", quest.hint(), 0);
            CHECKS.due("safe, asked again", quest.safe(), true);
            CHECKS.due("here after asking", quest.here(), 1);
            CHECKS.due("having after asking", quest.having(), 65);
        }
    }
}
