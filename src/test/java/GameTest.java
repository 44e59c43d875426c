/** Promises 6 to 11: restart, walk, take, toggle, here, having. Their edges are in GameEdgesTest. */
public final class GameTest {
    private static final Checks CHECKS = new Checks("GameTest");

    public static void main(String[] args) {
        aWholeGame();
        keysStay();
        smallKeysAreSpent();
        redAndBlue();
        loopsArePlain();
        restart();
        CHECKS.end();
    }

    private static void walk(LockQuest quest, int i, int due) {
        CHECKS.due("walk(" + i + ")", quest.walk(i), due);
    }

    private static void expect(LockQuest quest, int here, int having) {
        CHECKS.due("here", quest.here(), here);
        CHECKS.due("having", quest.having(), having);
    }

    private static void aWholeGame() {
        LockQuest quest = new LockQuest();
        quest.make(12345, 8, 2, 2, 1);
        expect(quest, 0, 0);
        walk(quest, 0, LockQuest.LOCKED);
        CHECKS.due("take of two small keys", quest.take(), 2);
        CHECKS.due("take of nothing more", quest.take(), 0);
        expect(quest, 0, 16);
        walk(quest, 0, 1);
        expect(quest, 1, 8);
        CHECKS.due("take of key 2", quest.take(), 1);
        expect(quest, 1, 10);
        walk(quest, 1, LockQuest.LOCKED);
        CHECKS.due("toggle", quest.toggle(), 1);
        expect(quest, 1, 74);
        walk(quest, 1, 3);
        walk(quest, 2, 5);
        walk(quest, 1, LockQuest.LOCKED);
        CHECKS.due("take of key 1", quest.take(), 1);
        expect(quest, 5, 75);
        walk(quest, 1, 6);
        walk(quest, 1, 7);
        expect(quest, 7, 75);
        CHECKS.due("toggle without a switch", quest.toggle(), LockQuest.BAD);
        CHECKS.due("take in an empty room", quest.take(), 0);
    }

    private static void keysStay() {
        LockQuest quest = new LockQuest();
        walk(quest, 0, LockQuest.LOCKED);
        CHECKS.due("take", quest.take(), 1);
        for (int n = 0; n < 3; n++) {
            walk(quest, 0, 1);
            expect(quest, 1, 1);
            walk(quest, 0, 0);
            CHECKS.due("take again", quest.take(), 0);
        }
    }

    private static void smallKeysAreSpent() {
        LockQuest quest = new LockQuest();
        quest.make(-7, 12, 3, 3, 2);
        CHECKS.due("take of key 1 and a small key", quest.take(), 2);
        expect(quest, 0, 9);
        walk(quest, 0, 1);
        expect(quest, 1, 1);
        walk(quest, 0, 0);
        walk(quest, 2, LockQuest.LOCKED);
        walk(quest, 0, 1);
        expect(quest, 1, 1);
        walk(quest, 0, 0);
        walk(quest, 3, 10);
        CHECKS.due("take of two small keys", quest.take(), 2);
        expect(quest, 10, 17);
        walk(quest, 0, 0);
        walk(quest, 0, 1);
        expect(quest, 1, 17);
        walk(quest, 0, 0);
        walk(quest, 2, 3);
        expect(quest, 3, 9);
        walk(quest, 1, 4);
        expect(quest, 4, 1);
        walk(quest, 0, 3);
        walk(quest, 0, 0);
        expect(quest, 0, 1);
    }

    private static void redAndBlue() {
        LockQuest quest = new LockQuest();
        quest.make(-7, 12, 3, 3, 2);
        quest.take();
        walk(quest, 3, 10);
        CHECKS.due("toggle behind the red door", quest.toggle(), 1);
        walk(quest, 0, LockQuest.LOCKED);
        expect(quest, 10, 73);
        CHECKS.due("toggle back", quest.toggle(), 0);
        walk(quest, 0, 0);
        CHECKS.due("toggle before the red door", quest.toggle(), 1);
        walk(quest, 3, LockQuest.LOCKED);
        walk(quest, 2, 3);
        walk(quest, 2, 6);
        CHECKS.due("toggle behind the blue door", quest.toggle(), 0);
        walk(quest, 0, LockQuest.LOCKED);
        CHECKS.due("toggle back behind the blue door", quest.toggle(), 1);
        walk(quest, 0, 3);
        CHECKS.due("toggle before the blue door", quest.toggle(), 0);
        walk(quest, 2, LockQuest.LOCKED);
    }

    private static void loopsArePlain() {
        LockQuest quest = new LockQuest();
        quest.make(-7, 12, 3, 3, 2);
        quest.take();
        walk(quest, 2, 3);
        walk(quest, 1, LockQuest.LOCKED);
        walk(quest, 2, LockQuest.LOCKED);
        walk(quest, 3, 8);
        walk(quest, 1, 6);
        walk(quest, 0, LockQuest.LOCKED);
        walk(quest, 1, 9);
        walk(quest, 1, 4);
        walk(quest, 0, LockQuest.LOCKED);
        walk(quest, 1, 9);
        expect(quest, 9, 1);
    }

    private static void restart() {
        LockQuest quest = new LockQuest();
        quest.make(-7, 12, 3, 3, 2);
        quest.take();
        walk(quest, 0, 1);
        walk(quest, 0, 0);
        CHECKS.due("toggle", quest.toggle(), 1);
        walk(quest, 0, 1);
        quest.restart();
        expect(quest, 0, 0);
        walk(quest, 0, LockQuest.LOCKED);
        walk(quest, 1, LockQuest.LOCKED);
        walk(quest, 3, 10);
        walk(quest, 0, 0);
        CHECKS.due("take after restart", quest.take(), 2);
        expect(quest, 0, 9);
        CHECKS.due("goal after restart", quest.goal(), 11);
        CHECKS.due("what lies in room 0 after take", quest.room(0, 5), 9);
    }
}
