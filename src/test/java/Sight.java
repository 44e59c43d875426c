/** What can be seen of an object, as texts to compare. An object of 12 rooms is seen whole with some 160 calls. */
final class Sight {
    static final int PARENT = 0;
    static final int LEVEL = 1;
    static final int KIND = 2;
    static final int X = 3;
    static final int Y = 4;
    static final int LYING = 5;
    static final int SWITCH = 6;
    static final int DOORS = 7;

    // More rooms, or doors of a room, than there can be.
    private static final int MOST = 14;

    private Sight() { }

    /** One fact of each room. */
    static String facts(LockQuest quest, int what) {
        StringBuilder text = new StringBuilder();
        int fact = quest.room(0, what);
        for (int r = 1; fact != -100 && r <= MOST; r++) {
            text.append(r == 1 ? "" : " ").append(fact);
            fact = quest.room(r, what);
        }
        return text.toString();
    }

    /** The rooms behind the doors of a room. */
    static String behind(LockQuest quest, int r) {
        StringBuilder text = new StringBuilder();
        int to = quest.behind(r, 0);
        for (int i = 1; to != LockQuest.BAD && i <= MOST; i++) {
            text.append(i == 1 ? "" : " ").append(to);
            to = quest.behind(r, i);
        }
        return text.toString();
    }

    static String adventure(LockQuest quest) {
        StringBuilder text = new StringBuilder("goal " + quest.goal());
        for (int what = PARENT; what <= DOORS; what++) {
            text.append(" | ").append(facts(quest, what));
        }
        for (int r = 0; quest.room(r, LEVEL) != -100 && r < MOST; r++) {
            text.append(" | ").append(behind(quest, r));
        }
        return text.toString();
    }

    static String game(LockQuest quest) {
        return "here " + quest.here() + " having " + quest.having() + " steps " + quest.steps()
                + " hint " + quest.hint() + " situations " + quest.situations() + " safe " + quest.safe();
    }

    static String all(LockQuest quest) {
        return game(quest) + " | " + adventure(quest);
    }
}
