import java.util.Random;

/** All promises: many adventures and games in them, each answer compared with the model's. */
public final class AgainstModelTest {
    private static final Checks CHECKS = new Checks("AgainstModelTest");
    private static final long[] EDGE_SEEDS = {0, 1, -1, Long.MAX_VALUE, Long.MIN_VALUE, 1L << 33, 6364136223846793005L};

    public static void main(String[] args) {
        Random random = new Random(20261115);
        compareFacts(new LockQuest(), new Model(0, 2, 1, 0, 0), "new");
        for (int run = 0; run < 3000; run++) {
            compareAdventure(random, run);
        }
        for (int run = 0; run < 150; run++) {
            compareOutlooks(random);
        }
        CHECKS.end();
    }

    /** An object is used for at most 512 calls, so the facts and the game are looked at in two. */
    private static void compareAdventure(Random random, int run) {
        long seed = run < EDGE_SEEDS.length ? EDGE_SEEDS[run] : random.nextLong();
        int rooms = 2 + random.nextInt(11);
        int levels = 1 + random.nextInt(Math.min(3, rooms - 1));
        int small = random.nextInt(4);
        int barriers = random.nextInt(3);
        String name = "make(" + seed + ", " + rooms + ", " + levels + ", " + small + ", " + barriers + ")";
        Model model = new Model(seed, rooms, levels, small, barriers);
        LockQuest seen = new LockQuest();
        seen.make(random.nextLong(), 12, 3, 3, 2);
        CHECKS.due(name, seen.make(seed, rooms, levels, small, barriers), model.allDoors());
        compareFacts(seen, model, name);
        LockQuest played = new LockQuest();
        played.make(random.nextLong(), 12, 3, 3, 2);
        played.take();
        played.make(seed, rooms, levels, small, barriers);
        play(played, model, random, name, 60);
    }

    private static void compareOutlooks(Random random) {
        long seed = random.nextLong();
        int rooms = 5 + random.nextInt(8);
        int levels = 1 + random.nextInt(3);
        LockQuest quest = new LockQuest();
        quest.make(seed, rooms, levels, 3, 2);
        Model model = new Model(seed, rooms, levels, 3, 2);
        String name = "after make(" + seed + ", " + rooms + ", " + levels + ", 3, 2)";
        for (int n = 0; n < 6; n++) {
            Model.Outlook outlook = model.outlook();
            CHECKS.due("steps " + name, quest.steps(), outlook.steps());
            CHECKS.due("hint " + name, quest.hint(), outlook.hint());
            CHECKS.due("situations " + name, quest.situations(), outlook.situations());
            CHECKS.due("safe " + name, quest.safe(), outlook.safe());
            play(quest, model, random, name, 8);
        }
    }

    private static void compareFacts(LockQuest quest, Model model, String name) {
        CHECKS.due("goal after " + name, quest.goal(), model.goal);
        for (int r = -1; r <= 12; r++) {
            for (int what = -1; what <= 8; what++) {
                CHECKS.due("room(" + r + ", " + what + ") after " + name, quest.room(r, what), model.room(r, what));
            }
            for (int i = -1; i <= 12; i++) {
                CHECKS.due("behind(" + r + ", " + i + ") after " + name, quest.behind(r, i), model.behind(r, i));
            }
        }
    }

    private static void play(LockQuest quest, Model model, Random random, String name, int actions) {
        for (int n = 0; n < actions; n++) {
            int choice = random.nextInt(40);
            if (choice < 22) {
                int i = random.nextInt(6) - 1;
                CHECKS.due("walk(" + i + ") " + name, quest.walk(i), model.walk(i));
            } else if (choice < 33) {
                CHECKS.due("take " + name, quest.take(), model.take());
            } else if (choice < 39) {
                CHECKS.due("toggle " + name, quest.toggle(), model.toggle());
            } else if (random.nextInt(4) == 0) {
                quest.restart();
                model.restart();
            }
            CHECKS.due("here " + name, quest.here(), model.spot.room());
            CHECKS.due("having " + name, quest.having(), model.having());
        }
    }
}
