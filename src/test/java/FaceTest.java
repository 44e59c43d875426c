import java.lang.reflect.Constructor;
import java.lang.reflect.Field;
import java.lang.reflect.Method;
import java.lang.reflect.Modifier;
import java.util.Set;
import java.util.TreeSet;

/** The public face: the members of the document, the constants' values, and nothing else that can be seen. */
public final class FaceTest {
    private static final Checks CHECKS = new Checks("FaceTest");

    private static final Set<String> DUE = Set.of(
            "public static final int LockQuest.BAD",
            "public static final int LockQuest.LOCKED",
            "public static final int LockQuest.NONE",
            "public LockQuest()",
            "public int LockQuest.make(long,int,int,int,int)",
            "public int LockQuest.room(int,int)",
            "public int LockQuest.behind(int,int)",
            "public int LockQuest.goal()",
            "public void LockQuest.restart()",
            "public int LockQuest.walk(int)",
            "public int LockQuest.take()",
            "public int LockQuest.toggle()",
            "public int LockQuest.here()",
            "public int LockQuest.having()",
            "public int LockQuest.steps()",
            "public int LockQuest.hint()",
            "public int LockQuest.situations()",
            "public boolean LockQuest.safe()");

    public static void main(String[] args) {
        CHECKS.due("BAD", LockQuest.BAD, -1);
        CHECKS.due("LOCKED", LockQuest.LOCKED, -2);
        CHECKS.due("NONE", LockQuest.NONE, -3);
        CHECKS.due("LockQuest is public and final", LockQuest.class.getModifiers(), Modifier.PUBLIC | Modifier.FINAL);
        Set<String> seen = visibleMembers();
        for (String member : DUE) {
            CHECKS.due("has " + member, seen.contains(member), true);
        }
        for (String member : seen) {
            CHECKS.due("is of the document: " + member, DUE.contains(member), true);
        }
        CHECKS.end();
    }

    private static Set<String> visibleMembers() {
        Set<String> seen = new TreeSet<>();
        for (Field f : LockQuest.class.getDeclaredFields()) {
            if (!Modifier.isPrivate(f.getModifiers())) {
                seen.add(f.toString());
            }
        }
        for (Constructor<?> c : LockQuest.class.getDeclaredConstructors()) {
            if (!Modifier.isPrivate(c.getModifiers())) {
                seen.add(c.toString());
            }
        }
        for (Method m : LockQuest.class.getDeclaredMethods()) {
            if (!Modifier.isPrivate(m.getModifiers())) {
                seen.add(m.toString());
            }
        }
        return seen;
    }
}
