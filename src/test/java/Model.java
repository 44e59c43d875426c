import java.util.ArrayDeque;
import java.util.ArrayList;
import java.util.HashMap;
import java.util.HashSet;
import java.util.List;
import java.util.Map;
import java.util.Set;
import java.util.TreeMap;
import java.util.TreeSet;
import java.util.function.Predicate;

/**
 * The document once more, written apart from the program: objects and sets in place of bits and rows, and each question
 * answered by its definition. The tests compare the program with it.
 */
final class Model {
    enum Kind { PLAIN, LOCK, SMALL, RED, BLUE }

    static final class Room {
        int number;
        Room parent;
        int level;
        Kind kind = Kind.PLAIN;
        int smallDoor = -1;
        int x;
        int y;
        boolean hasSwitch;
        final Set<Integer> keys = new TreeSet<>();
        final Set<Integer> smallKeys = new TreeSet<>();
        final Set<Integer> loops = new TreeSet<>();
    }

    /** A door as seen from a room: where it leads, and the room whose own door it is (null for a loop). */
    record Door(Room to, Room owner) { }

    record Spot(int room, Set<Integer> keys, Set<Integer> smallKeys, Set<Integer> opened, int position) { }

    final List<Room> rooms = new ArrayList<>();
    int goal;
    Spot spot;
    private long state;

    Model(long seed, int r, int k, int small, int barriers) {
        state = seed;
        addRooms(r, k);
        for (int key = 1; key <= k; key++) {
            int wanted = key;
            drawn(q -> q.level < wanted).keys.add(key);
        }
        int made = addSmallDoors(small);
        for (int key = 0; key < made; key++) {
            drawn(q -> q.level == 0 && isOpenToStart(q)).smallKeys.add(key);
        }
        addBarriers(barriers);
        goal = drawn(q -> q.level == k).number;
        for (int n = 1; n < r; n++) {
            putInPlace(rooms.get(n));
        }
        addLoops();
        restart();
    }

    private int draw(int n) {
        state = state * 6364136223846793005L + 1442695040888963407L;
        return (int) ((state >>> 33) % n);
    }

    private List<Room> roomsThat(Predicate<Room> fit) {
        return rooms.stream().filter(fit).toList();
    }

    private Room drawn(Predicate<Room> fit) {
        List<Room> fitting = roomsThat(fit);
        return fitting.get(draw(fitting.size()));
    }

    private int top() {
        return rooms.stream().mapToInt(q -> q.level).max().orElse(0);
    }

    private void addRooms(int r, int k) {
        rooms.add(new Room());
        while (rooms.size() < r) {
            Room added = new Room();
            added.number = rooms.size();
            int top = top();
            boolean rises;
            if (r - added.number == k - top) {
                added.parent = drawn(q -> q.level == top);
                rises = true;
            } else {
                added.parent = rooms.get(draw(added.number));
                rises = false;
                if (added.parent.level == top && top < k) {
                    rises = draw(4) == 0;
                }
            }
            if (rises) {
                added.level = top + 1;
                added.kind = Kind.LOCK;
            } else {
                added.level = added.parent.level;
            }
            rooms.add(added);
        }
    }

    private boolean hasPlainDoor(Room q) {
        return q.parent != null && q.kind == Kind.PLAIN;
    }

    private int addSmallDoors(int asked) {
        int made = 0;
        for (int n = 0; n < asked; n++) {
            if (!roomsThat(this::hasPlainDoor).isEmpty()) {
                Room q = drawn(this::hasPlainDoor);
                q.kind = Kind.SMALL;
                q.smallDoor = made++;
            }
        }
        return made;
    }

    private boolean isOpenToStart(Room q) {
        return q.parent == null || q.kind != Kind.SMALL && isOpenToStart(q.parent);
    }

    private void addBarriers(int asked) {
        for (int n = 0; n < asked; n++) {
            if (!roomsThat(this::hasPlainDoor).isEmpty()) {
                Room q = drawn(this::hasPlainDoor);
                q.kind = draw(2) == 0 ? Kind.RED : Kind.BLUE;
                q.hasSwitch = true;
                q.parent.hasSwitch = true;
            }
        }
    }

    private void putInPlace(Room q) {
        int d = draw(4);
        int x = q.parent.x;
        int y = q.parent.y;
        do {
            if (d == 0) {
                x++;
            } else if (d == 1) {
                y++;
            } else if (d == 2) {
                x--;
            } else {
                y--;
            }
        } while (isTaken(x, y, q.number));
        q.x = x;
        q.y = y;
    }

    private boolean isTaken(int x, int y, int placed) {
        return rooms.subList(0, placed).stream().anyMatch(q -> q.x == x && q.y == y);
    }

    private void addLoops() {
        for (Room r : rooms) {
            for (Room q : rooms.subList(0, r.number)) {
                int dx = r.x - q.x;
                int dy = r.y - q.y;
                boolean near = dx == 0 && (dy == 1 || dy == -1) || dy == 0 && (dx == 1 || dx == -1);
                if (near && r.level == q.level && r.parent != q && q.parent != r && draw(3) == 0) {
                    r.loops.add(q.number);
                    q.loops.add(r.number);
                }
            }
        }
    }

    List<Door> doorsOf(Room r) {
        List<Door> doors = new ArrayList<>();
        if (r.parent != null) {
            doors.add(new Door(r.parent, r));
        }
        for (Room q : rooms) {
            if (q.parent == r) {
                doors.add(new Door(q, q));
            }
        }
        for (int q : r.loops) {
            doors.add(new Door(rooms.get(q), null));
        }
        return doors;
    }

    int allDoors() {
        return rooms.stream().mapToInt(r -> doorsOf(r).size()).sum() / 2;
    }

    int room(int r, int what) {
        if (r < 0 || r >= rooms.size() || what < 0 || what > 7) {
            return -100;
        }
        Room q = rooms.get(r);
        int lying = 0;
        for (int l : q.keys) {
            lying += 1 << (l - 1);
        }
        for (int i : q.smallKeys) {
            lying += 8 * (1 << i);
        }
        int[] facts = {q.parent == null ? -1 : q.parent.number, q.level, q.kind.ordinal(), q.x, q.y, lying,
            q.hasSwitch ? 1 : 0, doorsOf(q).size()};
        return facts[what];
    }

    int behind(int r, int i) {
        if (r < 0 || r >= rooms.size() || i < 0 || i >= doorsOf(rooms.get(r)).size()) {
            return -1;
        }
        return doorsOf(rooms.get(r)).get(i).to.number;
    }

    void restart() {
        spot = new Spot(0, Set.of(), Set.of(), Set.of(), 0);
    }

    private static Set<Integer> with(Set<Integer> some, Set<Integer> more) {
        Set<Integer> all = new HashSet<>(some);
        all.addAll(more);
        return Set.copyOf(all);
    }

    /** The spot behind a door, or null if it does not open. */
    private Spot through(Spot s, Door door) {
        Room owner = door.owner;
        Kind kind = owner == null ? Kind.PLAIN : owner.kind;
        Set<Integer> opened = s.opened;
        boolean opens = true;
        if (kind == Kind.LOCK) {
            opens = s.keys.contains(owner.level);
        } else if (kind == Kind.SMALL && !s.opened.contains(owner.smallDoor)) {
            opens = s.smallKeys.size() > s.opened.size();
            opened = with(s.opened, Set.of(owner.smallDoor));
        } else if (kind == Kind.RED) {
            opens = s.position == 0;
        } else if (kind == Kind.BLUE) {
            opens = s.position == 1;
        }
        return opens ? new Spot(door.to.number, s.keys, s.smallKeys, opened, s.position) : null;
    }

    private Spot taken(Spot s) {
        Room r = rooms.get(s.room);
        return new Spot(s.room, with(s.keys, r.keys), with(s.smallKeys, r.smallKeys), s.opened, s.position);
    }

    private Spot toggled(Spot s) {
        return new Spot(s.room, s.keys, s.smallKeys, s.opened, 1 - s.position);
    }

    int walk(int i) {
        List<Door> doors = doorsOf(rooms.get(spot.room));
        if (i < 0 || i >= doors.size()) {
            return -1;
        }
        Spot next = through(spot, doors.get(i));
        if (next == null) {
            return -2;
        }
        spot = next;
        return spot.room;
    }

    int take() {
        int before = spot.keys.size() + spot.smallKeys.size();
        spot = taken(spot);
        return spot.keys.size() + spot.smallKeys.size() - before;
    }

    int toggle() {
        if (!rooms.get(spot.room).hasSwitch) {
            return -1;
        }
        spot = toggled(spot);
        return spot.position;
    }

    int having() {
        int sum = 8 * (spot.smallKeys.size() - spot.opened.size()) + 64 * spot.position;
        for (int l : spot.keys) {
            sum += 1 << (l - 1);
        }
        return sum;
    }

    /** The spots after each action that is not refused, by the actions' numbers. */
    private Map<Integer, Spot> actions(Spot s) {
        Map<Integer, Spot> after = new TreeMap<>();
        List<Door> doors = doorsOf(rooms.get(s.room));
        for (int i = 0; i < doors.size(); i++) {
            Spot next = through(s, doors.get(i));
            if (next != null) {
                after.put(i, next);
            }
        }
        after.put(100, taken(s));
        if (rooms.get(s.room).hasSwitch) {
            after.put(200, toggled(s));
        }
        return after;
    }

    /** All that can be answered about what is still to be done from the spot. */
    record Outlook(int steps, int hint, int situations, boolean safe) { }

    /** The distances to the goal are counted backwards from all spots at the goal, along the actions turned round. */
    Outlook outlook() {
        Map<Spot, Map<Integer, Spot>> graph = reached();
        Map<Spot, Integer> far = distances(graph);
        int steps = far.getOrDefault(spot, -3);
        int hint = steps == 0 ? -1 : -3;
        if (steps > 0) {
            for (Map.Entry<Integer, Spot> action : graph.get(spot).entrySet()) {
                if (far.getOrDefault(action.getValue(), -1) == steps - 1) {
                    hint = action.getKey();
                    break;
                }
            }
        }
        return new Outlook(steps, hint, graph.size(), far.size() == graph.size());
    }

    private Map<Spot, Map<Integer, Spot>> reached() {
        Map<Spot, Map<Integer, Spot>> graph = new HashMap<>();
        ArrayDeque<Spot> waiting = new ArrayDeque<>(List.of(spot));
        graph.put(spot, actions(spot));
        while (!waiting.isEmpty()) {
            for (Spot next : graph.get(waiting.removeLast()).values()) {
                if (!graph.containsKey(next)) {
                    graph.put(next, actions(next));
                    waiting.addLast(next);
                }
            }
        }
        return graph;
    }

    private Map<Spot, Integer> distances(Map<Spot, Map<Integer, Spot>> graph) {
        Map<Spot, List<Spot>> before = new HashMap<>();
        graph.forEach((s, after) -> after.values().forEach(
                next -> before.computeIfAbsent(next, none -> new ArrayList<>()).add(s)));
        Map<Spot, Integer> far = new HashMap<>();
        ArrayDeque<Spot> waiting = new ArrayDeque<>();
        for (Spot s : graph.keySet()) {
            if (s.room == goal) {
                far.put(s, 0);
                waiting.add(s);
            }
        }
        while (!waiting.isEmpty()) {
            Spot s = waiting.removeFirst();
            for (Spot earlier : before.getOrDefault(s, List.of())) {
                if (far.putIfAbsent(earlier, far.get(s) + 1) == null) {
                    waiting.addLast(earlier);
                }
            }
        }
        return far;
    }
}
