import java.util.ArrayList;
import java.util.Comparator;
import java.util.HashMap;
import java.util.HashSet;
import java.util.List;
import java.util.Map;
import java.util.Set;
import java.util.TreeMap;

/**
 * The document once more, from its first line and in another way than the program goes: a letter
 * carries what it does when it arrives, a record is never changed but replaced, what isn't there is
 * missing from a map. It has the calls of the face; ModelTest compares what they answer.
 */
final class Model {
    private static final int NONE = -1;
    private static final int REFEREE = 2;

    private record Node(int yes, int no, int grade) {
        boolean isLeaf() {
            return grade > 0;
        }
    }

    private record Stamp(int number, int changes) {
        boolean isNewerThan(Stamp other) {
            return number > other.number || number == other.number && changes > other.changes;
        }

        Stamp changedUnder(int grant) {
            return new Stamp(grant, grant == number ? changes + 1 : 1);
        }
    }

    private record Entry(int junction, int hash, int node, int grade, int state, int unit, int linked,
            Stamp stamp) {
        Entry asked(int nextNode, int nextGrade) {
            return new Entry(junction, hash, nextNode, nextGrade, state, unit, linked, stamp);
        }

        Entry ordered(int lastUnit) {
            return new Entry(junction, hash, node, grade, 1, lastUnit, linked, stamp);
        }

        Entry closed() {
            return new Entry(junction, hash, node, grade, 2, unit, linked, stamp);
        }

        Entry linkedOnceMore() {
            return new Entry(junction, hash, node, grade, state, unit, linked + 1, stamp);
        }

        Entry stamped(Stamp next) {
            return new Entry(junction, hash, node, grade, state, unit, linked, next);
        }

        boolean isClosed() {
            return state == 2;
        }
    }

    private record Report(int serial, int state, int junction, int call) {
        boolean isOn(int someCall) {
            return call == someCall && state != 0 && state != 3;
        }
    }

    private record Grant(int number, long askedAt) {
    }

    private record LastGrant(int room, long at) {
    }

    private record Letter(int kind, int by, int to, int about, int number, Runnable arrives) {
    }

    private static final class Unit {
        private int junction;
        private int skill;
        private int state;
        private int call = NONE;
        private int serial;
        private int obeyed;
        private int goal;
    }

    private static final class Room {
        private boolean up = true;
        private int speed = 50;
        private long clock;
        private int taken;
        private final Map<Integer, Grant> grants = new HashMap<>();
        private final Map<Integer, Integer> highest = new HashMap<>();
        private final Map<Integer, Entry> entries = new TreeMap<>();
        private final Set<Integer> sure = new HashSet<>();
        private final Map<Integer, Report> reports = new HashMap<>();
        private final Set<Integer> orderedSince = new HashSet<>();
    }

    private final Map<List<Integer>, Integer> roads = new HashMap<>();
    private final Map<Integer, Integer> districts = new HashMap<>();
    private final Map<Integer, Node> nodes = new HashMap<>();
    private final List<Unit> units = new ArrayList<>();
    private final List<Room> rooms = List.of(new Room(), new Room());
    private final List<Letter> waiting = new ArrayList<>();
    private final Map<Integer, Entry> stored = new TreeMap<>();
    private final Map<Integer, LastGrant> granted = new HashMap<>();
    private long clock;
    private int grantNumber;

    Model() {
        for (int u = 0; u < 6; u++) {
            units.add(new Unit());
        }
    }

    // ---- the town ----

    boolean road(int from, int to, int seconds) {
        if (!isJunction(from) || !isJunction(to) || from == to || seconds < 0 || seconds > 999) {
            return false;
        }
        List<Integer> ends = List.of(from, to);
        if (seconds == 0) {
            roads.remove(ends);
            return true;
        }
        if (roads.size() == 30 && !roads.containsKey(ends)) {
            return false;
        }
        roads.put(ends, seconds);
        return true;
    }

    boolean district(int junction, int district) {
        boolean may = isJunction(junction) && isDistrict(district);
        if (may) {
            districts.put(junction, district);
        }
        return may;
    }

    boolean card(int node, int yes, int no, int grade) {
        boolean question = grade == 0 && isNode(yes) && isNode(no);
        boolean leaf = grade >= 1 && grade <= 5;
        if (!isNode(node) || !question && !leaf) {
            return false;
        }
        nodes.put(node, new Node(yes, no, grade));
        return true;
    }

    int questions(int node) {
        return isNode(node) ? mostFrom(node, new HashSet<>()) : NONE;
    }

    private int mostFrom(int node, Set<Integer> askedBefore) {
        if (nodeOf(node).isLeaf()) {
            return 0;
        }
        if (askedBefore.contains(node)) {
            return NONE;
        }
        Set<Integer> asked = new HashSet<>(askedBefore);
        asked.add(node);
        int yes = mostFrom(nodeOf(node).yes(), asked);
        int no = mostFrom(nodeOf(node).no(), asked);
        return yes == NONE || no == NONE ? NONE : 1 + Math.max(yes, no);
    }

    private Node nodeOf(int node) {
        return nodes.getOrDefault(node, new Node(0, 0, 1));
    }

    private int districtOf(int junction) {
        return districts.getOrDefault(junction, 0);
    }

    /** From the one to all that can be reached, the nearest first. */
    private int way(int from, int to) {
        Map<Integer, Integer> reached = new HashMap<>();
        Map<Integer, Integer> seen = new HashMap<>(Map.of(from, 0));
        while (!seen.isEmpty()) {
            int next = seen.entrySet().stream().min(Map.Entry.comparingByValue()).get().getKey();
            int sum = seen.remove(next);
            reached.put(next, sum);
            roads.forEach((ends, seconds) -> {
                if (ends.get(0) == next && !reached.containsKey(ends.get(1))) {
                    seen.merge(ends.get(1), sum + seconds, Math::min);
                }
            });
        }
        return reached.getOrDefault(to, NONE);
    }

    int eta(int unit, int junction) {
        return isUnit(unit) && isJunction(junction) ? way(units.get(unit).junction, junction) : NONE;
    }

    // ---- units ----

    boolean unit(int unit, int junction, int skill) {
        if (!isUnit(unit) || !isJunction(junction) || skill < 0 || skill > 2) {
            return false;
        }
        Unit it = units.get(unit);
        if (it.state == 1 || it.state == 2) {
            return false;
        }
        it.junction = junction;
        it.skill = skill;
        return true;
    }

    boolean status(int unit, int state) {
        if (!isUnit(unit)) {
            return false;
        }
        Unit it = units.get(unit);
        String change = it.state + " to " + state;
        switch (change) {
            case "0 to 3", "3 to 0", "0 to 0", "1 to 1", "2 to 2", "3 to 3" -> it.state = state;
            case "1 to 2" -> {
                it.state = 2;
                it.junction = it.goal;
            }
            case "2 to 0" -> {
                it.state = 0;
                it.call = NONE;
            }
            default -> {
                return false;
            }
        }
        report(unit);
        return true;
    }

    private void report(int unit) {
        Unit it = units.get(unit);
        it.serial++;
        Report report = new Report(it.serial, it.state, it.junction, it.call);
        for (int room = 0; room < 2; room++) {
            Room to = rooms.get(room);
            send(6, 3 + unit, room, unit, it.serial, () -> takeReport(to, unit, report));
        }
    }

    private static void takeReport(Room room, int unit, Report report) {
        Report last = room.reports.get(unit);
        if (last == null || report.serial() > last.serial()) {
            room.reports.put(unit, report);
            room.orderedSince.remove(unit);
        }
    }

    private void arriveOrder(int unit, int call, int junction, int number) {
        Unit it = units.get(unit);
        if (it.state == 0 && number >= it.obeyed) {
            it.state = 1;
            it.call = call;
            it.goal = junction;
            it.obeyed = number;
        }
        report(unit);
    }

    int unitIs(int unit, int what) {
        if (!isUnit(unit)) {
            return NONE;
        }
        Unit it = units.get(unit);
        return part(what, it.state, it.junction, it.call, it.obeyed, it.serial, it.skill);
    }

    int unitKnown(int room, int unit, int what) {
        if (!isRoom(room) || !isUnit(unit) || !rooms.get(room).reports.containsKey(unit)) {
            return NONE;
        }
        Report it = rooms.get(room).reports.get(unit);
        int notFree = countsAsFree(rooms.get(room), unit) ? 0 : 1;
        return part(what, it.state(), it.junction(), it.call(), it.serial(), notFree);
    }

    // ---- time and grants ----

    boolean speed(int room, int speed) {
        boolean may = isRoom(room) && speed >= 49 && speed <= 51;
        if (may) {
            rooms.get(room).speed = speed;
        }
        return may;
    }

    long tick(int seconds) {
        argument(seconds >= 0 && seconds <= 1000);
        for (int second = 0; second < seconds; second++) {
            clock += 50;
            rooms.forEach(room -> room.clock += room.speed);
        }
        return clock;
    }

    void ask(int room, int district) {
        argument(isRoom(room) && isDistrict(district));
        state(rooms.get(room).up);
        long asked = rooms.get(room).clock;
        send(0, room, REFEREE, district, 0, () -> arriveAsk(room, district, asked));
    }

    private void arriveAsk(int room, int district, long asked) {
        LastGrant last = granted.get(district);
        if (last != null && last.room() != room && clock - last.at() < 2100) {
            return;
        }
        grantNumber++;
        int number = grantNumber;
        granted.put(district, new LastGrant(room, clock));
        send(1, REFEREE, room, district, number, () -> arriveGrant(room, district, number, asked));
        stored.forEach((call, entry) -> {
            if (districtOf(entry.junction()) == district) {
                sendCopy(REFEREE, room, call, entry);
            }
        });
    }

    private void arriveGrant(int room, int district, int number, long asked) {
        Room it = rooms.get(room);
        if (number > it.highest.getOrDefault(district, 0)) {
            it.highest.put(district, number);
            it.grants.put(district, new Grant(number, asked));
        }
    }

    int grantOf(int room, int district) {
        if (!isRoom(room) || !isDistrict(district)) {
            return 0;
        }
        Room it = rooms.get(room);
        Grant grant = it.grants.get(district);
        boolean charge = it.up && grant != null && it.clock - grant.askedAt() < 2000;
        return charge ? grant.number() : 0;
    }

    // ---- calls ----

    int take(int room, int junction, int hash) {
        argument(isRoom(room) && isJunction(junction));
        Room it = rooms.get(room);
        state(inCharge(room, junction) && it.taken < 8);
        for (int call : it.entries.keySet()) {
            Entry entry = it.entries.get(call);
            if (!entry.isClosed() && entry.hash() == hash && isNear(way(entry.junction(), junction))) {
                if (inCharge(room, entry.junction())) {
                    change(room, call, entry.linkedOnceMore());
                }
                return 100 + call;
            }
        }
        int call = 8 * room + it.taken;
        it.taken++;
        Stamp unchanged = new Stamp(0, 0);
        change(room, call, new Entry(junction, hash, 0, nodeOf(0).grade(), 0, NONE, 0, unchanged));
        return call;
    }

    private static boolean isNear(int way) {
        return way != NONE && way <= 60;
    }

    int answer(int room, int call, boolean yes) {
        Entry entry = workOn(room, call);
        state(entry.grade() == 0);
        Node node = nodeOf(entry.node());
        int next = node.isLeaf() ? entry.node() : yes ? node.yes() : node.no();
        change(room, call, entry.asked(next, nodeOf(next).grade()));
        return nodeOf(next).grade();
    }

    int order(int room, int call) {
        Entry entry = workOn(room, call);
        Room it = rooms.get(room);
        state(it.reports.values().stream().noneMatch(report -> report.isOn(call)));
        int grade = entry.grade() == 0 ? 5 : entry.grade();
        List<Integer> fitting = freeUnits(it, (grade - 1) / 2, entry.junction());
        if (fitting.isEmpty()) {
            return NONE;
        }
        int unit = fitting.get(0);
        int number = grantOf(room, districtOf(entry.junction()));
        send(5, room, 3 + unit, call, number, () -> arriveOrder(unit, call, entry.junction(), number));
        it.orderedSince.add(unit);
        change(room, call, entry.ordered(unit));
        return unit;
    }

    void close(int room, int call) {
        change(room, call, workOn(room, call).closed());
    }

    void store(int room, int call) {
        argument(knows(room, call));
        state(rooms.get(room).up);
        Entry entry = rooms.get(room).entries.get(call);
        send(4, room, REFEREE, call, entry.stamp().number(), () -> arriveStore(room, call, entry));
    }

    private void arriveStore(int room, int call, Entry entry) {
        Entry own = stored.get(call);
        if (own == null || entry.stamp().isNewerThan(own.stamp())) {
            stored.put(call, entry);
        }
        sendReceipt(REFEREE, room, call, entry.stamp());
    }

    private Entry workOn(int room, int call) {
        argument(knows(room, call));
        Entry entry = rooms.get(room).entries.get(call);
        state(inCharge(room, entry.junction()));
        state(!entry.isClosed());
        return entry;
    }

    private boolean inCharge(int room, int junction) {
        return grantOf(room, districtOf(junction)) > 0;
    }

    /** Not of the face: for a test that looks for calls which are not refused. */
    boolean mayWorkAt(int room, int junction) {
        return isJunction(junction) && inCharge(room, junction);
    }

    private void change(int room, int call, Entry changed) {
        int number = grantOf(room, districtOf(changed.junction()));
        Entry entry = changed.stamped(changed.stamp().changedUnder(number));
        rooms.get(room).entries.put(call, entry);
        rooms.get(room).sure.remove(call);
        sendCopy(room, 1 - room, call, entry);
    }

    int nearest(int room, int skill, int junction, int i) {
        if (!isRoom(room) || !isJunction(junction)) {
            return NONE;
        }
        List<Integer> free = freeUnits(rooms.get(room), skill, junction);
        return i >= 0 && i < free.size() ? free.get(i) : NONE;
    }

    private List<Integer> freeUnits(Room room, int skill, int junction) {
        Map<Integer, Integer> ways = new TreeMap<>();
        room.reports.forEach((unit, report) -> {
            int way = way(report.junction(), junction);
            if (countsAsFree(room, unit) && units.get(unit).skill >= skill && way != NONE) {
                ways.put(unit, way);
            }
        });
        List<Integer> sorted = new ArrayList<>(ways.keySet());
        sorted.sort(Comparator.comparing(ways::get));
        return sorted;
    }

    private static boolean countsAsFree(Room room, int unit) {
        return room.reports.get(unit).state() == 0 && !room.orderedSince.contains(unit);
    }

    int callKnown(int who, int call, int what) {
        Map<Integer, Entry> entries = who == REFEREE ? stored : isRoom(who) ? rooms.get(who).entries : Map.of();
        Entry it = entries.get(call);
        if (it == null) {
            return NONE;
        }
        int sure = who != REFEREE && rooms.get(who).sure.contains(call) ? 1 : 0;
        return part(what, it.junction(), it.node(), it.grade(), it.state(), it.unit(), it.linked(),
                it.stamp().number(), it.stamp().changes(), sure);
    }

    // ---- letters ----

    private void send(int kind, int by, int to, int about, int number, Runnable arrives) {
        if (waiting.size() < 48) {
            waiting.add(new Letter(kind, by, to, about, number, arrives));
        }
    }

    private void sendCopy(int by, int to, int call, Entry entry) {
        send(2, by, to, call, entry.stamp().number(), () -> arriveCopy(by, to, call, entry));
    }

    private void arriveCopy(int by, int to, int call, Entry entry) {
        Room room = rooms.get(to);
        Entry own = room.entries.get(call);
        if (own == null || entry.stamp().isNewerThan(own.stamp())) {
            room.entries.put(call, entry);
            room.sure.remove(call);
        }
        if (by != REFEREE) {
            sendReceipt(to, by, call, entry.stamp());
        }
    }

    private void sendReceipt(int by, int to, int call, Stamp stamp) {
        send(3, by, to, call, stamp.number(), () -> {
            Entry own = rooms.get(to).entries.get(call);
            if (own != null && own.stamp().equals(stamp)) {
                rooms.get(to).sure.add(call);
            }
        });
    }

    int letters() {
        return waiting.size();
    }

    int letter(int i, int what) {
        if (!waits(i)) {
            return NONE;
        }
        Letter it = waiting.get(i);
        return part(what, it.kind(), it.by(), it.to(), it.about(), it.number());
    }

    boolean deliver(int i) {
        if (!waits(i)) {
            return false;
        }
        Letter letter = waiting.remove(i);
        if (!isRoom(letter.to()) || rooms.get(letter.to()).up) {
            letter.arrives().run();
        }
        return true;
    }

    boolean lose(int i) {
        return waits(i) && waiting.remove(i) != null;
    }

    boolean twin(int i) {
        return waits(i) && waiting.size() < 48 && waiting.add(waiting.get(i));
    }

    // ---- rooms go down and come up ----

    boolean crash(int room) {
        if (!isRoom(room) || !rooms.get(room).up) {
            return false;
        }
        Room it = rooms.get(room);
        it.up = false;
        it.grants.clear();
        it.reports.clear();
        it.orderedSince.clear();
        it.sure.clear();
        return true;
    }

    boolean mount(int room) {
        if (!isRoom(room) || rooms.get(room).up) {
            return false;
        }
        rooms.get(room).up = true;
        int other = 1 - room;
        send(7, room, other, NONE, 0, () ->
                rooms.get(other).entries.forEach((call, entry) -> sendCopy(other, room, call, entry)));
        return true;
    }

    // ---- which ones there are ----

    private static int part(int what, int... parts) {
        return what >= 0 && what < parts.length ? parts[what] : NONE;
    }

    private static void argument(boolean right) {
        if (!right) {
            throw new IllegalArgumentException();
        }
    }

    private static void state(boolean right) {
        if (!right) {
            throw new IllegalStateException();
        }
    }

    private boolean knows(int room, int call) {
        return isRoom(room) && rooms.get(room).entries.containsKey(call);
    }

    private boolean waits(int i) {
        return i >= 0 && i < waiting.size();
    }

    private static boolean isJunction(int junction) {
        return junction >= 0 && junction <= 11;
    }

    private static boolean isDistrict(int district) {
        return district >= 0 && district <= 3;
    }

    private static boolean isNode(int node) {
        return node >= 0 && node <= 15;
    }

    private static boolean isUnit(int unit) {
        return unit >= 0 && unit <= 5;
    }

    private static boolean isRoom(int room) {
        return room == 0 || room == 1;
    }
}
