/**
 * Two control rooms and a referee: emergency calls are taken, asked by a card, copied and answered
 * by the nearest fitting ambulance, while letters are lost, late or doubled, clocks run unevenly and
 * rooms go down; a district is in the charge of one room at a time.
 */
public final class TwinRooms {

    public static final int NONE = -1;

    private static final int JUNCTIONS = 12;
    private static final int MOST_ROADS = 30;
    private static final int MOST_ROAD_SECONDS = 999;
    private static final int NEAR_SECONDS = 60;
    private static final int DISTRICTS = 4;
    private static final int NODES = 16;
    private static final int MOST_GRADE = 5;
    private static final int UNITS = 6;
    private static final int MOST_SKILL = 2;
    private static final int ROOMS = 2;
    private static final int CALLS_A_ROOM = 8;
    private static final int CALLS = 16;
    private static final int LINKED_TO = 100;
    private static final int MOST_LETTERS = 48;

    private static final int REFEREE = 2;
    private static final int FIRST_UNIT = 3;

    private static final int USUAL_SPEED = 50;
    private static final int LEAST_SPEED = 49;
    private static final int MOST_SPEED = 51;
    private static final int MOST_TICK = 1000;
    private static final int ROOM_HOLDS = 2000;
    // Longer than ROOM_HOLDS on the slowest clock, so that two rooms never have one district.
    private static final int REFEREE_WAITS = 2100;

    private static final int FREE = 0;
    private static final int MOVING = 1;
    private static final int AT_SCENE = 2;
    private static final int OUT = 3;

    private static final int OPEN = 0;
    private static final int ORDERED = 1;
    private static final int CLOSED = 2;

    private static final int ASK = 0;
    private static final int GRANT = 1;
    private static final int COPY = 2;
    private static final int RECEIPT = 3;
    private static final int STORE = 4;
    private static final int ORDER = 5;
    private static final int REPORT = 6;
    private static final int CATCH_UP = 7;

    private final RoadMap roadMap = new RoadMap();
    private final QuestionCard questionCard = new QuestionCard();
    private final Ambulance[] ambulances = new Ambulance[UNITS];
    private final Room[] rooms = new Room[ROOMS];
    private final Referee referee = new Referee();
    private final Post post = new Post();

    public TwinRooms() {
        for (int u = 0; u < UNITS; u++) {
            ambulances[u] = new Ambulance();
        }
        for (int r = 0; r < ROOMS; r++) {
            rooms[r] = new Room();
        }
    }

    // ---- the town: roads, districts, the card ----

    public boolean road(int from, int to, int seconds) {
        if (!isJunction(from) || !isJunction(to) || from == to) {
            return false;
        }
        if (seconds < 0 || seconds > MOST_ROAD_SECONDS) {
            return false;
        }
        return roadMap.setRoad(from, to, seconds);
    }

    public boolean district(int junction, int district) {
        if (!isJunction(junction) || !isDistrict(district)) {
            return false;
        }
        roadMap.districtOf[junction] = district;
        return true;
    }

    public boolean card(int node, int yes, int no, int grade) {
        if (!isNode(node) || grade < 0 || grade > MOST_GRADE) {
            return false;
        }
        if (grade > 0) {
            questionCard.setLeaf(node, grade);
            return true;
        }
        if (!isNode(yes) || !isNode(no)) {
            return false;
        }
        questionCard.setQuestion(node, yes, no);
        return true;
    }

    public int questions(int node) {
        return isNode(node) ? questionCard.mostQuestions(node) : NONE;
    }

    // ---- units ----

    public boolean unit(int unit, int junction, int skill) {
        if (!isUnit(unit) || !isJunction(junction) || skill < 0 || skill > MOST_SKILL) {
            return false;
        }
        Ambulance ambulance = ambulances[unit];
        if (ambulance.state != FREE && ambulance.state != OUT) {
            return false;
        }
        ambulance.junction = junction;
        ambulance.skill = skill;
        return true;
    }

    public boolean status(int unit, int state) {
        if (!isUnit(unit) || !ambulances[unit].canBecome(state)) {
            return false;
        }
        ambulances[unit].become(state);
        sendReports(unit);
        return true;
    }

    // ---- time ----

    public boolean speed(int room, int speed) {
        if (!isRoom(room) || speed < LEAST_SPEED || speed > MOST_SPEED) {
            return false;
        }
        rooms[room].clockSpeed = speed;
        return true;
    }

    public long tick(int seconds) throws IllegalArgumentException {
        if (seconds < 0 || seconds > MOST_TICK) {
            throw new IllegalArgumentException();
        }
        referee.clock += (long) seconds * USUAL_SPEED;
        for (int r = 0; r < ROOMS; r++) {
            rooms[r].clock += (long) seconds * rooms[r].clockSpeed;
        }
        return referee.clock;
    }

    // ---- the rooms' work ----

    public void ask(int room, int district) throws IllegalArgumentException, IllegalStateException {
        if (!isRoom(room) || !isDistrict(district)) {
            throw new IllegalArgumentException();
        }
        if (!rooms[room].up) {
            throw new IllegalStateException();
        }
        Letter letter = post.send(ASK, room, REFEREE, district, 0);
        letter.clock = rooms[room].clock;
    }

    public int grantOf(int room, int district) {
        return isRoom(room) && isDistrict(district) ? rooms[room].grantInForce(district) : 0;
    }

    public int take(int room, int junction, int hash)
            throws IllegalArgumentException, IllegalStateException {
        if (!isRoom(room) || !isJunction(junction)) {
            throw new IllegalArgumentException();
        }
        if (!isInCharge(room, junction) || rooms[room].callsTaken >= CALLS_A_ROOM) {
            throw new IllegalStateException();
        }
        int same = findSameCall(rooms[room], junction, hash);
        if (same == NONE) {
            return openCall(room, junction, hash);
        }
        linkCall(room, same);
        return LINKED_TO + same;
    }

    public int answer(int room, int call, boolean yes)
            throws IllegalArgumentException, IllegalStateException {
        CallRecord record = findOpenRecord(room, call);
        if (record.grade > 0) {
            throw new IllegalStateException();
        }
        // The card may have changed: there is no way on from what has become a leaf.
        if (!questionCard.isLeaf(record.node)) {
            record.node = questionCard.next(record.node, yes);
        }
        record.grade = questionCard.gradeOf(record.node);
        countChange(room, call);
        return record.grade;
    }

    public int order(int room, int call) throws IllegalArgumentException, IllegalStateException {
        CallRecord record = findOpenRecord(room, call);
        if (rooms[room].knowsUnitOn(call)) {
            throw new IllegalStateException();
        }
        int unit = findNearest(rooms[room], record.skillNeeded(), record.junction, 0);
        if (unit != NONE) {
            sendOrder(room, call, unit);
            rooms[room].sightings[unit].orderSent = true;
            record.state = ORDERED;
            record.unit = unit;
            countChange(room, call);
        }
        return unit;
    }

    public void close(int room, int call) throws IllegalArgumentException, IllegalStateException {
        findOpenRecord(room, call).state = CLOSED;
        countChange(room, call);
    }

    public void store(int room, int call) throws IllegalArgumentException, IllegalStateException {
        if (!knowsCall(room, call)) {
            throw new IllegalArgumentException();
        }
        if (!rooms[room].up) {
            throw new IllegalStateException();
        }
        sendRecord(STORE, room, REFEREE, rooms[room].records[call], call);
    }

    // ---- letters ----

    public int letters() {
        return post.count;
    }

    public int letter(int i, int what) {
        return post.has(i) ? post.waiting[i].part(what) : NONE;
    }

    public boolean deliver(int i) {
        if (!post.has(i)) {
            return false;
        }
        Letter letter = post.remove(i);
        if (letter.receiver >= FIRST_UNIT) {
            obeyOrder(letter);
        } else if (letter.receiver == REFEREE) {
            deliverToReferee(letter);
        } else if (rooms[letter.receiver].up) {
            deliverToRoom(letter);
        }
        return true;
    }

    public boolean lose(int i) {
        if (!post.has(i)) {
            return false;
        }
        post.remove(i);
        return true;
    }

    public boolean twin(int i) {
        if (!post.has(i) || post.count >= MOST_LETTERS) {
            return false;
        }
        post.sendAgain(i);
        return true;
    }

    // ---- rooms go down and come up ----

    public boolean crash(int room) {
        if (!isRoom(room) || !rooms[room].up) {
            return false;
        }
        rooms[room].goDown();
        return true;
    }

    public boolean mount(int room) {
        if (!isRoom(room) || rooms[room].up) {
            return false;
        }
        rooms[room].up = true;
        post.send(CATCH_UP, room, otherRoom(room), NONE, 0);
        return true;
    }

    // ---- what can be looked at ----

    public int eta(int unit, int junction) {
        if (!isUnit(unit) || !isJunction(junction)) {
            return NONE;
        }
        roadMap.measureWaysTo(junction);
        return roadMap.ways[ambulances[unit].junction];
    }

    public int nearest(int room, int skill, int junction, int i) {
        if (!isRoom(room) || !isJunction(junction)) {
            return NONE;
        }
        return findNearest(rooms[room], skill, junction, i);
    }

    public int unitIs(int unit, int what) {
        return isUnit(unit) ? ambulances[unit].part(what) : NONE;
    }

    public int unitKnown(int room, int unit, int what) {
        if (!isRoom(room) || !isUnit(unit) || !rooms[room].sightings[unit].known) {
            return NONE;
        }
        return rooms[room].sightings[unit].part(what);
    }

    public int callKnown(int who, int call, int what) {
        if (who == REFEREE) {
            return isCall(call) ? referee.records[call].part(what, false) : NONE;
        }
        if (!knowsCall(who, call)) {
            return NONE;
        }
        return rooms[who].records[call].part(what, rooms[who].sure[call]);
    }

    // ---- which ones there are ----

    private static boolean isJunction(int junction) {
        return junction >= 0 && junction < JUNCTIONS;
    }

    private static boolean isDistrict(int district) {
        return district >= 0 && district < DISTRICTS;
    }

    private static boolean isNode(int node) {
        return node >= 0 && node < NODES;
    }

    private static boolean isUnit(int unit) {
        return unit >= 0 && unit < UNITS;
    }

    private static boolean isRoom(int room) {
        return room >= 0 && room < ROOMS;
    }

    private static boolean isCall(int call) {
        return call >= 0 && call < CALLS;
    }

    private static int otherRoom(int room) {
        return 1 - room;
    }

    private boolean knowsCall(int room, int call) {
        return isRoom(room) && isCall(call) && rooms[room].records[call].known;
    }

    private boolean isInCharge(int room, int junction) {
        return rooms[room].grantInForce(roadMap.districtOf[junction]) > 0;
    }

    // ---- calls ----

    /** The room's record of a call that it may work on: it is in charge, and the call isn't CLOSED. */
    private CallRecord findOpenRecord(int room, int call)
            throws IllegalArgumentException, IllegalStateException {
        if (!knowsCall(room, call)) {
            throw new IllegalArgumentException();
        }
        CallRecord record = rooms[room].records[call];
        if (!isInCharge(room, record.junction) || record.state == CLOSED) {
            throw new IllegalStateException();
        }
        return record;
    }

    private int findSameCall(Room room, int junction, int hash) {
        roadMap.measureWaysTo(junction);
        for (int call = 0; call < CALLS; call++) {
            CallRecord record = room.records[call];
            if (record.known && record.state != CLOSED && record.hash == hash) {
                int way = roadMap.ways[record.junction];
                if (way != NONE && way <= NEAR_SECONDS) {
                    return call;
                }
            }
        }
        return NONE;
    }

    private void linkCall(int room, int call) {
        CallRecord record = rooms[room].records[call];
        if (isInCharge(room, record.junction)) {
            record.linked++;
            countChange(room, call);
        }
    }

    private int openCall(int room, int junction, int hash) {
        int call = CALLS_A_ROOM * room + rooms[room].callsTaken;
        rooms[room].callsTaken++;
        rooms[room].records[call].open(junction, hash, questionCard.gradeOf(0));
        countChange(room, call);
        return call;
    }

    private void countChange(int room, int call) {
        CallRecord record = rooms[room].records[call];
        int district = roadMap.districtOf[record.junction];
        record.stampChange(rooms[room].grants[district]);
        rooms[room].sure[call] = false;
        sendRecord(COPY, room, otherRoom(room), record, call);
    }

    // ---- choosing a unit ----

    /** The i-th of the units that the room counts as FREE, with the skill and with a way. */
    private int findNearest(Room room, int skill, int junction, int i) {
        roadMap.measureWaysTo(junction);
        for (int u = 0; u < UNITS; u++) {
            int rank = rankOf(room, skill, u);
            if (rank != NONE && countRanksBelow(room, skill, rank) == i) {
                return u;
            }
        }
        return NONE;
    }

    private int countRanksBelow(Room room, int skill, int rank) {
        int below = 0;
        for (int u = 0; u < UNITS; u++) {
            int other = rankOf(room, skill, u);
            if (other != NONE && other < rank) {
                below++;
            }
        }
        return below;
    }

    /** The way (measured before) and the unit's number in one: no two units have the same rank. */
    private int rankOf(Room room, int skill, int unit) {
        Sighting sighting = room.sightings[unit];
        // No report tells the skill, so it is the unit's own.
        if (!sighting.countsAsFree() || ambulances[unit].skill < skill) {
            return NONE;
        }
        int way = roadMap.ways[sighting.junction];
        return way == NONE ? NONE : way * UNITS + unit;
    }

    // ---- sending ----

    private void sendRecord(int kind, int sender, int receiver, CallRecord record, int call) {
        Letter letter = post.send(kind, sender, receiver, call, record.grantNumber);
        letter.record.copyFrom(record);
    }

    private void sendReceipt(int sender, Letter receipted) {
        CallRecord record = receipted.record;
        Letter letter =
                post.send(RECEIPT, sender, receipted.sender, receipted.about, record.grantNumber);
        letter.changes = record.changes;
    }

    private void sendOrder(int room, int call, int unit) {
        int junction = rooms[room].records[call].junction;
        int grant = rooms[room].grants[roadMap.districtOf[junction]];
        Letter letter = post.send(ORDER, room, FIRST_UNIT + unit, call, grant);
        letter.junction = junction;
    }

    private void sendReports(int unit) {
        Ambulance ambulance = ambulances[unit];
        ambulance.serial++;
        for (int r = 0; r < ROOMS; r++) {
            Letter letter = post.send(REPORT, FIRST_UNIT + unit, r, unit, ambulance.serial);
            letter.state = ambulance.state;
            letter.junction = ambulance.junction;
            letter.call = ambulance.call;
        }
    }

    // ---- delivering ----

    private void deliverToReferee(Letter letter) {
        if (letter.kind == ASK) {
            decideGrant(letter);
        } else if (letter.kind == STORE) {
            referee.records[letter.about].renewFrom(letter.record);
            sendReceipt(REFEREE, letter);
        }
    }

    private void decideGrant(Letter asked) {
        int room = asked.sender;
        int district = asked.about;
        if (!referee.mayGrant(room, district)) {
            return;
        }
        int number = referee.countGrant(room, district);
        Letter grant = post.send(GRANT, REFEREE, room, district, number);
        grant.clock = asked.clock;
        for (int call = 0; call < CALLS; call++) {
            CallRecord record = referee.records[call];
            if (record.known && roadMap.districtOf[record.junction] == district) {
                sendRecord(COPY, REFEREE, room, record, call);
            }
        }
    }

    private void deliverToRoom(Letter letter) {
        Room room = rooms[letter.receiver];
        switch (letter.kind) {
            case GRANT:
                room.acceptGrant(letter);
                break;
            case COPY:
                room.acceptCopy(letter);
                if (isRoom(letter.sender)) {
                    sendReceipt(letter.receiver, letter);
                }
                break;
            case RECEIPT:
                room.acceptReceipt(letter);
                break;
            case REPORT:
                room.sightings[letter.about].acceptReport(letter);
                break;
            case CATCH_UP:
                sendAllCopies(letter.receiver, letter.sender);
                break;
            default:
                break;
        }
    }

    private void sendAllCopies(int sender, int receiver) {
        for (int call = 0; call < CALLS; call++) {
            CallRecord record = rooms[sender].records[call];
            if (record.known) {
                sendRecord(COPY, sender, receiver, record, call);
            }
        }
    }

    private void obeyOrder(Letter letter) {
        int unit = letter.receiver - FIRST_UNIT;
        ambulances[unit].acceptOrder(letter);
        sendReports(unit);
    }

    /** The roads, and in which district each junction lies. */
    private static final class RoadMap {
        final int[] districtOf = new int[JUNCTIONS];
        /** From each junction to the one measured last; NONE without a way. */
        final int[] ways = new int[JUNCTIONS];
        /** 0 where there is no road. */
        private final int[] roadSeconds = new int[JUNCTIONS * JUNCTIONS];
        private int roads;

        boolean setRoad(int from, int to, int seconds) {
            int place = from * JUNCTIONS + to;
            int before = roadSeconds[place] > 0 ? 1 : 0;
            int after = seconds > 0 ? 1 : 0;
            if (roads - before + after > MOST_ROADS) {
                return false;
            }
            roads += after - before;
            roadSeconds[place] = seconds;
            return true;
        }

        void measureWaysTo(int target) {
            for (int j = 0; j < JUNCTIONS; j++) {
                ways[j] = NONE;
            }
            ways[target] = 0;
            boolean shortened = true;
            // No least way has more roads than there are other junctions.
            for (int round = 1; round < JUNCTIONS && shortened; round++) {
                shortened = shortenWays();
            }
        }

        private boolean shortenWays() {
            boolean shortened = false;
            for (int from = 0; from < JUNCTIONS; from++) {
                for (int to = 0; to < JUNCTIONS; to++) {
                    int seconds = roadSeconds[from * JUNCTIONS + to];
                    if (seconds > 0 && ways[to] != NONE && isShorter(seconds + ways[to], ways[from])) {
                        ways[from] = seconds + ways[to];
                        shortened = true;
                    }
                }
            }
            return shortened;
        }

        private static boolean isShorter(int way, int than) {
            return than == NONE || way < than;
        }
    }

    /** THE CARD: of a question the grade is 0. */
    private static final class QuestionCard {
        private final int[] yesNodes = new int[NODES];
        private final int[] noNodes = new int[NODES];
        private final int[] grades = new int[NODES];
        private final int[] most = new int[NODES];

        QuestionCard() {
            for (int n = 0; n < NODES; n++) {
                grades[n] = 1;
            }
        }

        void setLeaf(int node, int grade) {
            grades[node] = grade;
        }

        void setQuestion(int node, int yes, int no) {
            grades[node] = 0;
            yesNodes[node] = yes;
            noNodes[node] = no;
        }

        boolean isLeaf(int node) {
            return grades[node] > 0;
        }

        int gradeOf(int node) {
            return grades[node];
        }

        int next(int node, boolean yes) {
            return yes ? yesNodes[node] : noNodes[node];
        }

        int mostQuestions(int node) {
            for (int n = 0; n < NODES; n++) {
                most[n] = 0;
            }
            for (int round = 0; round < NODES; round++) {
                askOnceMore();
            }
            // So many questions one behind another only come if one of them comes again.
            return most[node] < NODES ? most[node] : NONE;
        }

        private void askOnceMore() {
            for (int n = 0; n < NODES; n++) {
                if (!isLeaf(n)) {
                    most[n] = 1 + Math.max(most[yesNodes[n]], most[noNodes[n]]);
                }
            }
        }
    }

    /** A unit as it is. */
    private static final class Ambulance {
        int state = FREE;
        int junction;
        int skill;
        int serial;
        int call = NONE;
        private int target;
        private int highestObeyed;

        boolean canBecome(int next) {
            return next == state
                    || state == FREE && next == OUT
                    || state == OUT && next == FREE
                    || state == MOVING && next == AT_SCENE
                    || state == AT_SCENE && next == FREE;
        }

        void become(int next) {
            if (state == MOVING && next == AT_SCENE) {
                junction = target;
            }
            if (state == AT_SCENE && next == FREE) {
                call = NONE;
            }
            state = next;
        }

        void acceptOrder(Letter order) {
            if (state == FREE && order.number >= highestObeyed) {
                state = MOVING;
                call = order.about;
                target = order.junction;
                highestObeyed = order.number;
            }
        }

        int part(int what) {
            switch (what) {
                case 0: return state;
                case 1: return junction;
                case 2: return call;
                case 3: return highestObeyed;
                case 4: return serial;
                case 5: return skill;
                default: return NONE;
            }
        }
    }

    /** What a room knows of a unit: the latest report that it took. */
    private static final class Sighting {
        boolean known;
        boolean orderSent;
        int junction;
        private int state;
        private int call;
        private int serial;

        void acceptReport(Letter report) {
            if (known && report.number <= serial) {
                return;
            }
            known = true;
            orderSent = false;
            serial = report.number;
            state = report.state;
            junction = report.junction;
            call = report.call;
        }

        void forget() {
            known = false;
        }

        boolean countsAsFree() {
            return known && state == FREE && !orderSent;
        }

        boolean isOn(int someCall) {
            return known && call == someCall && state != FREE && state != OUT;
        }

        int part(int what) {
            switch (what) {
                case 0: return state;
                case 1: return junction;
                case 2: return call;
                case 3: return serial;
                case 4: return countsAsFree() ? 0 : 1;
                default: return NONE;
            }
        }
    }

    /** A RECORD of a call; one that isn't known stands for none. */
    private static final class CallRecord {
        boolean known;
        int junction;
        int hash;
        int node;
        int grade;
        int state;
        int unit;
        int linked;
        int grantNumber;
        int changes;

        void open(int atJunction, int withHash, int withGrade) {
            known = true;
            junction = atJunction;
            hash = withHash;
            node = 0;
            grade = withGrade;
            state = OPEN;
            unit = NONE;
            linked = 0;
        }

        void stampChange(int grant) {
            changes = grantNumber == grant ? changes + 1 : 1;
            grantNumber = grant;
        }

        boolean hasStamp(int grant, int change) {
            return known && grantNumber == grant && changes == change;
        }

        /** Whether the other record was newer, so that this one is the same now. */
        boolean renewFrom(CallRecord other) {
            boolean newer = !known
                    || other.grantNumber > grantNumber
                    || other.grantNumber == grantNumber && other.changes > changes;
            if (newer) {
                copyFrom(other);
            }
            return newer;
        }

        void copyFrom(CallRecord other) {
            known = other.known;
            junction = other.junction;
            hash = other.hash;
            node = other.node;
            grade = other.grade;
            state = other.state;
            unit = other.unit;
            linked = other.linked;
            grantNumber = other.grantNumber;
            changes = other.changes;
        }

        int skillNeeded() {
            return ((grade == 0 ? MOST_GRADE : grade) - 1) / 2;
        }

        int part(int what, boolean sure) {
            if (!known) {
                return NONE;
            }
            switch (what) {
                case 0: return junction;
                case 1: return node;
                case 2: return grade;
                case 3: return state;
                case 4: return unit;
                case 5: return linked;
                case 6: return grantNumber;
                case 7: return changes;
                case 8: return sure ? 1 : 0;
                default: return NONE;
            }
        }
    }

    /** The referee's clock, grants and records. */
    private static final class Referee {
        long clock;
        final CallRecord[] records = new CallRecord[CALLS];
        private final int[] grantedTo = new int[DISTRICTS];
        private final long[] grantedAt = new long[DISTRICTS];
        private int lastNumber;

        Referee() {
            for (int call = 0; call < CALLS; call++) {
                records[call] = new CallRecord();
            }
            for (int d = 0; d < DISTRICTS; d++) {
                grantedTo[d] = NONE;
            }
        }

        boolean mayGrant(int room, int district) {
            return grantedTo[district] == NONE
                    || grantedTo[district] == room
                    || clock - grantedAt[district] >= REFEREE_WAITS;
        }

        int countGrant(int room, int district) {
            grantedTo[district] = room;
            grantedAt[district] = clock;
            lastNumber++;
            return lastNumber;
        }
    }

    /** A control room: its clock, grants, records, and what it knows of units. */
    private static final class Room {
        boolean up = true;
        int clockSpeed = USUAL_SPEED;
        long clock;
        int callsTaken;
        /** 0 without a grant. */
        final int[] grants = new int[DISTRICTS];
        final CallRecord[] records = new CallRecord[CALLS];
        final boolean[] sure = new boolean[CALLS];
        final Sighting[] sightings = new Sighting[UNITS];
        private final long[] askedAt = new long[DISTRICTS];
        /** Kept though the room goes down, lest a late letter bring an old grant back. */
        private final int[] highestGrants = new int[DISTRICTS];

        Room() {
            for (int call = 0; call < CALLS; call++) {
                records[call] = new CallRecord();
            }
            for (int u = 0; u < UNITS; u++) {
                sightings[u] = new Sighting();
            }
        }

        int grantInForce(int district) {
            boolean holds = up && clock - askedAt[district] < ROOM_HOLDS;
            return holds ? grants[district] : 0;
        }

        boolean knowsUnitOn(int call) {
            for (int u = 0; u < UNITS; u++) {
                if (sightings[u].isOn(call)) {
                    return true;
                }
            }
            return false;
        }

        void goDown() {
            up = false;
            for (int d = 0; d < DISTRICTS; d++) {
                grants[d] = 0;
            }
            for (int call = 0; call < CALLS; call++) {
                sure[call] = false;
            }
            for (int u = 0; u < UNITS; u++) {
                sightings[u].forget();
            }
        }

        void acceptGrant(Letter grant) {
            int district = grant.about;
            if (grant.number > highestGrants[district]) {
                highestGrants[district] = grant.number;
                grants[district] = grant.number;
                askedAt[district] = grant.clock;
            }
        }

        void acceptCopy(Letter copy) {
            if (records[copy.about].renewFrom(copy.record)) {
                sure[copy.about] = false;
            }
        }

        void acceptReceipt(Letter receipt) {
            if (records[receipt.about].hasStamp(receipt.number, receipt.changes)) {
                sure[receipt.about] = true;
            }
        }
    }

    /** A letter of any kind: what its kind does not use is left over from the letter before it. */
    private static final class Letter {
        int kind;
        int sender;
        int receiver;
        /** The district, call or unit; NONE without one. */
        int about;
        /** Of a grant, in a stamp, or the serial; 0 without one. */
        int number;
        int changes;
        long clock;
        int junction;
        int state;
        int call;
        final CallRecord record = new CallRecord();

        void copyFrom(Letter other) {
            kind = other.kind;
            sender = other.sender;
            receiver = other.receiver;
            about = other.about;
            number = other.number;
            changes = other.changes;
            clock = other.clock;
            junction = other.junction;
            state = other.state;
            call = other.call;
            record.copyFrom(other.record);
        }

        int part(int what) {
            switch (what) {
                case 0: return kind;
                case 1: return sender;
                case 2: return receiver;
                case 3: return about;
                case 4: return number;
                default: return NONE;
            }
        }
    }

    /** The letters that wait, in the order of sending; all letters are made once and used again. */
    private static final class Post {
        final Letter[] waiting = new Letter[MOST_LETTERS + 1];
        int count;
        private Letter removed = new Letter();

        Post() {
            for (int i = 0; i <= MOST_LETTERS; i++) {
                waiting[i] = new Letter();
            }
        }

        boolean has(int i) {
            return i >= 0 && i < count;
        }

        /** The letter sent, for what else its kind says. */
        Letter send(int kind, int sender, int receiver, int about, int number) {
            // The last place never waits: a letter too many is written there, and so is lost.
            Letter letter = waiting[count];
            if (count < MOST_LETTERS) {
                count++;
            }
            letter.kind = kind;
            letter.sender = sender;
            letter.receiver = receiver;
            letter.about = about;
            letter.number = number;
            return letter;
        }

        void sendAgain(int i) {
            waiting[count].copyFrom(waiting[i]);
            count++;
        }

        /** The letter stays as it is until the next one is removed, whatever is sent meanwhile. */
        Letter remove(int i) {
            Letter letter = waiting[i];
            count--;
            for (int k = i; k < count; k++) {
                waiting[k] = waiting[k + 1];
            }
            waiting[count] = removed;
            removed = letter;
            return letter;
        }
    }
}
