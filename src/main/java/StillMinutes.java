import java.util.Arrays;

/** Rooms, people whose watches stop all but them, and things on their rounds; DOC.md tells each call. */
public final class StillMinutes {
    public static final int BAD = -1, STATE = -2, FULL = -3, NONE = -9;
    public static final int NO = -1000000;

    private static final int MAX_ROOMS = 6, MAX_DOORS = 8, MAX_PEOPLE = 5, MAX_THINGS = 5, MAX_ROUND = 4;
    private static final int MAX_STEPS = 20, MAX_LETTERS = 200, MAX_FINDS = 4, MAX_UNDONE = 10, IMAGES = 2;
    private static final int LAST_SECOND = 9999, DAY_SECONDS = 20;
    private static final int WHERE_SECONDS = 100, UPON_SECONDS = 20, PRESSES_SECONDS = 12, FOUND_SECONDS = 20;

    // A SPOT tells where a thing is by one number: a place of its round below MAX_ROUND,
    // or, for a thing that is off its round, MAX_ROUND and the room.
    private static final int MAX_SPOTS = MAX_ROUND + MAX_ROOMS;

    // Farther than any steps reach, and small enough to be added twice.
    private static final int UNREACHED = 1000;

    private City city = new City();
    private City draft = new City();
    private final CityReader reader = new CityReader();
    private final int[] text = new int[MAX_LETTERS];
    private int letters;
    private final Moment now = new Moment();
    private final History history = new History();
    private final Moment[] images = new Moment[IMAGES];
    private final boolean[] kept = new boolean[IMAGES];
    private final Finds finds = new Finds();
    private final PressTable pressTable = new PressTable();
    private final DoneSearch doneSearch = new DoneSearch();
    private final TakingGame takingGame = new TakingGame();
    private final int[] guardRow = new int[MAX_ROOMS];
    private long trace;

    public StillMinutes() {
        for (int i = 0; i < IMAGES; i++) {
            images[i] = new Moment();
        }
        settleIn();
    }

    // ---- the city

    public int type(int letter) {
        if (!within(letter, 0, 255)) {
            return BAD;
        }
        if (letters >= MAX_LETTERS) {
            return FULL;
        }
        text[letters] = letter;
        letters++;
        return letters;
    }

    public int clear() {
        int had = letters;
        letters = 0;
        return had;
    }

    public int city() {
        int answer = reader.read(text, letters, draft);
        if (answer < 0) {
            return answer;
        }
        City told = draft;
        draft = city;
        city = told;
        settleIn();
        letters = 0;
        finds.many = 0;
        history.known = 0;
        for (int i = 0; i < IMAGES; i++) {
            kept[i] = false;
        }
        return answer;
    }

    public int door(int d, int what) {
        if (!within(d, 0, city.doors - 1)) {
            return BAD;
        }
        switch (what) {
            case 0: return city.doorFrom[d];
            case 1: return city.doorTo[d];
            case 2: return city.doorShut[d];
            default: return BAD;
        }
    }

    public int person(int p, int what) {
        if (!isPerson(p)) {
            return BAD;
        }
        switch (what) {
            case 0: return now.room[p];
            case 1: return now.age[p];
            case 2: return now.pressed >> p & 1;
            case 3: return now.left[p];
            default: return BAD;
        }
    }

    public int thing(int t, int what) {
        if (!isThing(t)) {
            return BAD;
        }
        switch (what) {
            case 0: return roomOfThing(t);
            case 1: return now.spot[t] < MAX_ROUND ? now.spot[t] : NONE;
            case 2: return city.roundLength[t];
            default: return BAD;
        }
    }

    public int now(int what) {
        switch (what) {
            case 0: return now.second;
            case 1: return now.second / DAY_SECONDS;
            case 2: return upPeople();
            case 3: return now.pressed;
            case 4: return history.known;
            default: return BAD;
        }
    }

    // ---- what is done

    public int second() {
        if (now.second >= LAST_SECOND) {
            return STATE;
        }
        history.remember(now);
        now.goBy(city);
        return now.second;
    }

    public int press(int p) {
        if (!isPerson(p)) {
            return BAD;
        }
        if ((now.pressed >> p & 1) != 0) {
            return STATE;
        }
        history.remember(now);
        now.pressed |= 1 << p;
        now.age[p]++;
        now.left[p] = city.steps;
        return now.age[p];
    }

    public int carry(int p, int t, int room) {
        if (!isPerson(p) || !isThing(t) || !isRoom(room)) {
            return BAD;
        }
        int steps = city.stepsToCarry(now.room[p], roomOfThing(t), room);
        if (!isUp(p) || steps > now.left[p]) {
            return STATE;
        }
        history.remember(now);
        now.spot[t] = city.spotOfRoom(t, room);
        return moveTo(p, room, steps);
    }

    public int walk(int p, int room) {
        if (!isPerson(p) || !isRoom(room)) {
            return BAD;
        }
        int steps = city.distance[now.room[p]][room];
        if (!isUp(p) || steps > now.left[p]) {
            return STATE;
        }
        history.remember(now);
        return moveTo(p, room, steps);
    }

    public int undo() {
        if (history.known == 0) {
            return STATE;
        }
        history.recallInto(now);
        return history.known;
    }

    // ---- what comes

    public int where(int t, int n) {
        if (!isThing(t) || !within(n, 0, WHERE_SECONDS)) {
            return BAD;
        }
        return city.roomIn(t, now.spot[t], n);
    }

    public int upon(int t, int p) {
        if (!isThing(t) || !isPerson(p)) {
            return BAD;
        }
        for (int n = 0; n <= UPON_SECONDS; n++) {
            if (city.roomIn(t, now.spot[t], n) == now.room[p]) {
                return n;
            }
        }
        return NONE;
    }

    public int reach(int p) {
        if (!isPerson(p)) {
            return BAD;
        }
        int steps = isUp(p) ? now.left[p] : city.steps;
        int rooms = 0;
        for (int room = 0; room < city.rooms; room++) {
            if (city.distance[now.room[p]][room] <= steps) {
                rooms |= 1 << room;
            }
        }
        return rooms;
    }

    // ---- what can be done

    public int presses(int t, int room, int n, int what) {
        if (!isThing(t) || !isRoom(room) || !within(n, 0, PRESSES_SECONDS) || !within(what, 0, 1)) {
            return BAD;
        }
        pressTable.fill(city, now, t, room, n);
        return what == 0 ? pressTable.fewest() : pressTable.alone();
    }

    public int found(int t, int room, int n) {
        if (!isThing(t) || !isRoom(room) || !within(n, 0, FOUND_SECONDS)) {
            return BAD;
        }
        if (finds.many >= MAX_FINDS) {
            return FULL;
        }
        finds.note(t, room, n);
        return finds.many;
    }

    public int forget() {
        int had = finds.many;
        finds.many = 0;
        return had;
    }

    public int doneBy() {
        int rested = now.rested(city);
        int people = 0;
        for (int p = 0; p < city.people; p++) {
            if ((rested >> p & 1) != 0 && doneSearch.couldHave(city, now, finds, p)) {
                people |= 1 << p;
            }
        }
        return people;
    }

    public int guard(int t, int room) {
        if (!isThing(t) || !isRoom(room)) {
            return BAD;
        }
        int open = city.openDoors();
        int fewest = MAX_DOORS + 1;
        int best = NONE;
        for (int shut = 0; shut < 1 << MAX_DOORS; shut++) {
            boolean fewer = (shut & ~open) == 0 && Integer.bitCount(shut) < fewest;
            if (fewer && !anybodyCarries(t, room, shut)) {
                fewest = Integer.bitCount(shut);
                best = shut;
            }
        }
        return best;
    }

    public int taking(int p, int q) {
        if (!isPerson(p) || !isPerson(q) || p == q) {
            return NO;
        }
        return takingGame.play(city, now, p, q);
    }

    public int odds(int x, int k, int what) {
        if (!within(x, 0, 10) || !within(k, 0, MAX_PEOPLE) || !within(what, 0, 1)) {
            return BAD;
        }
        int people = Integer.bitCount(now.rested(city));
        int upper = k > people ? 0 : choose(people, k) * power(x, k) * power(10 - x, people - k);
        int lower = power(10, people);
        int common = greatestCommonDivisor(upper, lower);
        int part = what == 0 ? upper : lower;
        return common == 0 ? part : part / common;
    }

    public int worth(int p) {
        if (!isPerson(p)) {
            return BAD;
        }
        int pairs = 0;
        for (int t = 0; t < city.things; t++) {
            int from = roomOfThing(t);
            for (int room = 0; room < city.rooms; room++) {
                if (room != from && city.stepsToCarry(now.room[p], from, room) <= city.steps) {
                    pairs++;
                }
            }
        }
        return pairs;
    }

    // ---- kinds, images

    public int rate(int kind, int p) {
        if (!isPerson(p)) {
            return NO;
        }
        switch (kind) {
            case 0: return ratePerson(p);
            case 1: return rateBarber(p);
            case 2: return rateThief(p);
            case 3: return rateGrey(p);
            case 4: return rateTenth(p);
            case 5: return rateChild(p);
            default: return NO;
        }
    }

    public int keep(int image) {
        if (!within(image, 0, IMAGES - 1)) {
            return BAD;
        }
        images[image].copyFrom(now);
        kept[image] = true;
        return now.second;
    }

    public int back(int image) {
        if (!within(image, 0, IMAGES - 1)) {
            return BAD;
        }
        if (!kept[image]) {
            return STATE;
        }
        now.copyFrom(images[image]);
        history.known = 0;
        return now.second;
    }

    public int count(int what) {
        switch (what) {
            case 0: return city.rooms;
            case 1: return city.doors;
            case 2: return city.steps;
            case 3: return city.people;
            case 4: return city.things;
            case 5: return finds.many;
            case 6: return letters;
            default: return BAD;
        }
    }

    public long trace() {
        return trace;
    }

    // ---- what the calls share

    private void settleIn() {
        city.measure();
        now.begin(city);
    }

    private static boolean within(int number, int least, int most) {
        return number >= least && number <= most;
    }

    private boolean isRoom(int room) {
        return within(room, 0, city.rooms - 1);
    }

    private boolean isPerson(int p) {
        return within(p, 0, city.people - 1);
    }

    private boolean isThing(int t) {
        return within(t, 0, city.things - 1);
    }

    private boolean isUp(int p) {
        return now.left[p] != NONE;
    }

    private int roomOfThing(int t) {
        return city.roomOfSpot(t, now.spot[t]);
    }

    private int upPeople() {
        int people = 0;
        for (int p = 0; p < city.people; p++) {
            if (isUp(p)) {
                people |= 1 << p;
            }
        }
        return people;
    }

    private int moveTo(int p, int room, int steps) {
        now.room[p] = room;
        now.left[p] -= steps;
        return now.left[p];
    }

    private boolean anybodyCarries(int t, int room, int shut) {
        // Doors go both ways, so the ways from the thing tell the ways to it, too.
        city.measureFrom(roomOfThing(t), shut, guardRow);
        int rested = now.rested(city);
        for (int p = 0; p < city.people; p++) {
            if ((rested >> p & 1) != 0 && guardRow[now.room[p]] + guardRow[room] <= city.steps) {
                return true;
            }
        }
        return false;
    }

    private static int choose(int from, int k) {
        int ways = 1;
        for (int i = 1; i <= k; i++) {
            ways = ways * (from - k + i) / i;
        }
        return ways;
    }

    private static int power(int base, int exponent) {
        int product = 1;
        for (int i = 0; i < exponent; i++) {
            product *= base;
        }
        return product;
    }

    private static int greatestCommonDivisor(int a, int b) {
        int larger = a;
        int smaller = b;
        for (int i = 0; i < 100 && smaller != 0; i++) {
            int rest = larger % smaller;
            larger = smaller;
            smaller = rest;
        }
        return larger;
    }

    // Each kind's body asks the body of the kind above it, once.

    private int ratePerson(int p) {
        trace += 1;
        return now.age[p];
    }

    private int rateBarber(int p) {
        trace += 10;
        return ratePerson(p) + now.room[p];
    }

    private int rateThief(int p) {
        trace += 100;
        int things = 0;
        for (int t = 0; t < city.things; t++) {
            if (roomOfThing(t) == now.room[p]) {
                things++;
            }
        }
        return ratePerson(p) - things;
    }

    private int rateGrey(int p) {
        trace += 1000;
        return 2 * rateBarber(p);
    }

    private int rateTenth(int p) {
        trace += 10000;
        return rateThief(p) + p;
    }

    private int rateChild(int p) {
        trace += 100000;
        return ratePerson(p) + (isUp(p) ? now.left[p] : 0);
    }

    /** What a text tells: rooms, doors, steps, who begins where, the rounds. */
    private static final class City {
        int rooms;
        int steps;
        int doors;
        int people;
        int things;
        final int[] doorFrom = new int[MAX_DOORS];
        final int[] doorTo = new int[MAX_DOORS];
        final int[] doorShut = new int[MAX_DOORS];
        final int[] home = new int[MAX_PEOPLE];
        final int[] ageAtFirst = new int[MAX_PEOPLE];
        final int[] roundLength = new int[MAX_THINGS];
        final int[][] round = new int[MAX_THINGS][MAX_ROUND];
        final int[][] distance = new int[MAX_ROOMS][MAX_ROOMS];

        City() {
            beAsAtFirst();
        }

        void beAsAtFirst() {
            rooms = 2;
            steps = 10;
            doors = 0;
            people = 0;
            things = 0;
        }

        void measure() {
            for (int room = 0; room < rooms; room++) {
                measureFrom(room, 0, distance[room]);
            }
        }

        /** Fills a row with how far each room is if the doors of these bits are shut, too. */
        void measureFrom(int start, int shutBits, int[] row) {
            Arrays.fill(row, UNREACHED);
            row[start] = 0;
            boolean changed = true;
            // A shortest way has fewer doors than there are rooms.
            for (int pass = 0; pass < MAX_ROOMS && changed; pass++) {
                changed = false;
                for (int d = 0; d < doors; d++) {
                    if (doorShut[d] == 0 && (shutBits >> d & 1) == 0 && bringsNearer(d, row)) {
                        changed = true;
                    }
                }
            }
        }

        private boolean bringsNearer(int d, int[] row) {
            int from = doorFrom[d];
            int to = doorTo[d];
            if (row[from] + 1 < row[to]) {
                row[to] = row[from] + 1;
                return true;
            }
            if (row[to] + 1 < row[from]) {
                row[from] = row[to] + 1;
                return true;
            }
            return false;
        }

        int openDoors() {
            int open = 0;
            for (int d = 0; d < doors; d++) {
                if (doorShut[d] == 0) {
                    open |= 1 << d;
                }
            }
            return open;
        }

        int stepsToCarry(int from, int thingRoom, int to) {
            return distance[from][thingRoom] + distance[thingRoom][to];
        }

        int roomOfSpot(int t, int spot) {
            return spot < MAX_ROUND ? round[t][spot] : spot - MAX_ROUND;
        }

        int spotOfRoom(int t, int room) {
            for (int place = 0; place < roundLength[t]; place++) {
                if (round[t][place] == room) {
                    return place;
                }
            }
            return MAX_ROUND + room;
        }

        int spotIn(int t, int spot, int seconds) {
            if (spot >= MAX_ROUND || roundLength[t] == 0) {
                return spot;
            }
            return (spot + seconds) % roundLength[t];
        }

        int roomIn(int t, int spot, int seconds) {
            return roomOfSpot(t, spotIn(t, spot, seconds));
        }
    }

    /** Reads a city from a text; the first fault ends it. */
    private static final class CityReader {
        private static final int END = 0, NUMBER = 1, WRONG = 2;
        private static final int BLANK = 32, SEMICOLON = 59;

        private int[] text;
        private int length;
        private City city;
        private int at;
        // END, NUMBER, WRONG, or else the letter itself
        private int token;
        private int start;
        private int value;
        private boolean stepsTold;
        private int fault;

        /** How many items, or -10 less the fault. */
        int read(int[] letters, int count, City into) {
            text = letters;
            length = count;
            city = into;
            at = 0;
            stepsTold = false;
            fault = NONE;
            city.beAsAtFirst();
            int items = 0;
            nextToken();
            while (items < MAX_LETTERS && token != END && fault == NONE) {
                readItem(items);
                needEnd();
                nextToken();
                items++;
            }
            return fault == NONE ? items : -10 - fault;
        }

        private void readItem(int itemsAhead) {
            switch (token) {
                case 'r': readRooms(itemsAhead); break;
                case 's': readSteps(); break;
                case 'd': readDoor(); break;
                case 'p': readPerson(); break;
                case 't': readThing(); break;
                default: refuse();
            }
        }

        private void readRooms(int itemsAhead) {
            if (itemsAhead > 0) {
                refuse();
                return;
            }
            city.rooms = needNumber(2, MAX_ROOMS);
        }

        private void readSteps() {
            if (stepsTold) {
                refuse();
                return;
            }
            stepsTold = true;
            city.steps = needNumber(1, MAX_STEPS);
        }

        private void readDoor() {
            int d = city.doors;
            if (d >= MAX_DOORS) {
                refuse();
                return;
            }
            city.doorFrom[d] = needNumber(0, city.rooms - 1);
            city.doorTo[d] = needNumber(0, city.rooms - 1);
            if (city.doorTo[d] == city.doorFrom[d]) {
                refuse();
            }
            city.doorShut[d] = needNumber(0, 1);
            city.doors++;
        }

        private void readPerson() {
            int p = city.people;
            if (p >= MAX_PEOPLE) {
                refuse();
                return;
            }
            city.home[p] = needNumber(0, city.rooms - 1);
            city.ageAtFirst[p] = needNumber(10, 60);
            city.people++;
        }

        private void readThing() {
            int t = city.things;
            if (t >= MAX_THINGS) {
                refuse();
                return;
            }
            city.roundLength[t] = needNumber(1, MAX_ROUND);
            for (int place = 0; place < city.roundLength[t]; place++) {
                city.round[t][place] = needNumber(0, city.rooms - 1);
            }
            city.things++;
        }

        private int needNumber(int least, int most) {
            if (fault != NONE) {
                return least;
            }
            nextToken();
            if (token != NUMBER || value < least || value > most) {
                refuse();
                return least;
            }
            return value;
        }

        private void needEnd() {
            if (fault != NONE) {
                return;
            }
            nextToken();
            if (token != SEMICOLON) {
                refuse();
            }
        }

        /** Only the first fault is told. */
        private void refuse() {
            if (fault == NONE) {
                fault = start;
            }
        }

        private void nextToken() {
            while (at < length && text[at] == BLANK) {
                at++;
            }
            start = at;
            value = 0;
            while (at < length && isDigit(text[at])) {
                // This may run over, but the value of a number that is too long is not asked for.
                value = value * 10 + text[at] - '0';
                at++;
            }
            int digits = at - start;
            if (digits > 0) {
                boolean zeroAhead = digits > 1 && text[start] == '0';
                token = digits > 2 || zeroAhead ? WRONG : NUMBER;
            } else if (at >= length) {
                token = END;
            } else {
                token = isKnown(text[at]) ? text[at] : WRONG;
                at++;
            }
        }

        private static boolean isDigit(int letter) {
            return letter >= '0' && letter <= '9';
        }

        private static boolean isKnown(int letter) {
            return letter == 'r' || letter == 's' || letter == 'd' || letter == 'p' || letter == 't'
                || letter == SEMICOLON;
        }
    }

    /** All that an image keeps, and that undo() brings back. */
    private static final class Moment {
        int second;
        // bits of those who pressed this day
        int pressed;
        final int[] room = new int[MAX_PEOPLE];
        final int[] age = new int[MAX_PEOPLE];
        // NONE for one who is not up
        final int[] left = new int[MAX_PEOPLE];
        final int[] spot = new int[MAX_THINGS];

        void begin(City city) {
            second = 0;
            pressed = 0;
            System.arraycopy(city.home, 0, room, 0, MAX_PEOPLE);
            System.arraycopy(city.ageAtFirst, 0, age, 0, MAX_PEOPLE);
            Arrays.fill(left, NONE);
            Arrays.fill(spot, 0);
        }

        void copyFrom(Moment other) {
            second = other.second;
            pressed = other.pressed;
            System.arraycopy(other.room, 0, room, 0, MAX_PEOPLE);
            System.arraycopy(other.age, 0, age, 0, MAX_PEOPLE);
            System.arraycopy(other.left, 0, left, 0, MAX_PEOPLE);
            System.arraycopy(other.spot, 0, spot, 0, MAX_THINGS);
        }

        void goBy(City city) {
            second++;
            if (second % DAY_SECONDS == 0) {
                pressed = 0;
            }
            Arrays.fill(left, NONE);
            for (int t = 0; t < city.things; t++) {
                spot[t] = city.spotIn(t, spot[t], 1);
            }
        }

        /** Bits of the people who did not press this day. */
        int rested(City city) {
            return (1 << city.people) - 1 & ~pressed;
        }
    }

    /** The moments ahead of the latest doings, in a ring. */
    private static final class History {
        private final Moment[] moments = new Moment[MAX_UNDONE];
        private int next;
        int known;

        History() {
            for (int i = 0; i < MAX_UNDONE; i++) {
                moments[i] = new Moment();
            }
        }

        void remember(Moment moment) {
            moments[next].copyFrom(moment);
            next = (next + 1) % MAX_UNDONE;
            known = Math.min(known + 1, MAX_UNDONE);
        }

        void recallInto(Moment moment) {
            next = (next + MAX_UNDONE - 1) % MAX_UNDONE;
            moment.copyFrom(moments[next]);
            known--;
        }
    }

    /** What was found: which thing is in which room in how many seconds. */
    private static final class Finds {
        int many;
        private final int[] thing = new int[MAX_FINDS];
        private final int[] room = new int[MAX_FINDS];
        private final int[] seconds = new int[MAX_FINDS];

        void note(int t, int where, int n) {
            thing[many] = t;
            room[many] = where;
            seconds[many] = n;
            many++;
        }

        boolean tellOf(int t) {
            for (int i = 0; i < many; i++) {
                if (thing[i] == t) {
                    return true;
                }
            }
            return false;
        }

        boolean holdFrom(City city, int t, int spot) {
            for (int i = 0; i < many; i++) {
                if (thing[i] == t && city.roomIn(t, spot, seconds[i]) != room[i]) {
                    return false;
                }
            }
            return true;
        }
    }

    /** Where a thing can be by which people's presses, second by second. */
    private static final class PressTable {
        private City city;
        private Moment now;
        private int thing;
        private int rested;
        // bits of the spots where the thing can be once just these people have pressed
        private final int[][] spots = new int[1 << MAX_PEOPLE][PRESSES_SECONDS + 1];
        // bits of the spots to which a person can carry the thing from a spot
        private final int[][] carried = new int[MAX_PEOPLE][MAX_SPOTS];
        private final boolean[] comes = new boolean[1 << MAX_PEOPLE];

        void fill(City where, Moment when, int t, int room, int seconds) {
            city = where;
            now = when;
            thing = t;
            rested = now.rested(city);
            fillCarried();
            int goal = spotsInRoom(room);
            for (int people = 0; people < 1 << MAX_PEOPLE; people++) {
                comes[people] = (people & ~rested) == 0 && fillRow(people, seconds, goal);
            }
        }

        int fewest() {
            int fewest = MAX_PEOPLE + 1;
            for (int people = 0; people < 1 << MAX_PEOPLE; people++) {
                if (comes[people]) {
                    fewest = Math.min(fewest, Integer.bitCount(people));
                }
            }
            return fewest > MAX_PEOPLE ? NONE : fewest;
        }

        int alone() {
            if (comes[0]) {
                return rested;
            }
            int people = 0;
            for (int p = 0; p < MAX_PEOPLE; p++) {
                if (comes[1 << p]) {
                    people |= 1 << p;
                }
            }
            return people;
        }

        private boolean fillRow(int people, int seconds, int goal) {
            boolean reached = false;
            int here = people == 0 ? 1 << now.spot[thing] : 0;
            for (int n = 0; n <= seconds; n++) {
                for (int p = 0; p < city.people; p++) {
                    if ((people >> p & 1) != 0) {
                        here |= carriedFrom(p, spots[people ^ 1 << p][n]);
                    }
                }
                spots[people][n] = here;
                reached = reached || (here & goal) != 0;
                here = aSecondLater(here);
            }
            return reached;
        }

        private int carriedFrom(int p, int from) {
            int to = 0;
            for (int spot = 0; spot < MAX_SPOTS; spot++) {
                if ((from >> spot & 1) != 0) {
                    to |= carried[p][spot];
                }
            }
            return to;
        }

        private int aSecondLater(int from) {
            int to = 0;
            for (int spot = 0; spot < MAX_SPOTS; spot++) {
                if ((from >> spot & 1) != 0) {
                    to |= 1 << city.spotIn(thing, spot, 1);
                }
            }
            return to;
        }

        private void fillCarried() {
            for (int p = 0; p < city.people; p++) {
                for (int spot = 0; spot < MAX_SPOTS; spot++) {
                    carried[p][spot] = isSpot(spot) ? spotsInReach(p, city.roomOfSpot(thing, spot)) : 0;
                }
            }
        }

        private int spotsInReach(int p, int from) {
            int to = 0;
            for (int room = 0; room < city.rooms; room++) {
                if (city.stepsToCarry(now.room[p], from, room) <= city.steps) {
                    to |= 1 << city.spotOfRoom(thing, room);
                }
            }
            return to;
        }

        private int spotsInRoom(int room) {
            int all = 0;
            for (int spot = 0; spot < MAX_SPOTS; spot++) {
                if (isSpot(spot) && city.roomOfSpot(thing, spot) == room) {
                    all |= 1 << spot;
                }
            }
            return all;
        }

        private boolean isSpot(int spot) {
            return spot < MAX_ROUND ? spot < city.roundLength[thing] : spot < MAX_ROUND + city.rooms;
        }
    }

    /** Whether one press could have made all that was found so. */
    private static final class DoneSearch {
        private static final int NOWHERE = -1;
        // the most steps that can be left to the person in each room, or NOWHERE
        private final int[] left = new int[MAX_ROOMS];
        private final int[] leftThen = new int[MAX_ROOMS];

        boolean couldHave(City city, Moment now, Finds finds, int p) {
            Arrays.fill(left, NOWHERE);
            left[now.room[p]] = city.steps;
            for (int t = 0; t < city.things; t++) {
                if (finds.tellOf(t)) {
                    settleThing(city, now, finds, t);
                }
            }
            for (int room = 0; room < city.rooms; room++) {
                if (left[room] != NOWHERE) {
                    return true;
                }
            }
            return false;
        }

        private void settleThing(City city, Moment now, Finds finds, int t) {
            Arrays.fill(leftThen, NOWHERE);
            if (finds.holdFrom(city, t, now.spot[t])) {
                System.arraycopy(left, 0, leftThen, 0, MAX_ROOMS);
            }
            int thingRoom = city.roomOfSpot(t, now.spot[t]);
            for (int room = 0; room < city.rooms; room++) {
                if (finds.holdFrom(city, t, city.spotOfRoom(t, room))) {
                    leftThen[room] = Math.max(leftThen[room], mostLeft(city, thingRoom, room));
                }
            }
            System.arraycopy(leftThen, 0, left, 0, MAX_ROOMS);
        }

        private int mostLeft(City city, int thingRoom, int room) {
            int most = NOWHERE;
            for (int from = 0; from < city.rooms; from++) {
                most = Math.max(most, left[from] - city.stepsToCarry(from, thingRoom, room));
            }
            return most;
        }
    }

    /** Two people who take things by turns. */
    private static final class TakingGame {
        // five takings, two ends, and a turn passed over behind each of them
        private static final int MAX_DEPTH = 20;

        private City city;
        private int taken;
        private final int[] thingRoom = new int[MAX_THINGS];
        private final int[] room = new int[2];
        private final int[] left = new int[2];
        private final boolean[] ended = new boolean[2];

        int play(City where, Moment now, int p, int q) {
            city = where;
            taken = 0;
            for (int t = 0; t < city.things; t++) {
                thingRoom[t] = city.roomOfSpot(t, now.spot[t]);
            }
            room[0] = now.room[p];
            room[1] = now.room[q];
            Arrays.fill(left, city.steps);
            ended[0] = false;
            ended[1] = false;
            return lead(this, 0, 0);
        }

        /** By how many more the first one gets from here on; who is 0 or 1. */
        private static int lead(TakingGame game, int who, int depth) {
            if (depth > MAX_DEPTH || game.ended[0] && game.ended[1]) {
                return 0;
            }
            if (game.ended[who]) {
                return lead(game, 1 - who, depth + 1);
            }
            int best = NO;
            for (int t = 0; t < game.city.things; t++) {
                if (game.canTake(who, t)) {
                    best = better(who, best, leadByTaking(game, who, t, depth));
                }
            }
            // To end at once is never better than to take a thing and end then.
            return best == NO ? leadByEnding(game, who, depth) : best;
        }

        private static int better(int who, int best, int lead) {
            if (best == NO) {
                return lead;
            }
            return who == 0 ? Math.max(best, lead) : Math.min(best, lead);
        }

        private static int leadByTaking(TakingGame game, int who, int t, int depth) {
            int roomAhead = game.room[who];
            int leftAhead = game.left[who];
            game.left[who] -= game.city.distance[roomAhead][game.thingRoom[t]];
            game.room[who] = game.thingRoom[t];
            game.taken |= 1 << t;
            int lead = (who == 0 ? 1 : -1) + lead(game, 1 - who, depth + 1);
            game.taken &= ~(1 << t);
            game.room[who] = roomAhead;
            game.left[who] = leftAhead;
            return lead;
        }

        private static int leadByEnding(TakingGame game, int who, int depth) {
            game.ended[who] = true;
            int lead = lead(game, 1 - who, depth + 1);
            game.ended[who] = false;
            return lead;
        }

        private boolean canTake(int who, int t) {
            return (taken >> t & 1) == 0 && city.distance[room[who]][thingRoom[t]] <= left[who];
        }
    }
}
