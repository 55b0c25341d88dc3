import java.math.BigInteger;
import java.util.ArrayDeque;
import java.util.ArrayList;
import java.util.Collections;
import java.util.Deque;
import java.util.HashSet;
import java.util.List;
import java.util.Random;
import java.util.Set;

/**
 * What is asked (promises 14 to 24 but for 19) is what comes when it is really done: each answer is held against second(),
 * press(), carry() and walk() on new objects that came to the same moment, so no second reading of the document is
 * needed for it. The seeds are fixed, so each run is the same.
 */
public final class AskedAndDoneTest {
    private static final int NONE = -9;
    /** So many seconds later every thing is in the same place (12 is a multiple of 1 to 4), on another day. */
    private static final int NEXT_DAY_ALIKE = 24;

    private enum Deed { SECOND, PRESS, CARRY, WALK }

    private record Doing(Deed deed, int p, int t, int room) {
        int on(StillMinutes x) {
            switch (deed) {
                case SECOND: return x.second();
                case PRESS: return x.press(p);
                case CARRY: return x.carry(p, t, room);
                default: return x.walk(p, room);
            }
        }
    }

    private static final Doing A_SECOND = new Doing(Deed.SECOND, 0, 0, 0);

    private final Random random;
    private final Check check;
    private final int rooms;
    private final int steps;
    private final List<int[]> doors = new ArrayList<>();
    private final List<int[]> people = new ArrayList<>();
    private final List<int[]> rounds = new ArrayList<>();
    private final List<Doing> past = new ArrayList<>();

    private AskedAndDoneTest(long seed, Check check) {
        random = new Random(seed);
        this.check = check;
        // In a row of rooms with few steps it often takes more than one to bring a thing to its end.
        boolean inARow = random.nextInt(2) == 0;
        rooms = inARow ? 5 + random.nextInt(2) : 2 + random.nextInt(5);
        steps = 1 + random.nextInt(inARow ? 4 : 6);
        for (int a = 0; a + 1 < rooms && inARow; a++) {
            doors.add(new int[] {a, a + 1, 0});
        }
        for (int i = inARow ? random.nextInt(2) : 1 + random.nextInt(8); i > 0; i--) {
            int a = random.nextInt(rooms);
            doors.add(new int[] {a, (a + 1 + random.nextInt(rooms - 1)) % rooms, random.nextInt(5) / 4});
        }
        for (int i = 2 + random.nextInt(3); i > 0; i--) {
            people.add(new int[] {random.nextInt(rooms), 10 + random.nextInt(51)});
        }
        for (int i = 1 + random.nextInt(4); i > 0; i--) {
            rounds.add(random.ints(1 + random.nextInt(4), 0, rooms).toArray());
        }
    }

    public static void main(String[] args) {
        Check check = new Check();
        int runs = args.length > 0 ? Integer.parseInt(args[0]) : 120;
        for (int seed = 0; seed < runs && check.wrong() == 0; seed++) {
            AskedAndDoneTest test = new AskedAndDoneTest(seed, check);
            test.run();
            if (check.wrong() != 0) {
                System.out.println("city " + seed + ": " + test.text(0) + " behind " + test.past);
            }
        }
        check.end();
    }

    private void run() {
        goBy(random.nextInt(45));
        doSome(Deed.PRESS, random.nextInt(2));
        // A carry or a walk would not go alike once doors are shut.
        guards();
        doSome(Deed.PRESS, random.nextInt(2));
        doSome(Deed.CARRY, 3);
        doSome(Deed.WALK, 2);
        askAll();
        goBy(random.nextInt(3));
        askAll();
    }

    private void askAll() {
        wheres();
        upons();
        reaches();
        worths();
        odds();
        takings();
        for (int t = 0; t < rounds.size(); t++) {
            for (int room = 0; room < rooms; room++) {
                presses(t, room, random.nextInt(5));
            }
        }
        doneBy();
    }

    // ---- the moment, come to anew as often as is needed

    private String text(int shutToo) {
        StringBuilder text = new StringBuilder("r" + rooms + ";s" + steps + ";");
        for (int d = 0; d < doors.size(); d++) {
            int[] door = doors.get(d);
            text.append("d" + door[0] + " " + door[1] + " " + (door[2] | shutToo >> d & 1) + ";");
        }
        for (int[] person : people) {
            text.append("p" + person[0] + " " + person[1] + ";");
        }
        for (int[] round : rounds) {
            text.append("t" + round.length);
            for (int room : round) {
                text.append(" " + room);
            }
            text.append(";");
        }
        return text.toString();
    }

    private StillMinutes then(int shutToo, List<Doing> more) {
        StillMinutes x = Check.told(text(shutToo));
        for (Doing doing : past) {
            doing.on(x);
        }
        for (Doing doing : more) {
            doing.on(x);
        }
        return x;
    }

    private StillMinutes then() {
        return then(0, List.of());
    }

    private StillMinutes nextDayAlike() {
        return then(0, Collections.nCopies(NEXT_DAY_ALIKE, A_SECOND));
    }

    private void goBy(int seconds) {
        past.addAll(Collections.nCopies(seconds, A_SECOND));
    }

    private void doSome(Deed deed, int many) {
        for (int i = 0; i < many; i++) {
            past.add(new Doing(deed, random.nextInt(people.size()), random.nextInt(rounds.size()),
                random.nextInt(rooms)));
        }
    }

    private static List<Doing> and(List<Doing> all, Doing... more) {
        List<Doing> longer = new ArrayList<>(all);
        longer.addAll(List.of(more));
        return longer;
    }

    private static Doing press(int p) {
        return new Doing(Deed.PRESS, p, 0, 0);
    }

    private static Doing carry(int p, int t, int room) {
        return new Doing(Deed.CARRY, p, t, room);
    }

    private List<Integer> rested() {
        int pressed = then().now(3);
        List<Integer> all = new ArrayList<>();
        for (int p = 0; p < people.size(); p++) {
            if ((pressed >> p & 1) == 0) {
                all.add(p);
            }
        }
        return all;
    }

    // ---- what comes

    private void wheres() {
        int t = random.nextInt(rounds.size());
        StillMinutes asked = then();
        StillMinutes done = then();
        for (int n = 0; n <= 100; n++) {
            check.due("where(" + t + ", " + n + ")", asked.where(t, n), done.thing(t, 0));
            done.second();
        }
    }

    private void upons() {
        for (int t = 0; t < rounds.size(); t++) {
            for (int p = 0; p < people.size(); p++) {
                check.due("upon(" + t + ", " + p + ")", then().upon(t, p), uponByDoing(t, p));
            }
        }
    }

    private int uponByDoing(int t, int p) {
        StillMinutes x = then();
        for (int n = 0; n <= 20; n++) {
            if (x.thing(t, 0) == x.person(p, 0)) {
                return n;
            }
            x.second();
        }
        return NONE;
    }

    private void reaches() {
        for (int p = 0; p < people.size(); p++) {
            int reached = 0;
            for (int room = 0; room < rooms; room++) {
                StillMinutes x = then().person(p, 3) == NONE ? nextDayAlike() : then();
                x.press(p);
                if (x.walk(p, room) >= 0) {
                    reached |= 1 << room;
                }
            }
            check.due("reach(" + p + ")", then().reach(p), reached);
        }
    }

    private void worths() {
        for (int p = 0; p < people.size(); p++) {
            int pairs = 0;
            for (int t = 0; t < rounds.size(); t++) {
                for (int room = 0; room < rooms; room++) {
                    StillMinutes x = nextDayAlike();
                    x.press(p);
                    if (x.thing(t, 0) != room && x.carry(p, t, room) >= 0) {
                        pairs++;
                    }
                }
            }
            check.due("worth(" + p + ")", then().worth(p), pairs);
        }
    }

    // ---- what can be done

    private void presses(int t, int room, int n) {
        String call = "presses(" + t + ", " + room + ", " + n;
        check.due(call + ", 0)", then().presses(t, room, n, 0), pressesByDoing(t, room, n, rested()));
        int who = 0;
        for (int p : rested()) {
            if (pressesByDoing(t, room, n, List.of(p)) != NONE) {
                who |= 1 << p;
            }
        }
        check.due(call + ", 1)", then().presses(t, room, n, 1), who);
    }

    /** A second costs nothing, so what needs fewer presses is always looked at first. */
    private int pressesByDoing(int t, int room, int n, List<Integer> who) {
        Deque<List<Doing>> open = new ArrayDeque<>();
        Set<String> seen = new HashSet<>();
        int begun = then().now(0);
        open.add(List.of());
        while (!open.isEmpty()) {
            List<Doing> path = open.removeFirst();
            StillMinutes x = then(0, path);
            List<Integer> still = new ArrayList<>(who);
            path.forEach(doing -> still.removeIf(p -> doing.deed() == Deed.PRESS && doing.p() == p));
            if (x.thing(t, 0) == room) {
                return who.size() - still.size();
            }
            if (!seen.add(x.now(0) + " " + x.thing(t, 0) + " " + x.thing(t, 1) + " " + still)) {
                continue;
            }
            if (x.now(0) < begun + n) {
                open.addFirst(and(path, A_SECOND));
            }
            for (int p : still) {
                for (int to = 0; to < rooms; to++) {
                    StillMinutes y = then(0, and(path, press(p)));
                    if (y.carry(p, t, to) >= 0) {
                        open.addLast(and(path, press(p), carry(p, t, to)));
                    }
                }
            }
        }
        return NONE;
    }

    private void doneBy() {
        StillMinutes asked = then();
        List<int[]> finds = new ArrayList<>();
        for (int i = random.nextInt(4); i >= 0; i--) {
            int[] find = someFind();
            finds.add(find);
            asked.found(find[0], find[1], find[2]);
            int who = 0;
            for (int p : rested()) {
                if (doneByDoing(p, 0, finds, List.of(press(p)))) {
                    who |= 1 << p;
                }
            }
            check.due("doneBy() behind " + finds.size() + " found", asked.doneBy(), who);
        }
    }

    /** Often what one carrying makes so, else hardly anything would be found that anybody can have done. */
    private int[] someFind() {
        int t = random.nextInt(rounds.size());
        int n = random.nextInt(21);
        List<Integer> rested = rested();
        if (rested.isEmpty() || random.nextInt(4) == 0) {
            return new int[] {t, random.nextInt(rooms), n};
        }
        int p = rested.get(random.nextInt(rested.size()));
        StillMinutes x = then(0, List.of(press(p), carry(p, t, random.nextInt(rooms))));
        return new int[] {t, x.where(t, n), n};
    }

    private boolean doneByDoing(int p, int t, List<int[]> finds, List<Doing> path) {
        if (t == rounds.size()) {
            return finds.stream().allMatch(find -> isSo(find, path));
        }
        if (doneByDoing(p, t + 1, finds, path)) {
            return true;
        }
        if (finds.stream().noneMatch(find -> find[0] == t)) {
            return false;
        }
        for (int room = 0; room < rooms; room++) {
            if (then(0, path).carry(p, t, room) >= 0 && doneByDoing(p, t + 1, finds, and(path, carry(p, t, room)))) {
                return true;
            }
        }
        return false;
    }

    private boolean isSo(int[] find, List<Doing> path) {
        StillMinutes x = then(0, path);
        Check.seconds(x, find[2]);
        return x.thing(find[0], 0) == find[1];
    }

    private void guards() {
        for (int t = 0; t < rounds.size(); t++) {
            for (int room = 0; room < rooms; room++) {
                check.due("guard(" + t + ", " + room + ")", then().guard(t, room), guardByDoing(t, room));
            }
        }
    }

    private int guardByDoing(int t, int room) {
        List<Integer> rested = rested();
        for (int many = 0; many <= doors.size(); many++) {
            for (int shut = 0; shut < 1 << doors.size(); shut++) {
                if (Integer.bitCount(shut) == many && areOpen(shut) && isGuarded(t, room, shut, rested)) {
                    return shut;
                }
            }
        }
        return NONE;
    }

    private boolean areOpen(int bits) {
        StillMinutes x = then();
        for (int d = 0; d < doors.size(); d++) {
            if ((bits >> d & 1) == 1 && x.door(d, 2) == 1) {
                return false;
            }
        }
        return true;
    }

    private boolean isGuarded(int t, int room, int shut, List<Integer> rested) {
        for (int p : rested) {
            if (then(shut, List.of(press(p))).carry(p, t, room) >= 0) {
                return false;
            }
        }
        return true;
    }

    private void takings() {
        for (int p = 0; p < people.size(); p++) {
            int q = (p + 1 + random.nextInt(people.size() - 1)) % people.size();
            List<Doing> path = and(Collections.nCopies(NEXT_DAY_ALIKE, A_SECOND), press(p), press(q));
            check.due("taking(" + p + ", " + q + ")", then().taking(p, q), lead(p, q, 0, path, false));
        }
    }

    /** By how many more the one whose turn it is gets from here on; each may end at every turn. */
    private int lead(int mover, int other, int taken, List<Doing> path, boolean otherEnded) {
        int best = otherEnded ? 0 : -lead(other, mover, taken, path, true);
        for (int t = 0; t < rounds.size(); t++) {
            Doing walk = new Doing(Deed.WALK, mover, 0, then(0, path).thing(t, 0));
            if ((taken >> t & 1) == 0 && walk.on(then(0, path)) >= 0) {
                List<Doing> gone = and(path, walk);
                int rest = otherEnded ? lead(mover, other, taken | 1 << t, gone, true)
                    : -lead(other, mover, taken | 1 << t, gone, false);
                best = Math.max(best, 1 + rest);
            }
        }
        return best;
    }

    private void odds() {
        int x = random.nextInt(11);
        List<Integer> rested = rested();
        int upBefore = Integer.bitCount(then().now(2));
        int[] tenths = new int[6];
        for (int who = 0; who < 1 << rested.size(); who++) {
            StillMinutes y = then();
            int odds = 1;
            for (int i = 0; i < rested.size(); i++) {
                boolean presses = (who >> i & 1) == 1;
                odds *= presses ? x : 10 - x;
                if (presses) {
                    y.press(rested.get(i));
                }
            }
            tenths[Integer.bitCount(y.now(2)) - upBefore] += odds;
        }
        for (int k = 0; k <= 5; k++) {
            BigInteger upper = BigInteger.valueOf(tenths[k]);
            BigInteger lower = BigInteger.TEN.pow(rested.size());
            BigInteger common = upper.gcd(lower);
            check.due("odds(" + x + ", " + k + ", 0)", then().odds(x, k, 0), upper.divide(common).intValue());
            check.due("odds(" + x + ", " + k + ", 1)", then().odds(x, k, 1), lower.divide(common).intValue());
        }
    }
}
