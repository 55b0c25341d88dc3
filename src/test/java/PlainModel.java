import java.math.BigInteger;
import java.util.ArrayDeque;
import java.util.ArrayList;
import java.util.Arrays;
import java.util.HashMap;
import java.util.List;
import java.util.Map;
import java.util.regex.Matcher;
import java.util.regex.Pattern;

/**
 * The document once more, as slow and as plain as can be, so that StillMinutes can be held against it.
 * It shares no way of counting with the class: all is tried out, state by state.
 */
final class PlainModel {
    static final int BAD = -1, STATE = -2, FULL = -3, NONE = -9, NO = -1000000;

    record Door(int a, int b, boolean shut) { }

    record Person(int room, int age, boolean up, int left, boolean pressed) { }

    /** place is -1 for a thing that is off its round. */
    record Thing(int room, int place) { }

    record Now(int second, List<Person> people, List<Thing> things) { }

    record Find(int thing, int room, int n) { }

    record Token(String kind, int place, int value) { }

    static final class Fault extends Exception {
        private static final long serialVersionUID = 1L;
        final int place;

        Fault(int place) {
            this.place = place;
        }
    }

    private int rooms = 2;
    private int steps = 10;
    private List<Door> doors = new ArrayList<>();
    private List<List<Integer>> rounds = new ArrayList<>();
    private Now now = new Now(0, List.of(), List.of());
    private final ArrayDeque<Now> undo = new ArrayDeque<>();
    private final Now[] images = new Now[2];
    private final List<Find> finds = new ArrayList<>();
    private String text = "";
    private long trace;

    int type(int letter) {
        if (letter < 0 || letter > 255) return BAD;
        if (text.length() == 200) return FULL;
        text += (char) letter;
        return text.length();
    }

    int clear() {
        int had = text.length();
        text = "";
        return had;
    }

    // ---- the text

    private static final Pattern TOKEN = Pattern.compile(" +|(?<number>[0-9]+)|(?<sign>[rsdpt;])|(?<other>.)",
        Pattern.DOTALL);

    private List<Token> tokens() {
        List<Token> all = new ArrayList<>();
        Matcher m = TOKEN.matcher(text);
        while (m.find()) {
            if (m.group("number") != null) {
                boolean fine = m.group().matches("0|[1-9][0-9]?");
                all.add(fine ? new Token("number", m.start(), Integer.parseInt(m.group()))
                    : new Token("wrong", m.start(), 0));
            } else if (m.group("sign") != null) {
                all.add(new Token(m.group(), m.start(), 0));
            } else if (m.group("other") != null) {
                all.add(new Token("wrong", m.start(), 0));
            }
        }
        all.add(new Token("end", text.length(), 0));
        return all;
    }

    private static int number(ArrayDeque<Token> tokens, int least, int most) throws Fault {
        Token token = tokens.remove();
        if (!token.kind().equals("number") || token.value() < least || token.value() > most) {
            throw new Fault(token.place());
        }
        return token.value();
    }

    int city() {
        PlainModel m = new PlainModel();
        ArrayDeque<Token> tokens = new ArrayDeque<>(tokens());
        int items = 0;
        boolean told = false;
        List<Person> people = new ArrayList<>();
        List<Thing> things = new ArrayList<>();
        try {
            while (!tokens.peek().kind().equals("end")) {
                Token head = tokens.remove();
                String kind = head.kind();
                if (kind.equals("r") && items == 0) {
                    m.rooms = number(tokens, 2, 6);
                } else if (kind.equals("s") && !told) {
                    m.steps = number(tokens, 1, 20);
                    told = true;
                } else if (kind.equals("d") && m.doors.size() < 8) {
                    int a = number(tokens, 0, m.rooms - 1);
                    int place = tokens.peek().place();
                    int b = number(tokens, 0, m.rooms - 1);
                    if (a == b) throw new Fault(place);
                    m.doors.add(new Door(a, b, number(tokens, 0, 1) == 1));
                } else if (kind.equals("p") && people.size() < 5) {
                    int room = number(tokens, 0, m.rooms - 1);
                    people.add(new Person(room, number(tokens, 10, 60), false, 0, false));
                } else if (kind.equals("t") && things.size() < 5) {
                    List<Integer> round = new ArrayList<>();
                    for (int left = number(tokens, 1, 4); left > 0; left--) round.add(number(tokens, 0, m.rooms - 1));
                    m.rounds.add(round);
                    things.add(new Thing(round.get(0), 0));
                } else {
                    throw new Fault(head.place());
                }
                Token end = tokens.remove();
                if (!end.kind().equals(";")) throw new Fault(end.place());
                items++;
            }
        } catch (Fault fault) {
            return -10 - fault.place;
        }
        rooms = m.rooms;
        steps = m.steps;
        doors = m.doors;
        rounds = m.rounds;
        now = new Now(0, people, things);
        undo.clear();
        Arrays.fill(images, null);
        finds.clear();
        text = "";
        return items;
    }

    int door(int d, int what) {
        if (d < 0 || d >= doors.size() || what < 0 || what > 2) return BAD;
        Door door = doors.get(d);
        return what == 0 ? door.a() : what == 1 ? door.b() : door.shut() ? 1 : 0;
    }

    int person(int p, int what) {
        if (!isPerson(p) || what < 0 || what > 3) return BAD;
        Person one = now.people().get(p);
        return what == 0 ? one.room() : what == 1 ? one.age() : what == 2 ? (one.pressed() ? 1 : 0)
            : one.up() ? one.left() : NONE;
    }

    int thing(int t, int what) {
        if (!isThing(t) || what < 0 || what > 2) return BAD;
        Thing one = now.things().get(t);
        return what == 0 ? one.room() : what == 1 ? (one.place() < 0 ? NONE : one.place()) : rounds.get(t).size();
    }

    int now(int what) {
        int up = 0;
        int pressed = 0;
        for (int p = 0; p < now.people().size(); p++) {
            if (now.people().get(p).up()) up += 1 << p;
            if (now.people().get(p).pressed()) pressed += 1 << p;
        }
        int[] all = {now.second(), now.second() / 20, up, pressed, undo.size()};
        return what < 0 || what > 4 ? BAD : all[what];
    }

    // ---- what is done

    private void become(Now next) {
        undo.addLast(now);
        if (undo.size() > 10) undo.removeFirst();
        now = next;
    }

    private Thing later(int t, Thing thing) {
        if (thing.place() < 0) return thing;
        int place = thing.place() + 1 == rounds.get(t).size() ? 0 : thing.place() + 1;
        return new Thing(rounds.get(t).get(place), place);
    }

    private Thing later(int t, Thing thing, int n) {
        Thing then = thing;
        for (int i = 0; i < n; i++) then = later(t, then);
        return then;
    }

    private Thing put(int t, int room) {
        return new Thing(room, rounds.get(t).indexOf(room));
    }

    int second() {
        if (now.second() == 9999) return STATE;
        List<Person> people = new ArrayList<>();
        List<Thing> things = new ArrayList<>();
        boolean newDay = (now.second() + 1) / 20 != now.second() / 20;
        for (Person p : now.people()) {
            people.add(new Person(p.room(), p.age(), false, 0, p.pressed() && !newDay));
        }
        for (int t = 0; t < now.things().size(); t++) things.add(later(t, now.things().get(t)));
        become(new Now(now.second() + 1, people, things));
        return now.second();
    }

    private void change(int p, Person person, int t, Thing thing) {
        List<Person> people = new ArrayList<>(now.people());
        people.set(p, person);
        List<Thing> things = new ArrayList<>(now.things());
        if (thing != null) things.set(t, thing);
        become(new Now(now.second(), people, things));
    }

    int press(int p) {
        if (!isPerson(p)) return BAD;
        Person one = now.people().get(p);
        if (one.pressed()) return STATE;
        change(p, new Person(one.room(), one.age() + 1, true, steps, true), 0, null);
        return one.age() + 1;
    }

    int carry(int p, int t, int room) {
        if (!isPerson(p) || !isThing(t) || !isRoom(room)) return BAD;
        Person one = now.people().get(p);
        int far = far(one.room(), now.things().get(t).room(), 0) + far(now.things().get(t).room(), room, 0);
        if (!one.up() || far > one.left()) return STATE;
        change(p, new Person(room, one.age(), true, one.left() - far, true), t, put(t, room));
        return one.left() - far;
    }

    int walk(int p, int room) {
        if (!isPerson(p) || !isRoom(room)) return BAD;
        Person one = now.people().get(p);
        int far = far(one.room(), room, 0);
        if (!one.up() || far > one.left()) return STATE;
        change(p, new Person(room, one.age(), true, one.left() - far, true), 0, null);
        return one.left() - far;
    }

    int undo() {
        if (undo.isEmpty()) return STATE;
        now = undo.removeLast();
        return undo.size();
    }

    // ---- what comes

    /** By trying all ways that pass no room twice. */
    private int far(int from, int to, int shut) {
        return far(from, to, shut, 1 << from);
    }

    private int far(int from, int to, int shut, int passed) {
        if (from == to) return 0;
        int best = 1000;
        for (int d = 0; d < doors.size(); d++) {
            Door door = doors.get(d);
            if (door.shut() || (shut >> d & 1) == 1) continue;
            int next = door.a() == from ? door.b() : door.b() == from ? door.a() : -1;
            if (next >= 0 && (passed >> next & 1) == 0) {
                best = Math.min(best, 1 + far(next, to, shut, passed | 1 << next));
            }
        }
        return best;
    }

    int where(int t, int n) {
        return !isThing(t) || n < 0 || n > 100 ? BAD : later(t, now.things().get(t), n).room();
    }

    int upon(int t, int p) {
        if (!isThing(t) || !isPerson(p)) return BAD;
        for (int n = 0; n <= 20; n++) {
            if (later(t, now.things().get(t), n).room() == now.people().get(p).room()) return n;
        }
        return NONE;
    }

    int reach(int p) {
        if (!isPerson(p)) return BAD;
        Person one = now.people().get(p);
        int bits = 0;
        for (int room = 0; room < rooms; room++) {
            if (far(one.room(), room, 0) <= (one.up() ? one.left() : steps)) bits += 1 << room;
        }
        return bits;
    }

    // ---- what can be done

    private boolean canCarry(int p, Thing thing, int room, int shut) {
        return far(now.people().get(p).room(), thing.room(), shut) + far(thing.room(), room, shut) <= steps;
    }

    private int fewest(int t, Thing thing, int room, int n, int people, Map<String, Integer> seen) {
        if (thing.room() == room) return 0;
        String key = thing + "," + n + "," + people;
        Integer known = seen.get(key);
        if (known != null) return known;
        int best = 100;
        if (n > 0) best = fewest(t, later(t, thing), room, n - 1, people, seen);
        for (int p = 0; p < now.people().size(); p++) {
            if ((people >> p & 1) == 0) continue;
            for (int to = 0; to < rooms; to++) {
                if (canCarry(p, thing, to, 0)) {
                    best = Math.min(best, 1 + fewest(t, put(t, to), room, n, people & ~(1 << p), seen));
                }
            }
        }
        seen.put(key, best);
        return best;
    }

    private int rested() {
        int bits = 0;
        for (int p = 0; p < now.people().size(); p++) if (!now.people().get(p).pressed()) bits += 1 << p;
        return bits;
    }

    int presses(int t, int room, int n, int what) {
        if (!isThing(t) || !isRoom(room) || n < 0 || n > 12 || what < 0 || what > 1) return BAD;
        if (what == 0) {
            int best = fewest(t, now.things().get(t), room, n, rested(), new HashMap<>());
            return best == 100 ? NONE : best;
        }
        int bits = 0;
        for (int p = 0; p < now.people().size(); p++) {
            int only = rested() & 1 << p;
            if (only != 0 && fewest(t, now.things().get(t), room, n, only, new HashMap<>()) <= 1) bits += only;
        }
        return bits;
    }

    int found(int t, int room, int n) {
        if (!isThing(t) || !isRoom(room) || n < 0 || n > 20) return BAD;
        if (finds.size() == 4) return FULL;
        finds.add(new Find(t, room, n));
        return finds.size();
    }

    int forget() {
        int had = finds.size();
        finds.clear();
        return had;
    }

    private boolean could(int room, int left, int t) {
        if (left < 0) return false;
        if (t == now.things().size()) return true;
        Thing thing = now.things().get(t);
        if (holds(t, thing) && could(room, left, t + 1)) return true;
        if (finds.stream().noneMatch(f -> f.thing() == t)) return false;
        for (int to = 0; to < rooms; to++) {
            int far = far(room, thing.room(), 0) + far(thing.room(), to, 0);
            if (holds(t, put(t, to)) && could(to, left - far, t + 1)) return true;
        }
        return false;
    }

    private boolean holds(int t, Thing thing) {
        return finds.stream().allMatch(f -> f.thing() != t || later(t, thing, f.n()).room() == f.room());
    }

    int doneBy() {
        int bits = 0;
        for (int p = 0; p < now.people().size(); p++) {
            if ((rested() >> p & 1) == 1 && could(now.people().get(p).room(), steps, 0)) bits += 1 << p;
        }
        return bits;
    }

    int guard(int t, int room) {
        if (!isThing(t) || !isRoom(room)) return BAD;
        for (int many = 0; many <= 8; many++) {
            for (int shut = 0; shut < 256; shut++) {
                if (Integer.bitCount(shut) == many && allOpen(shut) && guarded(t, room, shut)) return shut;
            }
        }
        return NONE;
    }

    private boolean allOpen(int bits) {
        for (int d = 0; d < 8; d++) {
            if ((bits >> d & 1) == 1 && (d >= doors.size() || doors.get(d).shut())) return false;
        }
        return true;
    }

    private boolean guarded(int t, int room, int shut) {
        for (int p = 0; p < now.people().size(); p++) {
            if ((rested() >> p & 1) == 1 && canCarry(p, now.things().get(t), room, shut)) return false;
        }
        return true;
    }

    int taking(int p, int q) {
        if (!isPerson(p) || !isPerson(q) || p == q) return NO;
        return lead(now.people().get(p).room(), steps, now.people().get(q).room(), steps, 0, false);
    }

    /** What the one whose turn it is gets more than the other one; ended: the other one has ended. */
    private int lead(int room, int left, int otherRoom, int otherLeft, int taken, boolean ended) {
        int best = ended ? 0 : -lead(otherRoom, otherLeft, room, left, taken, true);
        for (int t = 0; t < now.things().size(); t++) {
            int to = now.things().get(t).room();
            int rest = left - far(room, to, 0);
            if ((taken >> t & 1) == 1 || rest < 0) continue;
            int all = taken | 1 << t;
            best = Math.max(best, 1 + (ended ? lead(to, rest, otherRoom, otherLeft, all, true)
                : -lead(otherRoom, otherLeft, to, rest, all, false)));
        }
        return best;
    }

    int odds(int x, int k, int what) {
        if (x < 0 || x > 10 || k < 0 || k > 5 || what < 0 || what > 1) return BAD;
        int many = Integer.bitCount(rested());
        BigInteger upper = BigInteger.ZERO;
        for (int who = 0; who < 1 << many; who++) {
            if (Integer.bitCount(who) == k) {
                upper = upper.add(BigInteger.valueOf(x).pow(k).multiply(BigInteger.valueOf(10 - x).pow(many - k)));
            }
        }
        BigInteger lower = BigInteger.TEN.pow(many);
        return (what == 0 ? upper : lower).divide(upper.gcd(lower)).intValueExact();
    }

    int worth(int p) {
        if (!isPerson(p)) return BAD;
        int pairs = 0;
        for (Thing thing : now.things()) {
            for (int room = 0; room < rooms; room++) {
                if (thing.room() != room && canCarry(p, thing, room, 0)) pairs++;
            }
        }
        return pairs;
    }

    // ---- kinds, images

    private class PersonKind {
        int rating(int p) {
            trace += 1;
            return now.people().get(p).age();
        }
    }

    private class Barber extends PersonKind {
        @Override int rating(int p) {
            trace += 10;
            return super.rating(p) + now.people().get(p).room();
        }
    }

    private class Thief extends PersonKind {
        @Override int rating(int p) {
            trace += 100;
            return super.rating(p)
                - (int) now.things().stream().filter(t -> t.room() == now.people().get(p).room()).count();
        }
    }

    private class Grey extends Barber {
        @Override int rating(int p) {
            trace += 1000;
            return super.rating(p) * 2;
        }
    }

    private class Tenth extends Thief {
        @Override int rating(int p) {
            trace += 10000;
            return super.rating(p) + p;
        }
    }

    private class Child extends PersonKind {
        @Override int rating(int p) {
            trace += 100000;
            return super.rating(p) + (now.people().get(p).up() ? now.people().get(p).left() : 0);
        }
    }

    int rate(int kind, int p) {
        if (!isPerson(p) || kind < 0 || kind > 5) return NO;
        PersonKind[] kinds = {new PersonKind(), new Barber(), new Thief(), new Grey(), new Tenth(), new Child()};
        return kinds[kind].rating(p);
    }

    int keep(int image) {
        if (image < 0 || image > 1) return BAD;
        images[image] = now;
        return now.second();
    }

    int back(int image) {
        if (image < 0 || image > 1) return BAD;
        if (images[image] == null) return STATE;
        now = images[image];
        undo.clear();
        return now.second();
    }

    int count(int what) {
        int[] all = {rooms, doors.size(), steps, now.people().size(), now.things().size(), finds.size(),
            text.length()};
        return what < 0 || what > 6 ? BAD : all[what];
    }

    long trace() {
        return trace;
    }

    private boolean isRoom(int room) {
        return room >= 0 && room < rooms;
    }

    private boolean isPerson(int p) {
        return p >= 0 && p < now.people().size();
    }

    private boolean isThing(int t) {
        return t >= 0 && t < now.things().size();
    }
}
