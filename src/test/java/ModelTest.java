import java.util.ArrayList;
import java.util.List;
import java.util.Random;

/** Holds StillMinutes against PlainModel over many runs of calls; the seeds are fixed, so each run is the same. */
public final class ModelTest {
    private static final int[] ODD = {-1, -2, 7, 13, 21, 101, 256, Integer.MIN_VALUE, Integer.MAX_VALUE, 32, 64};

    private final Random random;
    private final Check check;
    private final StillMinutes real = new StillMinutes();
    private final PlainModel model = new PlainModel();
    private final StringBuilder calls = new StringBuilder();

    private ModelTest(long seed, Check check) {
        random = new Random(seed);
        this.check = check;
    }

    public static void main(String[] args) {
        Check check = new Check();
        int runs = args.length > 0 ? Integer.parseInt(args[0]) : 600;
        for (int seed = 0; seed < runs && check.wrong() == 0; seed++) {
            new ModelTest(seed, check).run();
        }
        check.end();
    }

    private void run() {
        int before = check.wrong();
        int left = 480;
        left -= tell(text());
        while (left > 0 && check.wrong() == before) {
            if (random.nextInt(120) == 0 && left > 220) {
                left -= tell(text());
            } else {
                call(random.nextInt(30));
                left--;
            }
        }
        if (check.wrong() != before) {
            System.out.println(calls);
        }
    }

    private void due(String call, long got, long want) {
        calls.append(call).append(" -> ").append(got).append('\n');
        check.due(call, got, want);
    }

    private int tell(String text) {
        calls.append('"').append(text).append("\"\n");
        check.due("clear", real.clear(), model.clear());
        for (int i = 0; i < text.length(); i++) {
            check.due("type", real.type(text.charAt(i)), model.type(text.charAt(i)));
        }
        due("city()", real.city(), model.city());
        return text.length() + 2;
    }

    private String text() {
        List<String> items = new ArrayList<>();
        int rooms = 2 + random.nextInt(5);
        if (random.nextInt(4) != 0) items.add("s" + (1 + random.nextInt(random.nextInt(3) > 0 ? 6 : 20)));
        for (int i = Math.max(random.nextInt(9), random.nextInt(9)); i > 0; i--) {
            int a = random.nextInt(rooms);
            items.add("d" + a + " " + (a + 1 + random.nextInt(rooms - 1)) % rooms + (random.nextInt(4) == 0 ? " 1" : " 0"));
        }
        for (int i = Math.max(random.nextInt(6), random.nextInt(6)); i > 0; i--) {
            items.add("p" + random.nextInt(rooms) + " " + (10 + random.nextInt(51)));
        }
        for (int i = Math.max(random.nextInt(6), random.nextInt(6)); i > 0; i--) {
            StringBuilder item = new StringBuilder("t");
            int length = 1 + random.nextInt(4);
            item.append(length);
            for (int j = 0; j < length; j++) item.append(' ').append(random.nextInt(rooms));
            items.add(item.toString());
        }
        java.util.Collections.shuffle(items, random);
        items.add(0, "r" + rooms);
        return spoilt(String.join(";", items) + ";");
    }

    private String spoilt(String text) {
        StringBuilder all = new StringBuilder(text);
        for (int i = random.nextInt(4); i > 0; i--) all.insert(blankPlace(all), ' ');
        if (random.nextInt(4) == 0) {
            String signs = "rsdpt;0123456789  x,\t";
            for (int i = 1 + random.nextInt(3); i > 0 && all.length() > 0; i--) {
                int at = random.nextInt(all.length());
                char sign = signs.charAt(random.nextInt(signs.length()));
                switch (random.nextInt(4)) {
                    case 0: all.insert(at, sign); break;
                    case 1: all.deleteCharAt(at); break;
                    case 2: all.setCharAt(at, sign); break;
                    default: all.setLength(at);
                }
            }
        }
        return all.toString();
    }

    /** Mostly where a blank may stand. */
    private int blankPlace(StringBuilder all) {
        int at = random.nextInt(all.length() + 1);
        while (at > 0 && at < all.length() && Character.isDigit(all.charAt(at - 1)) && Character.isDigit(all.charAt(at))) {
            at--;
        }
        return at;
    }

    private int upTo(int most) {
        return random.nextInt(40) == 0 ? ODD[random.nextInt(ODD.length)] : random.nextInt(most + 1);
    }

    private int one(int what) {
        int many = model.count(what);
        return random.nextInt(40) == 0 || many == 0 ? upTo(6) : random.nextInt(many);
    }

    private int room() {
        return one(0);
    }

    private int people() {
        return one(3);
    }

    private int thing() {
        return one(4);
    }

    /** Mostly one who is up, if there is one. */
    private int mover() {
        int p = people();
        for (int i = 0; i < 8 && model.person(p, 3) < 0 && model.now(2) != 0; i++) p = people();
        return p;
    }

    private void goBy() {
        boolean toNextDay = random.nextInt(8) == 0;
        do {
            due("second()", real.second(), model.second());
        } while (toNextDay && model.now(0) % 20 != 0);
    }

    private void call(int which) {
        if (which < 15) {
            doOrLook(which);
        } else {
            ask(which);
        }
        lookAtAll();
    }

    private void doOrLook(int which) {
        int p = which >= 7 ? mover() : people();
        int t = thing();
        int room = room();
        int what = upTo(5);
        switch (which) {
            case 0: due("type(" + what + ")", real.type(what), model.type(what)); break;
            case 1: due("clear()", real.clear(), model.clear()); break;
            case 2: case 3: goBy(); break;
            case 4: case 5: case 6: due("press(" + p + ")", real.press(p), model.press(p)); break;
            case 7: case 8: case 9:
                due("carry(" + p + ", " + t + ", " + room + ")", real.carry(p, t, room), model.carry(p, t, room));
                break;
            case 10: due("walk(" + p + ", " + room + ")", real.walk(p, room), model.walk(p, room)); break;
            case 11: due("undo()", real.undo(), model.undo()); break;
            case 12: due("keep(" + what % 3 + ")", real.keep(what % 3), model.keep(what % 3)); break;
            case 13:
                if (random.nextInt(3) == 0) {
                    due("back(" + what % 3 + ")", real.back(what % 3), model.back(what % 3));
                }
                break;
            default: due("door(" + room + ", " + what + ")", real.door(room, what), model.door(room, what));
        }
    }

    private void ask(int which) {
        int p = people();
        int q = people();
        int t = thing();
        int room = room();
        int what = random.nextInt(20) == 0 ? upTo(3) : random.nextInt(2);
        switch (which) {
            case 15: askWhere(t, upTo(100)); break;
            case 16: due("upon(" + t + ", " + p + ")", real.upon(t, p), model.upon(t, p)); break;
            case 17: due("reach(" + p + ")", real.reach(p), model.reach(p)); break;
            case 18: case 19: case 20: askPresses(t, room, upTo(12), what); break;
            case 21: askFound(t, room, upTo(20)); break;
            case 22: if (random.nextInt(2) == 0) due("forget()", real.forget(), model.forget()); break;
            case 23: case 24: due("doneBy()", real.doneBy(), model.doneBy()); break;
            case 25: due("guard(" + t + ", " + room + ")", real.guard(t, room), model.guard(t, room)); break;
            case 26: due("taking(" + p + ", " + q + ")", real.taking(p, q), model.taking(p, q)); break;
            case 27: askOdds(upTo(10), upTo(5), what); break;
            case 28: due("worth(" + p + ")", real.worth(p), model.worth(p)); break;
            default: askRate(upTo(5), p);
        }
    }

    private void askWhere(int t, int n) {
        due("where(" + t + ", " + n + ")", real.where(t, n), model.where(t, n));
    }

    private void askPresses(int t, int room, int n, int what) {
        due("presses(" + t + ", " + room + ", " + n + ", " + what + ")", real.presses(t, room, n, what),
            model.presses(t, room, n, what));
    }

    private void askFound(int t, int room, int n) {
        due("found(" + t + ", " + room + ", " + n + ")", real.found(t, room, n), model.found(t, room, n));
    }

    private void askOdds(int x, int k, int what) {
        due("odds(" + x + ", " + k + ", " + what + ")", real.odds(x, k, what), model.odds(x, k, what));
    }

    private void askRate(int kind, int p) {
        due("rate(" + kind + ", " + p + ")", real.rate(kind, p), model.rate(kind, p));
    }

    /** These change nothing, and tell at once if a call changed what it should not. */
    private void lookAtAll() {
        for (int what = -1; what < 8; what++) {
            check.due("count(" + what + ")", real.count(what), model.count(what));
            check.due("now(" + what + ")", real.now(what), model.now(what));
            for (int i = 0; i < 9; i++) {
                check.due("door(" + i + ", " + what + ")", real.door(i, what), model.door(i, what));
                check.due("person(" + i + ", " + what + ")", real.person(i, what), model.person(i, what));
                check.due("thing(" + i + ", " + what + ")", real.thing(i, what), model.thing(i, what));
            }
        }
        check.due("trace()", real.trace(), model.trace());
    }
}
