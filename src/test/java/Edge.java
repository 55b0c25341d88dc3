import java.util.ArrayList;
import java.util.List;
import java.util.function.Consumer;
import java.util.function.IntToLongFunction;
import java.util.function.Supplier;
import java.util.function.ToLongFunction;

/** Runs tests of edges, each of which names its promise and the document's words. */
final class Edge {
    static final int BAD = -1, STATE = -2, FULL = -3, NONE = -9, NO = -1000000;

    private final Check check = new Check();
    private String test = "";
    private int row;

    void test(int promise, String words, Runnable body) {
        test = "promise " + promise + ", " + words;
        row = 0;
        body.run();
    }

    void due(long got, long want) {
        row++;
        check.due(test + ", row " + row + ":", got, want);
    }

    /** From least to most no number is refused, any other one is. */
    void limits(int least, int most, long refusal, IntToLongFunction call) {
        for (int number = least; number <= most; number++) {
            if (call.applyAsLong(number) == refusal) {
                due(refusal, 0);
            }
        }
        for (int number : new int[] {least - 1, most + 1, Integer.MIN_VALUE, Integer.MAX_VALUE, -100, 1000}) {
            due(call.applyAsLong(number), refusal);
        }
    }

    /** The text is refused with its fault at this place, stays, and leaves a new object as it was. */
    void fault(String text, int place) {
        StillMinutes x = new StillMinutes();
        Check.type(x, text);
        List<Long> before = looks(x);
        due(x.city(), -10 - place);
        same(looks(x), before);
        due(x.city(), -10 - place);
        due(x.clear(), text.length());
    }

    void items(String text, int many) {
        StillMinutes x = new StillMinutes();
        Check.type(x, text);
        due(x.city(), many);
        due(x.count(6), 0);
    }

    /** A call is refused with this answer, and whatever is done behind it goes as if it had not been made. */
    void refused(Supplier<StillMinutes> make, long answer, ToLongFunction<StillMinutes> call) {
        due(call.applyAsLong(make.get()), answer);
        unchanged(make, call::applyAsLong);
    }

    /** Whatever is done behind this call goes as if it had not been made. */
    void unchanged(Supplier<StillMinutes> make, Consumer<StillMinutes> call) {
        for (Goings goings : Goings.values()) {
            StillMinutes with = make.get();
            call.accept(with);
            same(goings.answers(with), goings.answers(make.get()));
        }
    }

    private void same(List<Long> got, List<Long> want) {
        row++;
        if (!got.equals(want)) {
            check.due(test + ", row " + row + ": " + got + " instead of " + want + ":", 1, 0);
        }
    }

    void end() {
        check.end();
    }

    /** Every answer that tells what is so and changes nothing. */
    static List<Long> looks(StillMinutes x) {
        List<Long> all = new ArrayList<>();
        for (int what = 0; what < 7; what++) {
            all.add((long) x.count(what));
        }
        for (int what = 0; what < 5; what++) {
            all.add((long) x.now(what));
        }
        for (int d = 0; d < x.count(1); d++) {
            for (int what = 0; what < 3; what++) {
                all.add((long) x.door(d, what));
            }
        }
        for (int p = 0; p < x.count(3); p++) {
            for (int what = 0; what < 4; what++) {
                all.add((long) x.person(p, what));
            }
        }
        for (int t = 0; t < x.count(4); t++) {
            for (int what = 0; what < 3; what++) {
                all.add((long) x.thing(t, what));
            }
        }
        all.add((long) x.doneBy());
        all.add(x.trace());
        return all;
    }

    /** Ways to go on, which together show all that an object holds. */
    private enum Goings {
        LOOK, UNDO, IMAGE_0, IMAGE_1, READ, FORGET, GO_BY;

        List<Long> answers(StillMinutes x) {
            List<Long> all = new ArrayList<>();
            switch (this) {
                case LOOK: break;
                case UNDO:
                    for (int i = 0; i < 11; i++) {
                        all.add((long) x.undo());
                        all.add((long) x.now(0));
                        all.add((long) x.now(2));
                    }
                    break;
                case IMAGE_0: all.add((long) x.back(0)); break;
                case IMAGE_1: all.add((long) x.back(1)); break;
                case READ:
                    all.add((long) x.city());
                    all.add((long) x.type(';'));
                    all.add((long) x.city());
                    break;
                case FORGET:
                    all.add((long) x.forget());
                    all.add((long) x.clear());
                    break;
                case GO_BY:
                    all.add((long) x.second());
                    all.add((long) x.press(0));
                    all.add((long) x.walk(0, 1));
                    break;
            }
            all.addAll(looks(x));
            return all;
        }
    }
}
