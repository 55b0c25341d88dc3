import java.util.function.Supplier;
import java.util.function.ToLongFunction;

/** "Refused, and nothing changes, the first of these: BAD .., STATE .., FULL", for every call that may be refused. */
public final class RefusedTest {
    private static final int BAD = Edge.BAD, STATE = Edge.STATE, FULL = Edge.FULL, NO = Edge.NO;
    private static final int[] WRONG = {-1, 1000, -1000, 256, Integer.MIN_VALUE, Integer.MAX_VALUE};
    private static final Edge E = new Edge();

    public static void main(String[] args) {
        for (int wrong : WRONG) {
            badNumbers(wrong);
        }
        justBeyond();
        states();
        full();
        theFirstOfThese();
        E.end();
    }

    /** In every part of it something is there that a call could spoil: 3 doors, 3 people, 2 things, all else but image 1. */
    private static StillMinutes busy() {
        StillMinutes x = Check.told("r4;s3;d0 1 0;d1 2 0;d2 3 1;p0 20;p1 59;p3 30;t2 0 1;t1 2;");
        x.rate(4, 1);
        x.second();
        x.keep(0);
        x.press(1);
        x.carry(1, 0, 2);
        x.walk(1, 1);
        x.found(1, 2, 3);
        x.found(0, 2, 20);
        Check.type(x, "s7");
        return x;
    }

    private static StillMinutes nobody() {
        return new StillMinutes();
    }

    private static void refused(int promise, String words, long answer, ToLongFunction<StillMinutes> call) {
        E.test(promise, words, () -> E.refused(RefusedTest::busy, answer, call));
    }

    private static void badNumbers(int wrong) {
        String bad = "BAD: " + wrong + " as number ";
        refused(2, bad + 1, BAD, x -> x.type(wrong));
        refused(5, bad + 1, BAD, x -> x.door(wrong, 0));
        refused(5, bad + 2, BAD, x -> x.door(0, wrong));
        refused(6, bad + 1, BAD, x -> x.person(wrong, 0));
        refused(6, bad + 2, BAD, x -> x.person(0, wrong));
        refused(7, bad + 1, BAD, x -> x.thing(wrong, 0));
        refused(7, bad + 2, BAD, x -> x.thing(0, wrong));
        refused(8, bad + 1, BAD, x -> x.now(wrong));
        refused(10, bad + 1, BAD, x -> x.press(wrong));
        refused(11, bad + 1, BAD, x -> x.carry(wrong, 0, 0));
        refused(11, bad + 2, BAD, x -> x.carry(1, wrong, 0));
        refused(11, bad + 3, BAD, x -> x.carry(1, 0, wrong));
        refused(12, bad + 1, BAD, x -> x.walk(wrong, 0));
        refused(12, bad + 2, BAD, x -> x.walk(1, wrong));
        refused(14, bad + 1, BAD, x -> x.where(wrong, 0));
        refused(14, bad + 2, BAD, x -> x.where(0, wrong));
        refused(15, bad + 1, BAD, x -> x.upon(wrong, 0));
        refused(15, bad + 2, BAD, x -> x.upon(0, wrong));
        refused(16, bad + 1, BAD, x -> x.reach(wrong));
        badAsking(bad, wrong);
    }

    private static void badAsking(String bad, int wrong) {
        refused(17, bad + 1, BAD, x -> x.presses(wrong, 0, 0, 0));
        refused(17, bad + 2, BAD, x -> x.presses(0, wrong, 0, 0));
        refused(17, bad + 3, BAD, x -> x.presses(0, 0, wrong, 0));
        refused(17, bad + 4, BAD, x -> x.presses(0, 0, 0, wrong));
        refused(18, bad + 1, BAD, x -> x.found(wrong, 0, 0));
        refused(18, bad + 2, BAD, x -> x.found(0, wrong, 0));
        refused(18, bad + 3, BAD, x -> x.found(0, 0, wrong));
        refused(21, bad + 1, BAD, x -> x.guard(wrong, 0));
        refused(21, bad + 2, BAD, x -> x.guard(0, wrong));
        refused(22, "NO: " + wrong + " as number 1", NO, x -> x.taking(wrong, 0));
        refused(22, "NO: " + wrong + " as number 2", NO, x -> x.taking(0, wrong));
        refused(23, bad + 1, BAD, x -> x.odds(wrong, 0, 0));
        refused(23, bad + 2, BAD, x -> x.odds(0, wrong, 0));
        refused(23, bad + 3, BAD, x -> x.odds(0, 0, wrong));
        refused(24, bad + 1, BAD, x -> x.worth(wrong));
        refused(25, "NO: " + wrong + " as number 1", NO, x -> x.rate(wrong, 0));
        refused(25, "NO: " + wrong + " as number 2", NO, x -> x.rate(0, wrong));
        refused(26, bad + 1, BAD, x -> x.keep(wrong));
        refused(27, bad + 1, BAD, x -> x.back(wrong));
        refused(28, bad + 1, BAD, x -> x.count(wrong));
    }

    /** The first number that is not any more, by what there is in busy(): 4 rooms, 3 doors, 3 people, 2 things. */
    private static void justBeyond() {
        String beyond = "BAD: just beyond the last";
        refused(5, beyond, BAD, x -> x.door(3, 0));
        refused(5, beyond, BAD, x -> x.door(0, 3));
        refused(6, beyond, BAD, x -> x.person(3, 0));
        refused(6, beyond, BAD, x -> x.person(0, 4));
        refused(7, beyond, BAD, x -> x.thing(2, 0));
        refused(7, beyond, BAD, x -> x.thing(0, 3));
        refused(8, beyond, BAD, x -> x.now(5));
        refused(10, beyond, BAD, x -> x.press(3));
        refused(11, beyond, BAD, x -> x.carry(3, 0, 0));
        refused(11, beyond, BAD, x -> x.carry(1, 2, 0));
        refused(11, beyond, BAD, x -> x.carry(1, 0, 4));
        refused(12, beyond, BAD, x -> x.walk(3, 0));
        refused(12, beyond, BAD, x -> x.walk(1, 4));
        refused(14, beyond, BAD, x -> x.where(2, 0));
        refused(14, beyond, BAD, x -> x.where(0, 101));
        refused(15, beyond, BAD, x -> x.upon(2, 0));
        refused(15, beyond, BAD, x -> x.upon(0, 3));
        refused(16, beyond, BAD, x -> x.reach(3));
        refused(17, beyond, BAD, x -> x.presses(2, 0, 0, 0));
        refused(17, beyond, BAD, x -> x.presses(0, 4, 0, 0));
        refused(17, beyond, BAD, x -> x.presses(0, 0, 13, 0));
        refused(17, beyond, BAD, x -> x.presses(0, 0, 0, 2));
        refused(18, beyond, BAD, x -> x.found(2, 0, 0));
        refused(18, beyond, BAD, x -> x.found(0, 4, 0));
        refused(18, beyond, BAD, x -> x.found(0, 0, 21));
        refused(21, beyond, BAD, x -> x.guard(2, 0));
        refused(21, beyond, BAD, x -> x.guard(0, 4));
        refused(22, "NO: just beyond the last", NO, x -> x.taking(3, 0));
        refused(22, "NO: just beyond the last", NO, x -> x.taking(0, 3));
        refused(22, "NO: the same twice", NO, x -> x.taking(1, 1));
        refused(23, beyond, BAD, x -> x.odds(11, 0, 0));
        refused(23, beyond, BAD, x -> x.odds(0, 6, 0));
        refused(23, beyond, BAD, x -> x.odds(0, 0, 2));
        refused(24, beyond, BAD, x -> x.worth(3));
        refused(25, "NO: just beyond the last", NO, x -> x.rate(6, 0));
        refused(25, "NO: just beyond the last", NO, x -> x.rate(0, 3));
        refused(26, beyond, BAD, x -> x.keep(2));
        refused(27, beyond, BAD, x -> x.back(2));
        refused(28, beyond, BAD, x -> x.count(7));
    }

    private static void states() {
        refused(4, "-10 less FAULT: nothing changes", -12, StillMinutes::city);
        refused(10, "STATE: he did that DAY", STATE, x -> x.press(1));
        refused(11, "STATE: he is not UP", STATE, x -> x.carry(0, 0, 2));
        refused(11, "STATE: a step too few is LEFT", STATE, x -> x.carry(1, 1, 1));
        refused(11, "STATE: a DOOR is shut", STATE, x -> x.carry(1, 0, 3));
        refused(12, "STATE: he is not UP", STATE, x -> x.walk(2, 3));
        refused(12, "STATE: a DOOR is shut", STATE, x -> x.walk(1, 3));
        refused(27, "STATE: none was kept", STATE, x -> x.back(1));
        E.test(13, "STATE: none", () -> E.refused(RefusedTest::nobody, STATE, StillMinutes::undo));
        E.test(27, "STATE: none was kept at all", () -> E.refused(RefusedTest::nobody, STATE, x -> x.back(0)));
    }

    private static StillMinutes fullOfAll() {
        StillMinutes x = busy();
        x.found(0, 0, 0);
        x.found(0, 0, 1);
        for (int i = 0; i < 198; i++) {
            x.type(' ');
        }
        return x;
    }

    private static void full() {
        Supplier<StillMinutes> make = RefusedTest::fullOfAll;
        E.test(2, "FULL: 200 letters", () -> E.refused(make, FULL, x -> x.type(';')));
        E.test(18, "FULL: 4 are FOUND", () -> E.refused(make, FULL, x -> x.found(1, 1, 1)));
        E.test(4, "-10 less FAULT of a full TEXT", () -> E.refused(make, -210, StillMinutes::city));
    }

    private static void theFirstOfThese() {
        Supplier<StillMinutes> make = RefusedTest::fullOfAll;
        E.test(2, "BAD ahead of FULL", () -> E.refused(make, BAD, x -> x.type(256)));
        E.test(18, "BAD ahead of FULL: THING", () -> E.refused(make, BAD, x -> x.found(2, 0, 0)));
        E.test(18, "BAD ahead of FULL: ROOM", () -> E.refused(make, BAD, x -> x.found(0, 4, 0)));
        E.test(18, "BAD ahead of FULL: n", () -> E.refused(make, BAD, x -> x.found(0, 0, 21)));
        refused(11, "BAD ahead of STATE: THING, of one not UP", BAD, x -> x.carry(0, 2, 0));
        refused(11, "BAD ahead of STATE: ROOM, of one not UP", BAD, x -> x.carry(0, 0, 4));
        refused(12, "BAD ahead of STATE: ROOM, of one not UP", BAD, x -> x.walk(0, 4));
        E.test(27, "BAD ahead of STATE", () -> E.refused(RefusedTest::nobody, BAD, x -> x.back(2)));
    }
}
