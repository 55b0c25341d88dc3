/** The edges of promises 14 to 24: what comes, and what can be done. */
public final class AskingEdgesTest {
    private static final int BAD = Edge.BAD, FULL = Edge.FULL, NONE = Edge.NONE, NO = Edge.NO;
    private static final Edge E = new Edge();
    // Six rooms in a row, five steps: just from one end to the other.
    private static final String LINE = "r6;s5;d0 1 0;d1 2 0;d2 3 0;d3 4 0;d4 5 0;";

    public static void main(String[] args) {
        where();
        upon();
        reach();
        pressesNumbers();
        pressesInTime();
        pressesByPeople();
        pressesWho();
        found();
        forget();
        doneByPeople();
        doneBySteps();
        doneByFinds();
        guard();
        guardLeast();
        taking();
        odds();
        worth();
        nothingIsChanged();
        E.end();
    }

    private static StillMinutes up(String text) {
        StillMinutes x = Check.told(text);
        x.press(0);
        return x;
    }

    private static void where() {
        E.test(14, "n (0 .. 100)", () -> {
            StillMinutes x = Check.told("t3 0 1 1;");
            E.limits(0, 100, BAD, n -> x.where(0, n));
        });
        E.test(14, "no such THING: BAD", () -> {
            E.due(new StillMinutes().where(0, 0), BAD);
            StillMinutes x = Check.told("t1 0;t1 0;t1 0;t1 0;t1 1;");
            E.limits(0, 4, BAD, t -> x.where(t, 0));
            E.due(x.where(4, 100), 1);
        });
        E.test(14, "0 SECONDS: where it is", () -> {
            StillMinutes x = Check.told("r3;t3 2 1 0;");
            E.due(x.where(0, 0), 2);
            x.second();
            E.due(x.where(0, 0), 1);
        });
        E.test(14, "behind the last ROOM of its ROUND the first, to 100 SECONDS, from each place", () -> {
            int[] round = {2, 1, 0};
            for (int place = 0; place < 3; place++) {
                StillMinutes x = Check.told("r3;t3 2 1 0;");
                Check.seconds(x, place);
                for (int n = 0; n <= 100; n++) {
                    E.due(x.where(0, n), round[(place + n) % 3]);
                }
            }
        });
        E.test(14, "OFF: there for good", () -> {
            StillMinutes x = up("r3;d0 1 0;d1 2 0;p0 20;t2 0 1;");
            x.carry(0, 0, 2);
            E.due(x.where(0, 0), 2);
            E.due(x.where(0, 1), 2);
            E.due(x.where(0, 100), 2);
        });
        E.test(14, "put on its ROUND: from there on", () -> {
            StillMinutes x = up("r3;d0 1 0;d1 2 0;p0 20;t4 0 1 2 1;");
            x.carry(0, 0, 1);
            E.due(x.where(0, 0), 1);
            E.due(x.where(0, 1), 2);
            E.due(x.where(0, 3), 0);
        });
    }

    private static void upon() {
        E.test(15, "no such THING or PERSON: BAD", () -> {
            E.due(Check.told("p0 20;").upon(0, 0), BAD);
            E.due(Check.told("t1 0;").upon(0, 0), BAD);
            StillMinutes x = Check.told("p0 20;p0 20;t1 0;t1 0;t1 0;");
            E.limits(0, 2, BAD, t -> x.upon(t, 0));
            E.limits(0, 1, BAD, p -> x.upon(0, p));
        });
        E.test(15, "0: it is there now", () -> E.due(Check.told("p0 20;t2 0 1;").upon(0, 0), 0));
        E.test(15, "the first time, the last place of the longest ROUND", () -> {
            StillMinutes x = Check.told("r4;p3 20;p1 20;t4 0 1 1 3;");
            E.due(x.upon(0, 0), 3);
            E.due(x.upon(0, 1), 1);
        });
        E.test(15, "behind the last place the first", () -> {
            StillMinutes x = Check.told("p0 20;t4 0 1 1 1;");
            x.second();
            E.due(x.upon(0, 0), 3);
        });
        E.test(15, "NONE: never there", () -> {
            E.due(Check.told("p1 20;t1 0;").upon(0, 0), NONE);
            E.due(Check.told("r3;p2 20;t4 0 1 0 1;").upon(0, 0), NONE);
        });
        E.test(15, "OFF: 0 or NONE", () -> {
            StillMinutes x = up("r3;d0 1 0;d1 2 0;p0 20;p0 20;t2 0 1;");
            x.carry(0, 0, 2);
            E.due(x.upon(0, 0), 0);
            E.due(x.upon(0, 1), NONE);
        });
        E.test(15, "a shut DOOR, or none, is nothing to a THING", () ->
            E.due(Check.told("d0 1 1;p1 20;t2 0 1;").upon(0, 0), 1));
    }

    private static void reach() {
        E.test(16, "no such PERSON: BAD", () -> {
            E.due(new StillMinutes().reach(0), BAD);
            StillMinutes x = Check.told("p0 20;p0 20;p0 20;p0 20;p0 20;");
            E.limits(0, 4, BAD, x::reach);
        });
        E.test(16, "no farther than STEPS: just so far, not a step more", () -> {
            for (int steps = 1; steps <= 6; steps++) {
                StillMinutes x = Check.told(LINE.replace("s5", "s" + steps) + "p0 20;p5 20;");
                E.due(x.reach(0), (2 << Math.min(steps, 5)) - 1);
                E.due(x.reach(1), 63 & ~((1 << Math.max(5 - steps, 0)) - 1));
            }
        });
        E.test(16, "those LEFT to him, if he is UP; none: his own ROOM", () -> {
            StillMinutes x = up(LINE + "p0 20;p0 20;");
            E.due(x.reach(0), 63);
            x.walk(0, 3);
            E.due(x.reach(0), 2 + 4 + 8 + 16 + 32);
            x.walk(0, 5);
            E.due(x.reach(0), 32);
            E.due(x.reach(1), 63);
        });
        E.test(16, "behind the SECOND all STEPS again, though he PRESSED", () -> {
            StillMinutes x = up(LINE + "p0 20;");
            x.walk(0, 5);
            x.second();
            E.due(x.reach(0), 63);
        });
        E.test(16, "no DOOR, or a shut one: his own ROOM alone", () -> {
            E.due(Check.told("p1 20;").reach(0), 2);
            E.due(Check.told("s20;d0 1 1;p0 20;").reach(0), 1);
        });
        E.test(16, "DOORS told in any order, either way round", () -> {
            E.due(Check.told("r6;s5;d4 5 0;d3 4 0;d2 3 0;d1 2 0;d0 1 0;p0 20;").reach(0), 63);
            E.due(Check.told("r6;s5;d5 4 0;d4 3 0;d3 2 0;d2 1 0;d1 0 0;p0 20;").reach(0), 63);
            E.due(Check.told("r6;s4;d4 5 0;d3 4 0;d2 3 0;d1 2 0;d0 1 0;p0 20;p5 20;").reach(0), 31);
            E.due(Check.told("r6;s4;d4 5 0;d3 4 0;d2 3 0;d1 2 0;d0 1 0;p0 20;p5 20;").reach(1), 62);
        });
        E.test(16, "the shortest way counts, in a ring and by a DOOR between two ROOMS that are as near", () -> {
            E.due(Check.told("r4;s2;d0 1 0;d1 2 0;d2 3 0;d3 0 0;p0 20;").reach(0), 15);
            E.due(Check.told("r3;s1;d0 1 0;d0 2 0;d1 2 0;p0 20;").reach(0), 7);
            E.due(Check.told("r3;s1;d0 1 0;d0 2 0;d2 1 0;p0 20;").reach(0), 7);
            E.due(Check.told("r3;s1;d1 2 0;d1 0 0;d2 0 0;p0 20;").reach(0), 7);
        });
    }

    private static void pressesNumbers() {
        E.test(17, "n (0 .. 12)", () -> {
            StillMinutes x = Check.told("p0 20;t1 0;");
            E.limits(0, 12, BAD, n -> x.presses(0, 0, n, 0));
            E.limits(0, 12, BAD, n -> x.presses(0, 0, n, 1));
        });
        E.test(17, "what: 0, 1 alone", () -> {
            StillMinutes x = Check.told("p0 20;t1 0;");
            E.limits(0, 1, BAD, what -> x.presses(0, 0, 0, what));
        });
        E.test(17, "no such THING or ROOM: BAD", () -> {
            StillMinutes x = Check.told("r6;p0 20;t1 0;t1 0;");
            E.limits(0, 1, BAD, t -> x.presses(t, 0, 0, 0));
            E.limits(0, 5, BAD, room -> x.presses(0, room, 0, 0));
            E.due(new StillMinutes().presses(0, 0, 0, 0), BAD);
            E.due(Check.told("p0 20;t1 0;").presses(0, 2, 0, 0), BAD);
        });
    }

    private static void pressesInTime() {
        E.test(17, "0: it is there now, or comes by itself in the last of the SECONDS", () -> {
            StillMinutes x = Check.told("r5;t4 0 1 2 3;");
            E.due(x.presses(0, 0, 0, 0), 0);
            for (int room = 1; room < 4; room++) {
                E.due(x.presses(0, room, room, 0), 0);
                E.due(x.presses(0, room, room - 1, 0), NONE);
                E.due(x.presses(0, room, 12, 0), 0);
            }
            E.due(x.presses(0, 4, 12, 0), NONE);
        });
        E.test(17, "behind the last place the first, in just so many SECONDS", () -> {
            StillMinutes x = Check.told("t4 0 1 1 1;");
            x.second();
            E.due(x.presses(0, 0, 2, 0), NONE);
            E.due(x.presses(0, 0, 3, 0), 0);
        });
        E.test(17, "where it was a SECOND ago is not where it is", () -> {
            StillMinutes x = Check.told("p0 20;t3 0 1 1;");
            x.second();
            E.due(x.presses(0, 0, 0, 0), NONE);
            E.due(x.presses(0, 0, 0, 1), 0);
            E.due(x.presses(0, 0, 1, 0), NONE);
        });
        E.test(17, "of the last THING as of the first", () -> {
            StillMinutes x = Check.told("r3;d0 1 0;p0 20;t1 2;t1 2;t1 2;t1 2;t2 0 2;");
            E.due(x.presses(0, 1, 0, 0), NONE);
            E.due(x.presses(4, 1, 0, 0), 1);
            E.due(x.presses(4, 2, 0, 0), NONE);
            E.due(x.presses(4, 2, 1, 0), 0);
        });
        E.test(17, "a press in the last of the SECONDS, not behind it", () -> {
            StillMinutes x = Check.told("r5;s1;d3 4 0;p3 20;t4 0 1 2 3;");
            E.due(x.presses(0, 4, 2, 0), NONE);
            E.due(x.presses(0, 4, 2, 1), 0);
            E.due(x.presses(0, 4, 3, 0), 1);
            E.due(x.presses(0, 4, 3, 1), 1);
        });
        E.test(17, "a press in this SECOND, from where it goes on in the others", () -> {
            StillMinutes x = Check.told("r4;s1;d0 1 0;p0 20;t4 0 0 1 3;");
            E.due(x.presses(0, 3, 0, 0), NONE);
            E.due(x.presses(0, 3, 1, 0), 1);
            E.due(x.presses(0, 3, 2, 0), 1);
            E.due(x.presses(0, 3, 3, 0), 0);
        });
        E.test(17, "carried OFF it stays, whatever n", () -> {
            StillMinutes x = Check.told("r4;s1;d0 2 0;p0 20;t2 0 1;");
            E.due(x.presses(0, 2, 0, 0), 1);
            E.due(x.presses(0, 3, 12, 0), NONE);
        });
        E.test(17, "OFF it does not come by itself, and may be carried onto its ROUND", () -> {
            StillMinutes x = up("r3;d0 2 0;p0 20;p0 20;t2 0 1;");
            x.carry(0, 0, 2);
            E.due(x.presses(0, 2, 0, 0), 0);
            E.due(x.presses(0, 1, 0, 0), NONE);
            E.due(x.presses(0, 1, 1, 0), 1);
            E.due(x.presses(0, 1, 1, 1), 2);
        });
    }

    private static void pressesByPeople() {
        E.test(17, "NONE: nobody is there", () -> {
            StillMinutes x = Check.told("d0 1 0;t1 0;");
            E.due(x.presses(0, 1, 12, 0), NONE);
            E.due(x.presses(0, 1, 12, 1), 0);
        });
        E.test(17, "just STEPS to it and on, not a step more", () -> {
            E.due(Check.told(LINE + "p0 20;t1 2;").presses(0, 5, 0, 0), 1);
            E.due(Check.told(LINE + "p0 20;t1 3;").presses(0, 1, 0, 0), 1);
            E.due(Check.told(LINE + "p0 20;t1 3;").presses(0, 0, 12, 0), NONE);
            E.due(Check.told(LINE.replace("s5", "s4") + "p0 20;t1 2;").presses(0, 5, 12, 0), NONE);
        });
        E.test(17, "from 1 to all 5 of them, in this very SECOND", () -> {
            String text = LINE.replace("s5", "s1") + "p4 20;p2 20;p0 20;p3 20;p1 20;t1 0;";
            for (int room = 0; room < 6; room++) {
                E.due(Check.told(text).presses(0, room, 0, 0), room);
            }
        });
        E.test(17, "each by another one: nobody twice", () -> {
            StillMinutes x = Check.told(LINE.replace("s5", "s2") + "p0 20;t1 0;");
            E.due(x.presses(0, 2, 12, 0), 1);
            E.due(x.presses(0, 3, 12, 0), NONE);
        });
        E.test(17, "the fewest", () -> {
            StillMinutes x = Check.told(LINE.replace("s5", "s3") + "p0 20;p1 20;p2 20;p0 20;t1 0;");
            E.due(x.presses(0, 1, 0, 0), 1);
            E.due(x.presses(0, 3, 0, 0), 1);
            E.due(x.presses(0, 4, 0, 0), 2);
        });
        E.test(17, "who is UP now does no more, with all STEPS LEFT, too", () -> {
            StillMinutes x = up("d0 1 0;p0 20;t1 0;");
            E.due(x.presses(0, 1, 12, 0), NONE);
            E.due(x.presses(0, 1, 12, 1), 0);
            E.due(x.presses(0, 0, 0, 0), 0);
            E.due(x.presses(0, 0, 0, 1), 0);
        });
        E.test(17, "none for the rest of these SECONDS, though the next DAY begins in them", () -> {
            StillMinutes x = Check.told("d0 1 0;p0 20;t1 0;");
            Check.seconds(x, 19);
            x.press(0);
            E.due(x.presses(0, 1, 12, 0), NONE);
            x.second();
            E.due(x.presses(0, 1, 0, 0), 1);
        });
    }

    private static void pressesWho() {
        E.test(17, "WHO: all not PRESSED this DAY, if it comes there by itself", () -> {
            StillMinutes x = Check.told("p0 20;p1 20;p0 20;p0 20;p0 20;t2 0 1;");
            E.due(x.presses(0, 1, 1, 1), 31);
            E.due(x.presses(0, 1, 0, 1), 0);
            x.press(1);
            E.due(x.presses(0, 1, 1, 1), 29);
        });
        E.test(17, "WHO: those who alone could; nobody where two presses are needed", () -> {
            StillMinutes x = Check.told(LINE.replace("s5", "s2") + "p0 20;p1 20;p2 20;t1 0;");
            E.due(x.presses(0, 1, 0, 1), 1 + 2);
            E.due(x.presses(0, 2, 0, 1), 1);
            E.due(x.presses(0, 3, 0, 0), 2);
            E.due(x.presses(0, 3, 0, 1), 0);
        });
        E.test(17, "WHO: the last one, the fifth", () -> {
            StillMinutes x = Check.told("r3;d0 1 0;p2 20;p2 20;p2 20;p2 20;p0 20;t1 0;");
            E.due(x.presses(0, 1, 0, 1), 16);
        });
    }

    private static StillMinutes fourFound() {
        StillMinutes x = Check.told("d0 1 0;p0 20;t1 0;t2 0 1;");
        for (int i = 0; i < 4; i++) {
            x.found(i % 2, 0, i);
        }
        return x;
    }

    private static void found() {
        E.test(18, "4 at most: FULL", () -> {
            StillMinutes x = Check.told("t1 0;");
            for (int many = 1; many <= 4; many++) {
                E.due(x.found(0, 0, 0), many);
            }
            E.due(x.found(0, 0, 0), FULL);
            E.refused(AskingEdgesTest::fourFound, FULL, y -> y.found(0, 1, 0));
            E.refused(AskingEdgesTest::fourFound, FULL, y -> y.found(0, 0, 0));
        });
        E.test(18, "n (0 .. 20)", () -> {
            E.limits(0, 20, BAD, n -> Check.told("t1 0;").found(0, 0, n));
            E.refused(() -> Check.told("p0 20;t1 0;"), BAD, x -> x.found(0, 1, 21));
            E.refused(() -> Check.told("p0 20;t1 0;"), BAD, x -> x.found(0, 1, -1));
        });
        E.test(18, "no such THING or ROOM: BAD", () -> {
            E.limits(0, 1, BAD, t -> Check.told("t1 0;t1 0;").found(t, 0, 0));
            E.limits(0, 5, BAD, room -> Check.told("r6;t1 0;").found(0, room, 0));
            E.refused(() -> Check.told("p0 20;t1 0;"), BAD, x -> x.found(1, 1, 0));
            E.refused(() -> Check.told("p0 20;t1 0;"), BAD, x -> x.found(0, 2, 0));
        });
        E.test(18, "BAD is ahead of FULL", () -> {
            E.refused(AskingEdgesTest::fourFound, BAD, x -> x.found(2, 0, 0));
            E.refused(AskingEdgesTest::fourFound, BAD, x -> x.found(0, 2, 0));
            E.refused(AskingEdgesTest::fourFound, BAD, x -> x.found(0, 0, 21));
        });
        E.test(18, "the same may be FOUND again", () -> {
            StillMinutes x = Check.told("p0 20;t1 0;");
            E.due(x.found(0, 0, 5), 1);
            E.due(x.found(0, 0, 5), 2);
            E.due(x.doneBy(), 1);
        });
    }

    private static void forget() {
        E.test(19, "nothing there was: 0", () -> {
            StillMinutes x = new StillMinutes();
            E.due(x.forget(), 0);
            E.due(x.forget(), 0);
        });
        E.test(19, "from FULL: 4, and four may be FOUND again", () -> {
            StillMinutes x = fourFound();
            E.due(x.forget(), 4);
            E.due(x.count(5), 0);
            for (int many = 1; many <= 4; many++) {
                E.due(x.found(0, 0, 0), many);
            }
            E.due(x.found(0, 0, 0), FULL);
        });
        E.test(19, "what was forgotten binds nobody", () -> {
            StillMinutes x = Check.told("p0 20;t1 0;");
            x.found(0, 1, 0);
            E.due(x.doneBy(), 0);
            x.forget();
            E.due(x.doneBy(), 1);
            x.found(0, 0, 0);
            E.due(x.doneBy(), 1);
        });
    }

    private static void doneByPeople() {
        E.test(20, "nobody is there, or all PRESSED this DAY: none", () -> {
            E.due(new StillMinutes().doneBy(), 0);
            StillMinutes x = up("p0 20;t1 0;");
            x.found(0, 0, 0);
            E.due(x.doneBy(), 0);
            x.second();
            E.due(x.doneBy(), 0);
        });
        E.test(20, "nothing FOUND: all not PRESSED this DAY", () -> {
            StillMinutes x = Check.told("p0 20;p0 20;p0 20;p0 20;p0 20;");
            E.due(x.doneBy(), 31);
            x.press(4);
            E.due(x.doneBy(), 15);
        });
        E.test(20, "the DAY's last SECOND and the next DAY's first", () -> {
            StillMinutes x = up("p0 20;");
            Check.seconds(x, 19);
            E.due(x.doneBy(), 0);
            x.second();
            E.due(x.doneBy(), 1);
        });
        E.test(20, "each for himself: one who gets nowhere has nothing of the one ahead of him", () -> {
            StillMinutes x = Check.told("r4;s5;d0 1 0;p0 20;p3 20;p0 20;p3 20;t1 0;");
            x.found(0, 1, 0);
            E.due(x.doneBy(), 1 + 4);
            E.due(x.doneBy(), 1 + 4);
        });
        E.test(20, "it is so by itself: all not PRESSED this DAY, wherever they are", () -> {
            StillMinutes x = Check.told("r3;p0 20;p2 20;t2 0 1;");
            x.found(0, 0, 0);
            x.found(0, 1, 1);
            x.found(0, 0, 20);
            E.due(x.doneBy(), 3);
        });
    }

    private static void doneBySteps() {
        E.test(20, "just STEPS to it and on, not a step more", () -> {
            StillMinutes x = Check.told(LINE + "p0 20;p1 20;t1 2;");
            x.found(0, 5, 0);
            E.due(x.doneBy(), 3);
            x = Check.told(LINE.replace("s5", "s4") + "p0 20;p1 20;t1 2;");
            x.found(0, 5, 0);
            E.due(x.doneBy(), 2);
            x = Check.told(LINE.replace("s5", "s4") + "p1 20;p0 20;t1 2;");
            x.found(0, 5, 0);
            E.due(x.doneBy(), 1);
            x = Check.told(LINE.replace("s5", "s3") + "p0 20;p1 20;t1 2;");
            x.found(0, 5, 0);
            E.due(x.doneBy(), 0);
        });
        E.test(20, "all by one press: just STEPS for all of the THINGS", () -> {
            StillMinutes x = Check.told(LINE + "p0 20;t1 0;t1 2;");
            x.found(0, 2, 0);
            x.found(1, 5, 0);
            E.due(x.doneBy(), 1);
            x = Check.told(LINE.replace("s5", "s4") + "p0 20;t1 0;t1 2;");
            x.found(0, 2, 0);
            x.found(1, 5, 0);
            E.due(x.doneBy(), 0);
        });
        E.test(20, "THINGS in order of their numbers, not in that of the finds", () -> {
            StillMinutes x = Check.told("r3;s4;d0 1 0;d1 2 0;p0 20;t1 0;t1 2;");
            x.found(1, 0, 0);
            x.found(0, 2, 0);
            E.due(x.doneBy(), 1);
            x = Check.told("r3;s4;d0 1 0;d1 2 0;p0 20;t1 2;t1 0;");
            x.found(1, 2, 0);
            x.found(0, 0, 0);
            E.due(x.doneBy(), 0);
        });
        E.test(20, "to any ROOM: to another one than was FOUND, from where it comes there", () -> {
            StillMinutes x = Check.told("r4;s1;d0 1 0;p0 20;t4 0 2 1 3;");
            x.found(0, 3, 1);
            E.due(x.doneBy(), 1);
            x.forget();
            x.found(0, 2, 2);
            E.due(x.doneBy(), 0);
            x.found(0, 1, 0);
            E.due(x.doneBy(), 0);
        });
        E.test(20, "to the ROOM where it is: from the first place that is it", () -> {
            StillMinutes x = Check.told("s1;p1 20;t3 0 1 1;");
            Check.seconds(x, 2);
            x.found(0, 1, 0);
            E.due(x.doneBy(), 1);
            x.found(0, 1, 1);
            E.due(x.doneBy(), 1);
            x.found(0, 0, 2);
            E.due(x.doneBy(), 1);
            x.found(0, 0, 1);
            E.due(x.doneBy(), 0);
        });
    }

    private static void doneByFinds() {
        E.test(20, "n 0 and n 20 of the finds", () -> {
            StillMinutes x = Check.told("r3;d0 1 0;p0 20;t3 0 1 2;");
            x.found(0, 1, 0);
            E.due(x.doneBy(), 1);
            x.found(0, 0, 20);
            E.due(x.doneBy(), 1);
            x.found(0, 1, 20);
            E.due(x.doneBy(), 0);
        });
        E.test(20, "finds that gainsay one another: nobody", () -> {
            StillMinutes x = Check.told("d0 1 0;p0 20;t1 0;");
            x.found(0, 0, 3);
            x.found(0, 1, 3);
            E.due(x.doneBy(), 0);
        });
        E.test(20, "all 4 finds count, the first and the last", () -> {
            StillMinutes x = Check.told("d0 1 0;p0 20;t1 0;t1 0;t1 0;t1 0;");
            for (int t = 0; t < 4; t++) {
                x.found(t, 0, 0);
            }
            E.due(x.doneBy(), 1);
            for (int wrong = 0; wrong < 4; wrong++) {
                x = Check.told("d0 1 1;p0 20;t1 0;t1 0;t1 0;t1 0;");
                for (int t = 0; t < 4; t++) {
                    x.found(t, t == wrong ? 1 : 0, 0);
                }
                E.due(x.doneBy(), 0);
            }
        });
        E.test(20, "a THING not FOUND is not CARRIED: it takes no step", () -> {
            StillMinutes x = Check.told("r3;s1;d0 1 0;p0 20;t1 2;t1 0;");
            x.found(1, 1, 0);
            E.due(x.doneBy(), 1);
            x = Check.told("r3;s1;d0 1 0;p0 20;t1 0;t1 0;t1 0;t1 0;t1 2;");
            for (int t = 0; t < 4; t++) {
                x.found(t, 0, 0);
            }
            E.due(x.doneBy(), 1);
        });
        E.test(20, "a THING that is OFF", () -> {
            StillMinutes x = up("r3;d0 1 0;d1 2 0;p0 20;p2 20;p2 20;t2 0 1;");
            x.carry(0, 0, 2);
            x.found(0, 2, 20);
            E.due(x.doneBy(), 6);
            x.forget();
            x.found(0, 1, 1);
            E.due(x.doneBy(), 6);
            x.found(0, 0, 0);
            E.due(x.doneBy(), 6);
            x.found(0, 2, 0);
            E.due(x.doneBy(), 0);
        });
    }

    private static void guard() {
        E.test(21, "no such THING or ROOM: BAD", () -> {
            E.due(new StillMinutes().guard(0, 0), BAD);
            StillMinutes x = Check.told("r6;t1 0;t1 0;");
            E.limits(0, 1, BAD, t -> x.guard(t, 0));
            E.limits(0, 5, BAD, room -> x.guard(0, room));
            E.due(Check.told("t1 0;").guard(0, 2), BAD);
        });
        E.test(21, "nobody could anyway: no DOOR", () -> {
            E.due(Check.told("d0 1 0;t1 0;").guard(0, 1), 0);
            E.due(Check.told("d0 1 1;p0 20;t1 0;").guard(0, 1), 0);
            E.due(Check.told("p0 20;t1 0;").guard(0, 1), 0);
            E.due(up("d0 1 0;p0 20;t1 0;").guard(0, 1), 0);
        });
        E.test(21, "nobody (not PRESSED this DAY): to its end", () -> {
            StillMinutes x = up("d0 1 0;p0 20;t1 0;");
            Check.seconds(x, 19);
            E.due(x.guard(0, 1), 0);
            x.second();
            E.due(x.guard(0, 1), 1);
        });
        E.test(21, "just STEPS: a way so long is shut, a longer one is not", () -> {
            E.due(Check.told(LINE + "p0 20;t1 0;").guard(0, 5), 1);
            E.due(Check.told(LINE.replace("s5", "s4") + "p0 20;t1 0;").guard(0, 5), 0);
            String ring = "r4;d0 1 0;d0 2 0;d2 3 0;d3 1 0;p0 20;t1 0;";
            E.due(Check.told(ring.replace("r4;", "r4;s3;")).guard(0, 1), 1 + 2);
            E.due(Check.told(ring.replace("r4;", "r4;s2;")).guard(0, 1), 1);
        });
        E.test(21, "NONE: no DOOR keeps him who is there with it from the ROOM where it is", () -> {
            E.due(Check.told("p0 20;t1 0;").guard(0, 0), NONE);
            E.due(Check.told("d0 1 0;p0 20;t1 0;").guard(0, 0), NONE);
        });
        E.test(21, "all 8 DOORS", () -> {
            E.due(Check.told("d0 1 0;".repeat(8) + "p0 20;t1 0;").guard(0, 1), 255);
            E.due(Check.told("d0 1 0;".repeat(8) + "p0 20;t1 1;").guard(0, 0), 255);
        });
        E.test(21, "of open DOORS alone", () ->
            E.due(Check.told("d0 1 1;d0 1 0;d1 0 1;d1 0 0;p0 20;t1 0;").guard(0, 1), 2 + 8));
    }

    private static void guardLeast() {
        E.test(21, "of as few the least bits", () -> {
            E.due(Check.told("r4;d0 1 0;d1 2 0;d2 3 0;p0 20;t1 0;").guard(0, 3), 1);
            E.due(Check.told("r4;d0 1 0;d0 2 0;d1 3 0;d2 3 0;p0 20;t1 0;").guard(0, 3), 1 + 2);
            E.due(Check.told("r4;d0 1 0;d1 3 0;d0 2 0;d2 3 0;p0 20;t1 0;").guard(0, 3), 1 + 4);
        });
        E.test(21, "fewer DOORS are ahead of less bits", () -> {
            E.due(Check.told("r3;d0 1 0;d0 1 0;d1 2 0;p0 20;t1 0;").guard(0, 2), 4);
            E.due(Check.told("r3;" + "d0 1 0;".repeat(7) + "d1 2 0;p0 20;t1 0;").guard(0, 2), 128);
        });
        E.test(21, "nobody of all of them, be it the way to the THING or the way from it", () -> {
            E.due(Check.told("r3;d0 1 0;d1 2 0;p0 20;p2 20;t1 1;").guard(0, 0), 1);
            E.due(Check.told("r3;d0 1 0;d1 2 0;p0 20;p2 20;t1 1;").guard(0, 1), 3);
            E.due(Check.told("r3;d0 1 0;d1 2 0;p0 20;t1 1;").guard(0, 2), 1);
        });
        E.test(21, "the DOORS stay as they are", () -> {
            StillMinutes x = Check.told("d0 1 0;p0 20;t1 0;");
            E.due(x.guard(0, 1), 1);
            E.due(x.door(0, 2), 0);
            E.due(x.reach(0), 3);
        });
    }

    private static void taking() {
        E.test(22, "no such PERSON: NO", () -> {
            E.due(new StillMinutes().taking(0, 1), NO);
            StillMinutes x = Check.told("p0 20;p0 20;p0 20;t1 0;");
            for (int p : new int[] {-1, 3, 5, Integer.MIN_VALUE, Integer.MAX_VALUE}) {
                E.due(x.taking(p, 0), NO);
                E.due(x.taking(0, p), NO);
                E.due(x.taking(p, p), NO);
            }
        });
        E.test(22, "two PEOPLE (unlike): else NO", () -> {
            StillMinutes x = Check.told("p0 20;p0 20;t1 0;");
            E.due(x.taking(0, 0), NO);
            E.due(x.taking(1, 1), NO);
            E.due(x.taking(0, 1), 1);
            E.due(x.taking(1, 0), 1);
        });
        E.test(22, "nothing to take: 0", () -> {
            E.due(Check.told("p0 20;p0 20;").taking(0, 1), 0);
            E.due(Check.told("p0 20;p0 20;t1 1;").taking(0, 1), 0);
        });
        E.test(22, "by how many: -5 to 5", () -> {
            StillMinutes x = Check.told("p0 20;p1 20;" + "t1 0;".repeat(5));
            E.due(x.taking(0, 1), 5);
            E.due(x.taking(1, 0), -5);
        });
        E.test(22, "the first begins, by turns", () -> {
            for (int things = 0; things <= 5; things++) {
                E.due(Check.told("p0 20;p0 20;" + "t1 0;".repeat(things)).taking(0, 1), things % 2);
            }
        });
        E.test(22, "just STEPS, not a step more", () -> {
            E.due(Check.told(LINE + "p0 20;p0 20;t1 5;").taking(0, 1), 1);
            E.due(Check.told(LINE.replace("s5", "s4") + "p0 20;p0 20;t1 5;").taking(0, 1), 0);
        });
        E.test(22, "going to it from where he is: just STEPS for all that he takes, not a step more", () -> {
            E.due(Check.told(LINE.replace("s5", "s3") + "p1 20;p5 20;t1 0;t1 2;").taking(0, 1), 2);
            E.due(Check.told(LINE.replace("s5", "s2") + "p1 20;p5 20;t1 0;t1 2;").taking(0, 1), 1);
            E.due(Check.told(LINE.replace("s5", "s3") + "p1 20;p5 20;t1 0;t1 1;t1 2;").taking(0, 1), 3);
            E.due(Check.told(LINE.replace("s5", "s2") + "p1 20;p5 20;t1 0;t1 1;t1 2;").taking(0, 1), 2);
        });
        E.test(22, "who has ended for good leaves the others to the other one", () -> {
            StillMinutes x = Check.told("r3;d0 1 0;p2 20;p0 20;t1 2;t1 0;t1 1;t1 0;");
            E.due(x.taking(0, 1), -2);
            E.due(x.taking(1, 0), 2);
        });
        E.test(22, "both UP with all STEPS, though they PRESSED, or have none LEFT", () -> {
            StillMinutes x = up("s1;d0 1 0;p0 20;p0 20;t1 0;");
            x.walk(0, 1);
            E.due(x.person(0, 3), 0);
            E.due(x.taking(0, 1), 1);
        });
    }

    private static long common(long a, long b) {
        return b == 0 ? a : common(b, a % b);
    }

    private static void odds() {
        E.test(23, "x (0 .. 10), k (0 .. 5), what 0, 1", () -> {
            StillMinutes x = Check.told("p0 20;");
            E.limits(0, 10, BAD, by -> x.odds(by, 0, 0));
            E.limits(0, 5, BAD, k -> x.odds(5, k, 1));
            E.limits(0, 1, BAD, what -> x.odds(5, 1, what));
        });
        E.test(23, "more than there are: 0 of 1", () -> {
            for (int people = 0; people < 5; people++) {
                StillMinutes x = Check.told("p0 20;".repeat(people));
                for (int k = people + 1; k <= 5; k++) {
                    E.due(x.odds(5, k, 0), 0);
                    E.due(x.odds(5, k, 1), 1);
                }
            }
        });
        E.test(23, "x 0: nobody; x 10: all", () -> {
            for (int people = 0; people <= 5; people++) {
                StillMinutes x = Check.told("p0 20;".repeat(people));
                for (int k = 0; k <= 5; k++) {
                    E.due(x.odds(0, k, 0), k == 0 ? 1 : 0);
                    E.due(x.odds(0, k, 1), 1);
                    E.due(x.odds(10, k, 0), k == people ? 1 : 0);
                    E.due(x.odds(10, k, 1), 1);
                }
            }
        });
        E.test(23, "in least terms; all of k are one whole", () -> {
            for (int by = 0; by <= 10; by++) {
                StillMinutes x = Check.told("p0 20;".repeat(5));
                long whole = 0;
                for (int k = 0; k <= 5; k++) {
                    long upper = x.odds(by, k, 0);
                    long lower = x.odds(by, k, 1);
                    E.due(common(upper, lower), 1);
                    E.due(100000 % lower, 0);
                    whole += upper * (100000 / lower);
                }
                E.due(whole, 100000);
            }
        });
        E.test(23, "the largest lower number", () -> {
            StillMinutes x = Check.told("p0 20;".repeat(5));
            E.due(x.odds(1, 5, 0), 1);
            E.due(x.odds(1, 5, 1), 100000);
            E.due(x.odds(9, 5, 0), 59049);
            E.due(x.odds(9, 5, 1), 100000);
        });
        E.test(23, "PEOPLE not PRESSED this DAY, till its end", () -> {
            StillMinutes x = up("p0 20;p0 20;");
            E.due(x.odds(5, 1, 1), 2);
            E.due(x.odds(5, 2, 0), 0);
            Check.seconds(x, 19);
            E.due(x.odds(5, 2, 0), 0);
            x.second();
            E.due(x.odds(5, 2, 0), 1);
            E.due(x.odds(5, 2, 1), 4);
        });
    }

    private static void worth() {
        E.test(24, "no such PERSON: BAD", () -> {
            E.due(new StillMinutes().worth(0), BAD);
            StillMinutes x = Check.told("p0 20;p0 20;t1 0;");
            E.limits(0, 1, BAD, x::worth);
        });
        E.test(24, "no THING, or no way: 0", () -> {
            E.due(Check.told("d0 1 0;p0 20;").worth(0), 0);
            E.due(Check.told("d0 1 1;p0 20;t1 0;").worth(0), 0);
            E.due(Check.told("d0 1 1;p0 20;t1 1;").worth(0), 0);
        });
        E.test(24, "the most pairs: five THINGS, five ROOMS each", () ->
            E.due(Check.told(LINE.replace("s5", "s10") + "p0 20;" + "t1 5;".repeat(5)).worth(0), 25));
        E.test(24, "a ROOM where it is not: its own is no pair", () ->
            E.due(Check.told("d0 1 0;p0 20;t1 0;").worth(0), 1));
        E.test(24, "just STEPS, not a step more", () -> {
            E.due(Check.told(LINE + "p0 20;t1 0;").worth(0), 5);
            E.due(Check.told(LINE.replace("s5", "s4") + "p0 20;t1 0;").worth(0), 4);
            E.due(Check.told(LINE + "p0 20;t1 4;").worth(0), 2);
            E.due(Check.told(LINE + "p0 20;t1 5;").worth(0), 0);
        });
        E.test(24, "with all STEPS, though he PRESSED or has none LEFT", () -> {
            StillMinutes x = up("s1;d0 1 0;p0 20;t1 1;");
            E.due(x.worth(0), 0);
            x.walk(0, 1);
            E.due(x.person(0, 3), 0);
            E.due(x.worth(0), 1);
            x.second();
            E.due(x.worth(0), 1);
        });
    }

    private static StillMinutes busy() {
        StillMinutes x = Check.told("r4;s3;d0 1 0;d1 2 0;d2 3 1;p0 20;p1 59;t2 0 1;t1 2;");
        x.second();
        x.keep(0);
        x.press(1);
        x.carry(1, 0, 2);
        x.found(1, 2, 3);
        Check.type(x, "s7");
        return x;
    }

    private static void nothingIsChanged() {
        E.test(14, "nothing is changed by WHERE", () -> E.unchanged(AskingEdgesTest::busy, x -> x.where(0, 100)));
        E.test(15, "nothing is changed by UPON", () -> E.unchanged(AskingEdgesTest::busy, x -> x.upon(0, 0)));
        E.test(16, "nothing is changed by REACH", () -> E.unchanged(AskingEdgesTest::busy, x -> x.reach(1)));
        E.test(17, "nothing is changed by PRESSES", () -> {
            E.unchanged(AskingEdgesTest::busy, x -> x.presses(0, 0, 12, 0));
            E.unchanged(AskingEdgesTest::busy, x -> x.presses(1, 0, 12, 1));
        });
        E.test(20, "nothing is changed by DONE BY", () -> E.unchanged(AskingEdgesTest::busy, StillMinutes::doneBy));
        E.test(21, "nothing is changed by GUARD", () -> E.unchanged(AskingEdgesTest::busy, x -> x.guard(1, 0)));
        E.test(22, "nothing is changed by TAKING", () -> E.unchanged(AskingEdgesTest::busy, x -> x.taking(0, 1)));
        E.test(23, "nothing is changed by ODDS", () -> E.unchanged(AskingEdgesTest::busy, x -> x.odds(5, 1, 0)));
        E.test(24, "nothing is changed by WORTH", () -> E.unchanged(AskingEdgesTest::busy, x -> x.worth(1)));
    }
}
