/** The edges of promises 5 to 13: what is looked at, what is done and taken back. */
public final class DoingEdgesTest {
    private static final int BAD = Edge.BAD, STATE = Edge.STATE, NONE = Edge.NONE;
    private static final Edge E = new Edge();
    // Six rooms in a row, five steps: just from one end to the other.
    private static final String LINE = "r6;s5;d0 1 0;d1 2 0;d2 3 0;d3 4 0;d4 5 0;";
    private static final String EIGHT_DOORS = LINE + "d0 5 1;d1 4 1;d5 3 1;";

    public static void main(String[] args) {
        door();
        person();
        thing();
        now();
        second();
        theLastSecond();
        press();
        carry();
        carriedThing();
        walk();
        undo();
        undone();
        E.end();
    }

    private static void door() {
        E.test(5, "no such DOOR: BAD, with none, with one, with eight", () -> {
            E.due(new StillMinutes().door(0, 0), BAD);
            E.due(Check.told("d0 1 0;").door(1, 0), BAD);
            StillMinutes x = Check.told(EIGHT_DOORS);
            E.limits(0, 7, BAD, d -> x.door(d, 0));
            E.limits(0, 7, BAD, d -> x.door(d, 2));
        });
        E.test(5, "what: 0, 1, 2 alone", () -> {
            StillMinutes x = Check.told(EIGHT_DOORS);
            E.limits(0, 2, BAD, what -> x.door(0, what));
            E.limits(0, 2, BAD, what -> x.door(7, what));
        });
        E.test(5, "the first and the last DOOR", () -> {
            StillMinutes x = Check.told(EIGHT_DOORS);
            E.due(x.door(0, 0), 0);
            E.due(x.door(0, 1), 1);
            E.due(x.door(0, 2), 0);
            E.due(x.door(7, 0), 5);
            E.due(x.door(7, 1), 3);
            E.due(x.door(7, 2), 1);
        });
    }

    private static void person() {
        E.test(6, "no such PERSON: BAD, with none, with one, with five", () -> {
            E.due(new StillMinutes().person(0, 0), BAD);
            E.due(Check.told("p0 20;").person(1, 0), BAD);
            StillMinutes x = Check.told("p0 10;p0 20;p0 30;p0 40;p1 60;");
            E.limits(0, 4, BAD, p -> x.person(p, 1));
            E.due(x.person(4, 0), 1);
            E.due(x.person(4, 1), 60);
        });
        E.test(6, "what: 0 .. 3", () -> {
            StillMinutes x = Check.told("p0 20;");
            E.limits(0, 3, BAD, what -> x.person(0, what));
        });
        E.test(6, "STEPS LEFT: none of them is 0, not UP is NONE", () -> {
            StillMinutes x = Check.told("s1;d0 1 0;p0 20;");
            E.due(x.person(0, 3), NONE);
            x.press(0);
            E.due(x.person(0, 3), 1);
            x.walk(0, 1);
            E.due(x.person(0, 3), 0);
            x.second();
            E.due(x.person(0, 3), NONE);
        });
        E.test(6, "whether he PRESSED this DAY: till the DAY's end, while he is not UP, too", () -> {
            StillMinutes x = Check.told("p0 20;");
            E.due(x.person(0, 2), 0);
            x.press(0);
            E.due(x.person(0, 2), 1);
            Check.seconds(x, 19);
            E.due(x.person(0, 2), 1);
            x.second();
            E.due(x.person(0, 2), 0);
        });
    }

    private static void thing() {
        E.test(7, "no such THING: BAD, with none, with one, with five", () -> {
            E.due(new StillMinutes().thing(0, 0), BAD);
            E.due(Check.told("t1 0;").thing(1, 0), BAD);
            StillMinutes x = Check.told("t1 0;t1 0;t1 0;t1 0;t4 1 0 1 0;");
            E.limits(0, 4, BAD, t -> x.thing(t, 0));
            E.due(x.thing(4, 0), 1);
            E.due(x.thing(4, 2), 4);
        });
        E.test(7, "what: 0, 1, 2 alone", () -> {
            StillMinutes x = Check.told("t2 1 0;");
            E.limits(0, 2, BAD, what -> x.thing(0, what));
        });
        E.test(7, "the first ROOM of its ROUND at first", () -> {
            StillMinutes x = Check.told("r6;t4 5 4 3 2;");
            E.due(x.thing(0, 0), 5);
            E.due(x.thing(0, 1), 0);
        });
        E.test(7, "the place in its ROUND, NONE: OFF; it has a ROOM and its ROUND then, too", () -> {
            StillMinutes x = Check.told("r3;d0 1 0;d1 2 0;p0 20;t2 0 1;");
            x.press(0);
            x.carry(0, 0, 2);
            E.due(x.thing(0, 0), 2);
            E.due(x.thing(0, 1), NONE);
            E.due(x.thing(0, 2), 2);
        });
    }

    private static void now() {
        E.test(8, "what: 0 .. 4", () -> {
            StillMinutes x = new StillMinutes();
            E.limits(0, 4, BAD, x::now);
        });
        E.test(8, "the DAY: 20 SECONDS each, by 20, cut", () -> {
            StillMinutes x = new StillMinutes();
            for (int second = 1; second <= 61; second++) {
                E.due(x.second(), second);
                E.due(x.now(0), second);
                E.due(x.now(1), second < 20 ? 0 : second < 40 ? 1 : second < 60 ? 2 : 3);
            }
        });
        E.test(8, "who is UP, who PRESSED this DAY: nobody, one, all five", () -> {
            StillMinutes x = Check.told("p0 20;p0 20;p0 20;p0 20;p0 20;");
            E.due(x.now(2), 0);
            E.due(x.now(3), 0);
            x.press(4);
            E.due(x.now(2), 16);
            E.due(x.now(3), 16);
            x.second();
            E.due(x.now(2), 0);
            E.due(x.now(3), 16);
            for (int p = 0; p < 4; p++) {
                x.press(p);
            }
            E.due(x.now(2), 15);
            E.due(x.now(3), 31);
        });
        E.test(8, "how many may be UNDONE: 0 to 10", () -> {
            StillMinutes x = new StillMinutes();
            for (int done = 0; done <= 12; done++) {
                E.due(x.now(4), Math.min(done, 10));
                x.second();
            }
        });
    }

    private static void second() {
        E.test(9, "each THING is in the next ROOM of its ROUND, behind the last one the first", () -> {
            StillMinutes x = Check.told("r6;t1 3;t2 0 1;t3 2 3 4;t4 5 4 5 0;");
            int[][] rounds = {{3}, {0, 1}, {2, 3, 4}, {5, 4, 5, 0}};
            for (int second = 1; second <= 13; second++) {
                x.second();
                for (int t = 0; t < 4; t++) {
                    int place = second % rounds[t].length;
                    E.due(x.thing(t, 1), place);
                    E.due(x.thing(t, 0), rounds[t][place]);
                }
            }
        });
        E.test(9, "a THING that is OFF stays", () -> {
            StillMinutes x = Check.told("r3;d0 1 0;d1 2 0;p0 20;t2 0 1;t2 0 1;");
            x.press(0);
            x.carry(0, 0, 2);
            Check.seconds(x, 3);
            E.due(x.thing(0, 0), 2);
            E.due(x.thing(0, 1), NONE);
            E.due(x.thing(1, 1), 1);
        });
        E.test(9, "UP till THE SECOND goes by, all of them", () -> {
            StillMinutes x = Check.told("p0 20;p0 20;p0 20;p0 20;p0 20;");
            for (int p = 0; p < 5; p++) {
                x.press(p);
            }
            E.due(x.now(2), 31);
            x.second();
            E.due(x.now(2), 0);
            for (int p = 0; p < 5; p++) {
                E.due(x.person(p, 3), NONE);
                E.due(x.walk(p, 0), STATE);
            }
        });
        E.test(9, "PEOPLE stay where they are, AGE too", () -> {
            StillMinutes x = Check.told("d0 1 0;p0 20;");
            x.press(0);
            x.walk(0, 1);
            x.second();
            E.due(x.person(0, 0), 1);
            E.due(x.person(0, 1), 21);
        });
        E.test(9, "with nobody and nothing", () -> {
            StillMinutes x = new StillMinutes();
            E.due(x.second(), 1);
            E.due(x.second(), 2);
        });
    }

    private static StillMinutes atTheEnd() {
        StillMinutes x = Check.told("d0 1 0;p0 20;t3 0 1 1;");
        Check.seconds(x, 9999);
        return x;
    }

    // Behind its 512th call what an object answers is free, but these edges can be seen nowhere else.
    private static void theLastSecond() {
        E.test(9, "9999 at most: STATE", () -> {
            StillMinutes x = Check.told("p0 20;");
            Check.seconds(x, 9998);
            E.due(x.second(), 9999);
            E.due(x.now(1), 499);
            E.refused(DoingEdgesTest::atTheEnd, STATE, StillMinutes::second);
        });
        E.test(9, "9999: what is UP stays so", () -> {
            StillMinutes x = atTheEnd();
            E.due(x.press(0), 21);
            E.due(x.second(), STATE);
            E.due(x.now(2), 1);
            E.due(x.walk(0, 1), 9);
        });
        E.test(14, "past SECOND 9999, too: WHERE", () -> {
            StillMinutes x = atTheEnd();
            E.due(x.thing(0, 1), 0);
            E.due(x.where(0, 0), 0);
            E.due(x.where(0, 1), 1);
            E.due(x.where(0, 99), 0);
            E.due(x.where(0, 100), 1);
        });
        E.test(15, "past SECOND 9999, too: UPON", () -> {
            StillMinutes x = atTheEnd();
            x.press(0);
            x.walk(0, 1);
            E.due(x.upon(0, 0), 1);
        });
        E.test(17, "past SECOND 9999, too: PRESSES", () -> {
            StillMinutes x = atTheEnd();
            E.due(x.presses(0, 1, 0, 0), 1);
            E.due(x.presses(0, 1, 1, 0), 0);
        });
        E.test(20, "past SECOND 9999, too: FOUND", () -> {
            StillMinutes x = atTheEnd();
            x.found(0, 1, 20);
            E.due(x.doneBy(), 1);
            x.found(0, 0, 19);
            E.due(x.doneBy(), 0);
        });
    }

    private static StillMinutes pressedOnce() {
        StillMinutes x = Check.told("p0 20;p1 30;t1 0;");
        x.press(0);
        return x;
    }

    private static void press() {
        E.test(10, "the AGE then: 1 more, beyond 60, too", () -> {
            StillMinutes x = Check.told("p0 10;p0 60;");
            E.due(x.press(0), 11);
            E.due(x.press(1), 61);
            E.due(x.person(1, 1), 61);
            Check.seconds(x, 20);
            E.due(x.press(1), 62);
        });
        E.test(10, "no such PERSON: BAD", () -> {
            for (int p : new int[] {-1, 2, 5, 32, Integer.MIN_VALUE, Integer.MAX_VALUE}) {
                E.refused(DoingEdgesTest::pressedOnce, BAD, x -> x.press(p));
            }
        });
        E.test(10, "STATE: he did that DAY, while he is UP", () ->
            E.refused(DoingEdgesTest::pressedOnce, STATE, x -> x.press(0)));
        E.test(10, "STATE: he did that DAY, till its last SECOND", () -> {
            for (int seconds = 1; seconds <= 19; seconds++) {
                StillMinutes x = pressedOnce();
                Check.seconds(x, seconds);
                E.due(x.press(0), STATE);
                E.due(x.person(0, 1), 21);
                E.due(x.person(0, 3), NONE);
            }
        });
        E.test(10, "the next DAY's first SECOND: he may again", () -> {
            StillMinutes x = pressedOnce();
            Check.seconds(x, 20);
            E.due(x.press(0), 22);
            E.due(x.press(0), STATE);
        });
        E.test(10, "a DAY's last SECOND, and the next DAY's first", () -> {
            StillMinutes x = Check.told("p0 20;");
            Check.seconds(x, 19);
            E.due(x.press(0), 21);
            E.due(x.press(0), STATE);
            x.second();
            E.due(x.press(0), 22);
            Check.seconds(x, 19);
            E.due(x.now(0), 39);
            E.due(x.press(0), STATE);
            x.second();
            E.due(x.press(0), 23);
        });
        E.test(10, "another one's watch is his own", () -> {
            StillMinutes x = pressedOnce();
            E.due(x.press(1), 31);
            E.due(x.now(2), 3);
        });
        E.test(10, "he may do STEPS steps, of 1 and of 20", () -> {
            StillMinutes x = Check.told("s1;p0 20;");
            x.press(0);
            E.due(x.person(0, 3), 1);
            x = Check.told("s20;p0 20;");
            x.press(0);
            E.due(x.person(0, 3), 20);
        });
    }

    private static StillMinutes upInLine(String more) {
        StillMinutes x = Check.told(LINE + more);
        x.press(0);
        return x;
    }

    private static void carry() {
        E.test(11, "no such PERSON, THING or ROOM: BAD", () -> {
            for (int number : new int[] {-1, 6, 7, Integer.MIN_VALUE, Integer.MAX_VALUE}) {
                E.refused(() -> upInLine("p0 20;t1 0;"), BAD, x -> x.carry(number, 0, 0));
                E.refused(() -> upInLine("p0 20;t1 0;"), BAD, x -> x.carry(0, number, 0));
                E.refused(() -> upInLine("p0 20;t1 0;"), BAD, x -> x.carry(0, 0, number));
            }
            E.refused(() -> upInLine("p0 20;t1 0;"), BAD, x -> x.carry(1, 0, 0));
            E.refused(() -> upInLine("p0 20;t1 0;"), BAD, x -> x.carry(0, 1, 0));
        });
        E.test(11, "BAD is ahead of STATE", () -> {
            E.refused(() -> Check.told("p0 20;t1 0;"), BAD, x -> x.carry(0, 0, 2));
            E.refused(() -> Check.told("p0 20;t1 0;"), BAD, x -> x.carry(0, 1, 0));
        });
        E.test(11, "STATE: he is not UP, ahead of a press, behind the SECOND, nor is it enough that another one is", () -> {
            E.refused(() -> Check.told("p0 20;t1 0;"), STATE, x -> x.carry(0, 0, 0));
            E.refused(() -> {
                StillMinutes x = upInLine("p0 20;t1 0;");
                x.second();
                return x;
            }, STATE, x -> x.carry(0, 0, 0));
            E.refused(() -> upInLine("p0 20;p0 20;t1 0;"), STATE, x -> x.carry(1, 0, 0));
        });
        E.test(11, "just as many STEPS as LEFT: 0", () -> {
            E.due(upInLine("p0 20;t1 0;").carry(0, 0, 5), 0);
            E.due(upInLine("p0 20;t1 5;").carry(0, 0, 5), 0);
            E.due(upInLine("p0 20;t1 2;").carry(0, 0, 5), 0);
            E.due(upInLine("p0 20;t1 3;").carry(0, 0, 1), 0);
        });
        E.test(11, "STATE: a step more than are LEFT", () -> {
            E.refused(() -> upInLine("p0 20;t1 5;"), STATE, x -> x.carry(0, 0, 4));
            E.refused(() -> upInLine("p0 20;t1 3;"), STATE, x -> x.carry(0, 0, 0));
            E.refused(() -> {
                StillMinutes x = upInLine("p0 20;t1 1;t1 4;");
                x.carry(0, 0, 4);
                return x;
            }, STATE, x -> x.carry(0, 1, 2));
        });
        E.test(11, "no step at all: he stays, all STEPS are LEFT", () -> {
            StillMinutes x = upInLine("p0 20;t1 0;");
            E.due(x.carry(0, 0, 0), 5);
            E.due(x.person(0, 0), 0);
            E.due(x.thing(0, 1), 0);
            E.due(x.now(4), 2);
        });
        E.test(11, "none LEFT: what needs no step may be done", () -> {
            StillMinutes x = upInLine("p0 20;t1 0;");
            E.due(x.carry(0, 0, 5), 0);
            E.due(x.carry(0, 0, 5), 0);
            E.due(x.carry(0, 0, 4), STATE);
        });
        E.test(11, "STATE: no open DOOR leads there", () -> {
            E.refused(() -> up("r3;d0 1 0;d1 2 1;p0 20;t1 0;"), STATE, x -> x.carry(0, 0, 2));
            E.refused(() -> up("r3;d0 1 0;d1 2 1;p0 20;t1 2;"), STATE, x -> x.carry(0, 0, 0));
            E.refused(() -> up("r3;d0 1 0;d1 2 1;p0 20;t1 2;"), STATE, x -> x.carry(0, 0, 2));
            E.refused(() -> up("s20;p0 20;t1 0;"), STATE, x -> x.carry(0, 0, 1));
        });
        E.test(11, "he is there then, too, and so many STEPS less are LEFT", () -> {
            StillMinutes x = upInLine("p0 20;t1 1;t1 2;");
            E.due(x.carry(0, 0, 2), 3);
            E.due(x.person(0, 0), 2);
            E.due(x.person(0, 3), 3);
            E.due(x.carry(0, 1, 5), 0);
            E.due(x.person(0, 0), 5);
        });
    }

    private static StillMinutes up(String text) {
        StillMinutes x = Check.told(text);
        x.press(0);
        return x;
    }

    private static void carriedThing() {
        E.test(11, "the shortest way, through DOORS told either way round", () -> {
            StillMinutes x = up("r5;d1 0 0;d2 1 0;d3 2 0;d3 4 0;d4 0 0;p0 20;t1 3;");
            E.due(x.carry(0, 0, 2), 7);
            E.due(x.carry(0, 0, 0), 5);
        });
        E.test(11, "the THING goes on from the first place of its ROUND that is that ROOM", () -> {
            StillMinutes x = up("r3;d0 1 0;d1 2 0;p0 20;t4 0 1 2 1;");
            E.due(x.carry(0, 0, 1), 9);
            E.due(x.thing(0, 1), 1);
            E.due(x.carry(0, 0, 2), 8);
            E.due(x.thing(0, 1), 2);
            x.second();
            E.due(x.thing(0, 1), 3);
            E.due(x.press(0), STATE);
        });
        E.test(11, "the first place, where it is there by a later one, too", () -> {
            StillMinutes x = Check.told("d0 1 0;p1 20;t4 0 1 1 1;");
            Check.seconds(x, 3);
            E.due(x.thing(0, 1), 3);
            x.press(0);
            E.due(x.carry(0, 0, 1), 10);
            E.due(x.thing(0, 1), 1);
        });
        E.test(11, "the last place of its ROUND, if none ahead is that ROOM; then the first again", () -> {
            StillMinutes x = up("d0 1 0;p0 20;t4 0 0 0 1;");
            E.due(x.carry(0, 0, 1), 9);
            E.due(x.thing(0, 1), 3);
            x.second();
            E.due(x.thing(0, 1), 0);
        });
        E.test(11, "OFF, if none is; in ROOM 0 as in the last one", () -> {
            StillMinutes x = up("r6;d0 1 0;d1 5 0;p0 20;t1 1;t1 1;");
            E.due(x.carry(0, 0, 0), 8);
            E.due(x.thing(0, 0), 0);
            E.due(x.thing(0, 1), NONE);
            E.due(x.carry(0, 1, 5), 6);
            E.due(x.thing(1, 0), 5);
            E.due(x.thing(1, 1), NONE);
        });
        E.test(11, "from OFF onto its ROUND again", () -> {
            StillMinutes x = up("r3;d0 1 0;d1 2 0;p0 20;t2 0 1;");
            x.carry(0, 0, 2);
            E.due(x.carry(0, 0, 1), 7);
            E.due(x.thing(0, 1), 1);
            x.second();
            E.due(x.thing(0, 0), 0);
        });
        E.test(11, "from OFF to another ROOM that is OFF", () -> {
            StillMinutes x = up("r4;d0 1 0;d1 2 0;d2 3 0;p0 20;t1 0;");
            E.due(x.carry(0, 0, 2), 8);
            E.due(x.carry(0, 0, 3), 7);
            E.due(x.thing(0, 0), 3);
            E.due(x.thing(0, 1), NONE);
        });
        E.test(11, "no other THING is carried", () -> {
            StillMinutes x = up("d0 1 0;p0 20;t1 0;t1 0;");
            x.carry(0, 1, 1);
            E.due(x.thing(0, 0), 0);
            E.due(x.thing(1, 0), 1);
        });
    }

    private static void walk() {
        E.test(12, "no such PERSON or ROOM: BAD", () -> {
            for (int number : new int[] {-1, 6, Integer.MIN_VALUE, Integer.MAX_VALUE}) {
                E.refused(() -> upInLine("p0 20;"), BAD, x -> x.walk(number, 0));
                E.refused(() -> upInLine("p0 20;"), BAD, x -> x.walk(0, number));
            }
            E.refused(() -> upInLine("p0 20;"), BAD, x -> x.walk(1, 0));
        });
        E.test(12, "BAD is ahead of STATE", () -> E.refused(() -> Check.told("p0 20;"), BAD, x -> x.walk(0, 2)));
        E.test(12, "STATE: he is not UP", () -> {
            E.refused(() -> Check.told("p0 20;"), STATE, x -> x.walk(0, 0));
            E.refused(() -> upInLine("p0 20;p0 20;"), STATE, x -> x.walk(1, 0));
            E.refused(() -> {
                StillMinutes x = upInLine("p0 20;");
                x.second();
                return x;
            }, STATE, x -> x.walk(0, 0));
        });
        E.test(12, "just as many STEPS as LEFT, and one more: STATE", () -> {
            E.due(upInLine("p0 20;").walk(0, 5), 0);
            E.due(up("s1;d0 1 0;p0 20;").walk(0, 1), 0);
            E.refused(() -> up("r3;s1;d0 1 0;d1 2 0;p0 20;"), STATE, x -> x.walk(0, 2));
            E.refused(() -> {
                StillMinutes x = upInLine("p0 20;");
                x.walk(0, 3);
                return x;
            }, STATE, x -> x.walk(0, 0));
        });
        E.test(12, "where he is: no step, with none LEFT, too", () -> {
            StillMinutes x = upInLine("p0 20;");
            E.due(x.walk(0, 0), 5);
            E.due(x.walk(0, 5), 0);
            E.due(x.walk(0, 5), 0);
            E.due(x.walk(0, 4), STATE);
            E.due(x.now(2), 1);
        });
        E.test(12, "STATE: no open DOOR leads there", () -> {
            E.refused(() -> up("d0 1 1;p0 20;"), STATE, x -> x.walk(0, 1));
            E.refused(() -> up("s20;p0 20;"), STATE, x -> x.walk(0, 1));
        });
        E.test(12, "likewise without a THING: none is carried", () -> {
            StillMinutes x = up("d0 1 0;p0 20;t1 0;");
            E.due(x.walk(0, 1), 9);
            E.due(x.thing(0, 0), 0);
        });
    }

    private static void undo() {
        E.test(13, "STATE: none", () -> {
            E.refused(StillMinutes::new, STATE, StillMinutes::undo);
            E.refused(() -> Check.told("p0 20;t1 0;"), STATE, StillMinutes::undo);
            E.refused(() -> {
                StillMinutes x = Check.told("p0 20;t2 0 1;");
                x.second();
                x.undo();
                return x;
            }, STATE, StillMinutes::undo);
        });
        E.test(13, "10 are known, older ones are lost", () -> {
            for (int done = 9; done <= 23; done++) {
                StillMinutes x = new StillMinutes();
                Check.seconds(x, done);
                int known = Math.min(done, 10);
                for (int more = known - 1; more >= 0; more--) {
                    E.due(x.undo(), more);
                    E.due(x.now(4), more);
                }
                E.due(x.undo(), STATE);
                E.due(x.now(0), done - known);
            }
        });
        E.test(13, "what is done behind an undo() can be UNDONE anew, 10 again", () -> {
            StillMinutes x = new StillMinutes();
            Check.seconds(x, 12);
            E.due(x.undo(), 9);
            E.due(x.undo(), 8);
            Check.seconds(x, 3);
            E.due(x.now(0), 13);
            E.due(x.now(4), 10);
            for (int more = 9; more >= 0; more--) {
                E.due(x.undo(), more);
            }
            E.due(x.now(0), 3);
            E.due(x.undo(), STATE);
        });
        E.test(13, "what was refused is not UNDONE", () -> {
            StillMinutes x = Check.told("d0 1 1;p0 20;t1 0;");
            x.press(0);
            x.press(0);
            x.press(1);
            x.walk(0, 1);
            x.walk(0, 2);
            x.carry(0, 0, 1);
            x.carry(0, 0, 2);
            E.due(x.now(4), 1);
            E.due(x.undo(), 0);
            E.due(x.person(0, 1), 20);
        });
        E.test(13, "nothing but second(), press(), carry(), walk() is UNDONE", () -> {
            StillMinutes x = Check.told("p0 20;p0 20;t1 0;");
            x.second();
            x.type('x');
            x.clear();
            x.found(0, 0, 0);
            x.forget();
            x.rate(0, 0);
            x.keep(0);
            x.where(0, 1);
            x.taking(0, 1);
            x.presses(0, 0, 0, 0);
            x.guard(0, 0);
            E.due(x.now(4), 1);
            E.due(x.undo(), 0);
            E.due(x.now(0), 0);
            E.due(x.back(0), 1);
        });
    }

    private static void undone() {
        E.test(13, "a second(): THINGS are where they were, PEOPLE UP with what was LEFT", () -> {
            StillMinutes x = up("r3;d0 1 0;d1 2 0;p0 20;t3 0 1 2;t1 0;");
            x.carry(0, 1, 1);
            x.second();
            E.due(x.undo(), 2);
            E.due(x.now(0), 0);
            E.due(x.now(2), 1);
            E.due(x.person(0, 3), 9);
            E.due(x.thing(0, 1), 0);
            E.due(x.thing(1, 1), NONE);
            E.due(x.walk(0, 2), 8);
        });
        E.test(13, "a second() over the DAY's end: PRESSED again", () -> {
            StillMinutes x = Check.told("p0 20;");
            Check.seconds(x, 18);
            x.press(0);
            Check.seconds(x, 2);
            E.due(x.now(3), 0);
            x.undo();
            E.due(x.now(0), 19);
            E.due(x.now(3), 1);
            E.due(x.press(0), STATE);
        });
        E.test(13, "a press(): AGE, not UP, not PRESSED; he may press again", () -> {
            StillMinutes x = up("p0 60;");
            E.due(x.undo(), 0);
            E.due(x.person(0, 1), 60);
            E.due(x.person(0, 2), 0);
            E.due(x.person(0, 3), NONE);
            E.due(x.press(0), 61);
        });
        E.test(13, "a carry(): his ROOM, LEFT, the THING's place, on its ROUND and OFF it", () -> {
            StillMinutes x = up("r3;d0 1 0;d1 2 0;p0 20;t2 0 1;");
            x.carry(0, 0, 2);
            x.carry(0, 0, 1);
            E.due(x.undo(), 2);
            E.due(x.thing(0, 0), 2);
            E.due(x.thing(0, 1), NONE);
            E.due(x.person(0, 0), 2);
            E.due(x.person(0, 3), 8);
            E.due(x.undo(), 1);
            E.due(x.thing(0, 1), 0);
            E.due(x.person(0, 0), 0);
            E.due(x.person(0, 3), 10);
        });
        E.test(13, "a carry() and a walk() of no step count, too", () -> {
            StillMinutes x = up("p0 20;t1 0;");
            x.carry(0, 0, 0);
            x.walk(0, 0);
            E.due(x.now(4), 3);
            E.due(x.undo(), 2);
            E.due(x.undo(), 1);
            E.due(x.now(2), 1);
        });
        E.test(13, "a walk(): his ROOM, LEFT", () -> {
            StillMinutes x = up("d0 1 0;p0 20;");
            x.walk(0, 1);
            E.due(x.undo(), 1);
            E.due(x.person(0, 0), 0);
            E.due(x.person(0, 3), 10);
        });
        E.test(13, "THE TRACE, FOUND, IMAGES, THE TEXT are not taken back", () -> {
            StillMinutes x = Check.told("p0 20;t1 0;");
            x.second();
            x.rate(0, 0);
            x.found(0, 0, 0);
            x.keep(0);
            x.type('x');
            x.undo();
            E.due(x.trace(), 1);
            E.due(x.count(5), 1);
            E.due(x.count(6), 1);
            E.due(x.back(0), 1);
        });
    }
}
