/** The edges of promises 25 to 29: kinds, images, what there is how often, the trace. */
public final class KindsAndImagesEdgesTest {
    private static final int BAD = Edge.BAD, STATE = Edge.STATE, NONE = Edge.NONE, NO = Edge.NO;
    private static final Edge E = new Edge();

    public static void main(String[] args) {
        rateNumbers();
        rates();
        keep();
        back();
        backIsAll();
        count();
        trace();
        E.end();
    }

    private static StillMinutes up(String text) {
        StillMinutes x = Check.told(text);
        x.press(0);
        return x;
    }

    private static StillMinutes busy() {
        StillMinutes x = Check.told("r4;s3;d0 1 0;d1 2 0;d2 3 1;p0 20;p1 59;t2 0 1;t1 2;");
        x.rate(4, 1);
        x.second();
        x.keep(0);
        x.press(1);
        x.carry(1, 0, 2);
        x.found(1, 2, 3);
        Check.type(x, "s7");
        return x;
    }

    private static void rateNumbers() {
        E.test(25, "KINDS 0 .. 5: else NO, and nothing is added to THE TRACE", () -> {
            for (int kind : new int[] {-1, 6, 7, 100, Integer.MIN_VALUE, Integer.MAX_VALUE}) {
                E.refused(KindsAndImagesEdgesTest::busy, NO, x -> x.rate(kind, 0));
            }
            StillMinutes x = Check.told("p0 20;");
            E.limits(0, 5, NO, kind -> x.rate(kind, 0));
        });
        E.test(25, "no such PERSON: NO, and nothing is added to THE TRACE", () -> {
            for (int p : new int[] {-1, 2, 5, Integer.MIN_VALUE, Integer.MAX_VALUE}) {
                for (int kind = 0; kind < 6; kind++) {
                    int asked = kind;
                    E.refused(KindsAndImagesEdgesTest::busy, NO, x -> x.rate(asked, p));
                }
            }
            E.due(new StillMinutes().rate(0, 0), NO);
        });
    }

    private static void rates() {
        E.test(25, "PERSON the AGE, beyond 60, too", () -> {
            StillMinutes x = up("p0 60;");
            E.due(x.rate(0, 0), 61);
        });
        E.test(25, "BARBER up, and the ROOM: the first, the last", () -> {
            StillMinutes x = Check.told("r6;p0 20;p5 20;");
            E.due(x.rate(1, 0), 20);
            E.due(x.rate(1, 1), 25);
        });
        E.test(25, "THIEF up less how many THINGS are in that ROOM: none, all five, OFF too", () -> {
            StillMinutes x = Check.told("r3;d0 1 0;p0 10;p1 10;p2 10;" + "t2 0 1;".repeat(5));
            E.due(x.rate(2, 0), 5);
            E.due(x.rate(2, 1), 10);
            x.second();
            E.due(x.rate(2, 0), 10);
            E.due(x.rate(2, 1), 5);
            x = up("r3;d0 1 0;d1 2 0;p0 10;p2 10;t1 0;");
            x.carry(0, 0, 2);
            E.due(x.rate(2, 1), 9);
            E.due(x.rate(2, 0), 10);
        });
        E.test(25, "GREY twice up", () -> {
            StillMinutes x = Check.told("r6;p0 10;p5 60;");
            E.due(x.rate(3, 0), 20);
            E.due(x.rate(3, 1), 130);
        });
        E.test(25, "TENTH up, and the number: the first, the fifth", () -> {
            StillMinutes x = Check.told("p0 10;p0 10;p0 10;p0 10;p0 10;t1 0;");
            E.due(x.rate(4, 0), 9);
            E.due(x.rate(4, 4), 13);
        });
        E.test(25, "CHILD up, and STEPS LEFT, 0 if not UP", () -> {
            StillMinutes x = Check.told("s20;d0 1 0;p0 10;");
            E.due(x.rate(5, 0), 10);
            x.press(0);
            E.due(x.rate(5, 0), 31);
            for (int room = 1; room <= 20; room++) {
                x.walk(0, room % 2);
                E.due(x.rate(5, 0), 31 - room);
            }
            E.due(x.person(0, 3), 0);
            E.due(x.rate(5, 0), 11);
            x.second();
            E.due(x.person(0, 3), NONE);
            E.due(x.rate(5, 0), 11);
        });
        E.test(25, "any PERSON may be asked as any KIND, nothing but THE TRACE is changed", () -> {
            StillMinutes x = busy();
            int undone = x.now(4);
            for (int kind = 0; kind < 6; kind++) {
                for (int p = 0; p < 2; p++) {
                    x.rate(kind, p);
                }
            }
            E.due(x.now(4), undone);
            E.due(x.person(1, 1), 60);
            E.due(x.person(0, 1), 20);
            E.due(x.count(5), 1);
        });
    }

    private static void keep() {
        E.test(26, "IMAGES 0, 1: else BAD", () -> {
            for (int image : new int[] {-1, 2, 3, Integer.MIN_VALUE, Integer.MAX_VALUE}) {
                E.refused(KindsAndImagesEdgesTest::busy, BAD, x -> x.keep(image));
            }
        });
        E.test(26, "THE SECOND, 0 too", () -> {
            StillMinutes x = new StillMinutes();
            E.due(x.keep(0), 0);
            x.second();
            E.due(x.keep(1), 1);
            E.due(x.keep(1), 1);
        });
        E.test(26, "kept again: the later one stays, the other IMAGE is its own", () -> {
            StillMinutes x = new StillMinutes();
            x.keep(0);
            x.keep(1);
            Check.seconds(x, 3);
            E.due(x.keep(0), 3);
            Check.seconds(x, 2);
            E.due(x.back(0), 3);
            E.due(x.back(1), 0);
        });
        E.test(26, "nothing that can be UNDONE is lost by it", () -> {
            StillMinutes x = new StillMinutes();
            Check.seconds(x, 2);
            x.keep(0);
            E.due(x.now(4), 2);
            E.due(x.undo(), 1);
            E.due(x.undo(), 0);
        });
    }

    private static void back() {
        E.test(27, "IMAGES 0, 1: else BAD", () -> {
            for (int image : new int[] {-1, 2, 3, Integer.MIN_VALUE, Integer.MAX_VALUE}) {
                E.refused(KindsAndImagesEdgesTest::busy, BAD, x -> x.back(image));
            }
        });
        E.test(27, "BAD is ahead of STATE", () -> {
            E.refused(StillMinutes::new, BAD, x -> x.back(2));
            E.refused(StillMinutes::new, BAD, x -> x.back(-1));
        });
        E.test(27, "STATE: none was kept, though the other one was", () -> {
            E.refused(StillMinutes::new, STATE, x -> x.back(0));
            E.refused(StillMinutes::new, STATE, x -> x.back(1));
            E.refused(KindsAndImagesEdgesTest::busy, STATE, x -> x.back(1));
        });
        E.test(27, "STATE: the city was read anew, but not by a text with a FAULT", () -> {
            StillMinutes x = busy();
            E.due(x.city(), -12);
            E.due(x.back(0), 1);
            x.clear();
            x.city();
            E.due(x.back(0), STATE);
            E.due(x.keep(0), 0);
            E.due(x.back(0), 0);
        });
        E.test(27, "as often as wanted", () -> {
            StillMinutes x = new StillMinutes();
            x.second();
            x.keep(0);
            for (int i = 0; i < 3; i++) {
                Check.seconds(x, i);
                E.due(x.back(0), 1);
                E.due(x.now(0), 1);
            }
        });
        E.test(27, "nothing can be UNDONE behind back(), but what is done then", () -> {
            StillMinutes x = busy();
            E.due(x.now(4), 3);
            E.due(x.back(0), 1);
            E.due(x.now(4), 0);
            E.due(x.undo(), STATE);
            E.due(x.now(0), 1);
            x.second();
            E.due(x.now(4), 1);
            E.due(x.undo(), 0);
            E.due(x.undo(), STATE);
        });
    }

    private static void backIsAll() {
        E.test(27, "THE SECOND, PEOPLE: ROOM, AGE, whether UP, LEFT, whether PRESSED this DAY; THINGS", () -> {
            StillMinutes x = busy();
            x.keep(1);
            x.press(0);
            x.walk(0, 1);
            x.carry(1, 1, 1);
            Check.seconds(x, 25);
            x.press(1);
            E.due(x.back(1), 1);
            E.due(x.now(0), 1);
            E.due(x.now(1), 0);
            E.due(x.now(2), 2);
            E.due(x.now(3), 2);
            int[] first = {0, 20, 0, NONE};
            int[] second = {2, 60, 1, 2};
            for (int what = 0; what < 4; what++) {
                E.due(x.person(0, what), first[what]);
                E.due(x.person(1, what), second[what]);
            }
            E.due(x.thing(0, 0), 2);
            E.due(x.thing(0, 1), NONE);
            E.due(x.thing(1, 0), 2);
            E.due(x.thing(1, 1), 0);
            E.due(x.walk(1, 0), 0);
        });
        E.test(27, "to a later SECOND as well as to an earlier one, over the DAY's end", () -> {
            StillMinutes x = up("p0 20;t3 0 1 1;");
            x.keep(0);
            Check.seconds(x, 21);
            x.keep(1);
            E.due(x.back(0), 0);
            E.due(x.press(0), STATE);
            E.due(x.back(1), 21);
            E.due(x.now(1), 1);
            E.due(x.press(0), 22);
        });
        E.test(27, "nothing else: FOUND, THE TEXT, THE TRACE, the other IMAGE stay", () -> {
            StillMinutes x = busy();
            x.keep(1);
            E.due(x.back(0), 1);
            E.due(x.count(5), 1);
            E.due(x.count(6), 2);
            E.due(x.trace(), 10101);
            E.due(x.back(1), 1);
            E.due(x.person(1, 1), 60);
        });
        E.test(27, "what is done behind keep() or back() does not change the IMAGE", () -> {
            StillMinutes x = up("d0 1 0;p0 20;t1 0;");
            x.keep(0);
            x.carry(0, 0, 1);
            x.back(0);
            x.carry(0, 0, 1);
            x.second();
            E.due(x.back(0), 0);
            E.due(x.thing(0, 0), 0);
            E.due(x.person(0, 0), 0);
            E.due(x.person(0, 3), 10);
        });
    }

    private static void count() {
        E.test(28, "what: 0 .. 6", () -> {
            StillMinutes x = new StillMinutes();
            E.limits(0, 6, BAD, x::count);
            E.limits(0, 6, BAD, busy()::count);
        });
        E.test(28, "as few as there may be", () -> {
            StillMinutes x = Check.told("r2;s1;");
            int[] counts = {2, 0, 1, 0, 0, 0, 0};
            for (int what = 0; what < counts.length; what++) {
                E.due(x.count(what), counts[what]);
            }
        });
        E.test(28, "as many as there may be", () -> {
            StillMinutes x = Check.told("r6;s20;" + "d0 1 0;".repeat(8) + "p0 10;".repeat(5) + "t1 0;".repeat(5));
            for (int i = 0; i < 5; i++) {
                x.found(i, 0, 0);
            }
            for (int i = 0; i < 201; i++) {
                x.type('x');
            }
            int[] counts = {6, 8, 20, 5, 5, 4, 200};
            for (int what = 0; what < counts.length; what++) {
                E.due(x.count(what), counts[what]);
            }
        });
        E.test(28, "STEPS of a still minute, not those LEFT", () -> {
            StillMinutes x = up("s2;d0 1 0;p0 20;");
            x.walk(0, 1);
            E.due(x.count(2), 2);
        });
    }

    private static void trace() {
        E.test(29, "0 at first", () -> E.due(new StillMinutes().trace(), 0));
        E.test(29, "each body once, as often as rate() asks it", () -> {
            long[] added = {1, 11, 101, 1011, 10101, 100001};
            for (int kind = 0; kind < 6; kind++) {
                StillMinutes x = Check.told("p0 20;t1 0;");
                for (int times = 1; times <= 3; times++) {
                    x.rate(kind, 0);
                    E.due(x.trace(), times * added[kind]);
                }
            }
        });
        E.test(29, "as high as 500 calls bring it", () -> {
            StillMinutes x = Check.told("p0 20;");
            for (int i = 0; i < 500; i++) {
                x.rate(5, 0);
            }
            E.due(x.trace(), 50000500L);
        });
        E.test(29, "it goes on behind undo(), back(), city()", () -> {
            StillMinutes x = Check.told("p0 20;");
            x.keep(0);
            x.second();
            x.rate(3, 0);
            x.undo();
            E.due(x.trace(), 1011);
            x.rate(3, 0);
            x.back(0);
            E.due(x.trace(), 2022);
            Check.type(x, "p0 20;");
            x.city();
            E.due(x.trace(), 2022);
            x.rate(0, 0);
            E.due(x.trace(), 2023);
        });
        E.test(29, "no other call adds to it", () -> {
            StillMinutes x = busy();
            Edge.looks(x);
            x.second();
            x.press(0);
            x.walk(0, 1);
            x.carry(0, 1, 1);
            x.taking(0, 1);
            x.worth(0);
            x.guard(0, 0);
            x.presses(0, 0, 5, 1);
            E.due(x.trace(), 10101);
        });
    }
}
