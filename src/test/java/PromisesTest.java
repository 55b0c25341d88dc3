/** Each promise of the document by ordinary inputs, its edges and wrong inputs, with answers worked out by hand. */
public final class PromisesTest {
    // Rooms 0 - 1 - 2 - 3 in a row, 4 apart behind a shut door; person 0 in room 0, person 1 in room 3;
    // thing 0 goes 1, 2, 1, thing 1 stays in room 3.
    private static final String ROW = "r5;s4;d0 1 0;d1 2 0;d2 3 0;d3 4 1;p0 20;p3 30;t3 1 2 1;t1 3;";
    private static final int BAD = -1, STATE = -2, FULL = -3, NONE = -9, NO = -1000000;

    private static final Check CHECK = new Check();
    private static int promise;
    private static int row;

    private static void promise(int number) {
        promise = number;
        row = 0;
    }

    private static void due(long got, long want) {
        row++;
        CHECK.due("promise " + promise + ", row " + row + ":", got, want);
    }

    public static void main(String[] args) {
        newObject();
        text();
        city();
        faults();
        looks();
        secondsAndPresses();
        carryAndWalk();
        undo();
        whatComes();
        presses();
        found();
        doneBy();
        guard();
        taking();
        odds();
        worth();
        rate();
        images();
        count();
        trace();
        CHECK.end();
    }

    private static int city(String text) {
        StillMinutes x = new StillMinutes();
        Check.type(x, text);
        return x.city();
    }

    private static void newObject() {
        promise(1);
        StillMinutes x = new StillMinutes();
        int[] counts = {2, 0, 10, 0, 0, 0, 0};
        for (int what = 0; what < counts.length; what++) {
            due(x.count(what), counts[what]);
        }
        for (int what = 0; what < 5; what++) {
            due(x.now(what), 0);
        }
        due(x.trace(), 0);
        due(x.back(0), STATE);
        due(x.back(1), STATE);
        due(x.undo(), STATE);
        due(x.person(0, 0), BAD);
    }

    private static void text() {
        promise(2);
        StillMinutes x = new StillMinutes();
        due(x.type(0), 1);
        due(x.type(255), 2);
        due(x.type(-1), BAD);
        due(x.type(256), BAD);
        for (int i = 3; i <= 200; i++) {
            due(x.type('x'), i);
        }
        due(x.type('x'), FULL);
        due(x.type(256), BAD);
        due(x.count(6), 200);

        promise(3);
        due(x.clear(), 200);
        due(x.clear(), 0);
        due(x.count(6), 0);
        due(x.type('x'), 1);
    }

    private static void city() {
        promise(4);
        due(city(""), 0);
        due(city("   "), 0);
        due(city(ROW), 10);
        due(city("  r 3 ;s2 ; d 0 1 0 ;d0 2 1;p 2 10;t 4 0 0 1 2;  "), 6);
        due(city("r6;s20;"), 2);
        due(city("r2;s1;"), 2);
        due(city("d0 1 0;d0 1 0;d1 0 0;d0 1 1;d0 1 0;d0 1 0;d0 1 0;d0 1 0;"), 8);
        due(city("p0 10;p0 10;p0 10;p0 10;p0 10;"), 5);
        due(city("t1 0;t1 0;t1 0;t1 0;t1 0;"), 5);

        StillMinutes x = Check.told(ROW);
        x.second();
        x.press(0);
        x.found(0, 1, 0);
        x.keep(0);
        x.rate(0, 0);
        Check.type(x, "r3;p0 9;");
        due(x.city(), -16);
        due(x.count(6), 8);
        due(x.count(0), 5);
        due(x.count(5), 1);
        due(x.now(0), 1);
        due(x.now(4), 2);
        x.clear();
        Check.type(x, "p1 33;");
        due(x.city(), 1);
        int[] counts = {2, 0, 10, 1, 0, 0, 0};
        for (int what = 0; what < counts.length; what++) {
            due(x.count(what), counts[what]);
        }
        for (int what = 0; what < 5; what++) {
            due(x.now(what), 0);
        }
        due(x.back(0), STATE);
        due(x.undo(), STATE);
        due(x.person(0, 0), 1);
        due(x.person(0, 1), 33);
        due(x.person(0, 2), 0);
        due(x.person(0, 3), NONE);
        due(x.trace(), 1);
        due(x.city(), 0);
        due(x.count(3), 0);

        // a text that was refused leaves nothing behind for the next
        x = new StillMinutes();
        Check.type(x, "s9;d0 1 0;p0 19;t1 0;x");
        due(x.city(), -31);
        x.clear();
        Check.type(x, "s3;");
        due(x.city(), 1);
        int[] few = {2, 0, 3, 0, 0, 0, 0};
        for (int what = 0; what < few.length; what++) {
            due(x.count(what), few[what]);
        }

        // told anew behind a city whose things went on
        x = Check.told("d0 1 0;p0 20;t2 0 1;");
        x.second();
        Check.type(x, "d1 0 0;p1 29;t3 1 1 0;");
        due(x.city(), 3);
        due(x.thing(0, 0), 1);
        due(x.thing(0, 1), 0);
        due(x.person(0, 0), 1);
        due(x.person(0, 1), 29);
        due(x.door(0, 0), 1);
    }

    private static void fault(String text, int place) {
        due(city(text), -10 - place);
    }

    private static void faults() {
        promise(4);
        fault(";", 0);
        fault("5;", 0);
        fault("x", 0);
        fault("  x", 2);
        fault("\t", 0);
        fault("R3;", 0);
        fault("r", 1);
        fault("r  ", 3);
        fault("r3", 2);
        fault("r3 ", 3);
        fault("r;", 1);
        fault("r1;", 1);
        fault("r7;", 1);
        fault("r 3 4;", 4);
        fault("r3;r3;", 3);
        fault("p0 10; r3;", 7);
        fault("s0;", 1);
        fault("s21;", 1);
        fault("s5;p0 10;s5;", 9);
        fault("s05;", 1);
        fault("s100;", 1);
        fault("s1x;", 2);
        fault("s00;", 1);
        fault("s4294967297;", 1);
        fault("d2 0 0;", 1);
        fault("d0 2 0;", 3);
        fault("d1 1 0;", 3);
        fault("d0 1 2;", 5);
        fault("d0 1;", 4);
        fault("d0 1", 4);
        fault("d01 0;", 1);
        fault("d0 1 0 0;", 7);
        fault("d0 1 0;d0 1 0;d0 1 0;d0 1 0;d0 1 0;d0 1 0;d0 1 0;d0 1 0;d9 9 9;", 56);
        fault("p2 10;", 1);
        fault("r3;p2 10;p3 10;", 10);
        fault("p0 9;", 3);
        fault("p0 61;", 3);
        fault("p0 10;p0 10;p0 10;p0 10;p0 10;p0 10;", 30);
        fault("t0;", 1);
        fault("t5 0 0 0 0 0;", 1);
        fault("t2 0;", 4);
        fault("t1 0 1;", 5);
        fault("t2 0 2;", 5);
        fault("t1 0;t1 0;t1 0;t1 0;t1 0;t1 0;", 25);
        fault("p0 10;;", 6);
        fault("p0 10 p0 10;", 6);
        fault("p0 10;d", 7);
        fault("s1;p0 60;s", 9);
        // the first fault counts, of whatever sort
        fault("p0 9;x", 3);
        fault("x p0 9;", 0);
        fault("p0 099;r3;", 3);
    }

    private static void looks() {
        StillMinutes x = Check.told(ROW);
        promise(5);
        due(x.door(0, 0), 0);
        due(x.door(0, 1), 1);
        due(x.door(0, 2), 0);
        due(x.door(3, 0), 3);
        due(x.door(3, 1), 4);
        due(x.door(3, 2), 1);
        due(x.door(4, 0), BAD);
        due(x.door(-1, 0), BAD);
        due(x.door(0, 3), BAD);
        due(x.door(0, -1), BAD);

        promise(6);
        due(x.person(1, 0), 3);
        due(x.person(1, 1), 30);
        due(x.person(1, 2), 0);
        due(x.person(1, 3), NONE);
        x.press(1);
        x.walk(1, 2);
        due(x.person(1, 0), 2);
        due(x.person(1, 1), 31);
        due(x.person(1, 2), 1);
        due(x.person(1, 3), 3);
        x.second();
        due(x.person(1, 2), 1);
        due(x.person(1, 3), NONE);
        due(x.person(2, 0), BAD);
        due(x.person(-1, 0), BAD);
        due(x.person(0, 4), BAD);
        due(x.person(0, -1), BAD);

        promise(7);
        due(x.thing(0, 0), 2);
        due(x.thing(0, 1), 1);
        due(x.thing(0, 2), 3);
        due(x.thing(1, 0), 3);
        due(x.thing(1, 1), 0);
        due(x.thing(1, 2), 1);
        x.press(0);
        x.carry(0, 0, 3);
        due(x.thing(0, 0), 3);
        due(x.thing(0, 1), NONE);
        due(x.thing(0, 2), 3);
        x.second();
        due(x.thing(0, 0), 3);
        x.undo();
        due(x.thing(2, 0), BAD);
        due(x.thing(-1, 0), BAD);
        due(x.thing(0, 3), BAD);
        due(x.thing(0, -1), BAD);

        promise(8);
        due(x.now(0), 1);
        due(x.now(1), 0);
        due(x.now(2), 1);
        due(x.now(3), 3);
        due(x.now(4), 5);
        due(x.now(5), BAD);
        due(x.now(-1), BAD);
    }

    private static void secondsAndPresses() {
        StillMinutes x = Check.told(ROW);
        promise(9);
        due(x.second(), 1);
        due(x.thing(0, 0), 2);
        due(x.second(), 2);
        due(x.thing(0, 0), 1);
        due(x.thing(0, 1), 2);
        due(x.second(), 3);
        due(x.thing(0, 0), 1);
        due(x.thing(0, 1), 0);
        due(x.thing(1, 0), 3);
        // behind its 512th call an object is free, but this edge can be seen nowhere else
        Check.seconds(x, 9995);
        due(x.second(), 9999);
        due(x.second(), STATE);
        due(x.now(0), 9999);
        due(x.now(1), 499);
        due(x.now(4), 10);
        due(x.where(0, 1), 2);
        due(x.press(0), 21);
        x = Check.told(ROW);
        Check.seconds(x, 3);

        promise(10);
        due(x.press(0), 21);
        due(x.person(0, 3), 4);
        due(x.press(0), STATE);
        due(x.person(0, 1), 21);
        due(x.press(2), BAD);
        due(x.press(-1), BAD);
        x.second();
        due(x.now(2), 0);
        due(x.press(0), STATE);
        due(x.press(1), 31);
        due(x.now(2), 2);
        due(x.now(3), 3);
        Check.seconds(x, 15);
        due(x.now(0), 19);
        due(x.now(1), 0);
        due(x.press(0), STATE);
        due(x.second(), 20);
        due(x.now(1), 1);
        due(x.now(3), 0);
        due(x.press(0), 22);
        due(x.press(1), 32);

        // a press at the day's last second is gone with it
        x = Check.told("p0 60;");
        Check.seconds(x, 19);
        due(x.press(0), 61);
        x.second();
        due(x.now(2), 0);
        due(x.press(0), 62);
    }

    private static void carryAndWalk() {
        promise(11);
        StillMinutes x = Check.told(ROW);
        due(x.carry(0, 0, 2), STATE);
        x.press(0);
        due(x.carry(0, 0, 4), STATE);
        due(x.carry(0, 1, 2), 0);
        due(x.person(0, 0), 2);
        due(x.thing(1, 0), 2);
        due(x.thing(1, 1), NONE);
        due(x.thing(0, 0), 1);
        due(x.carry(0, 0, 2), STATE);
        due(x.carry(0, 1, 2), 0);
        due(x.carry(2, 0, 0), BAD);
        due(x.carry(-1, 0, 0), BAD);
        due(x.carry(0, 2, 0), BAD);
        due(x.carry(0, -1, 0), BAD);
        due(x.carry(0, 0, 5), BAD);
        due(x.carry(0, 0, -1), BAD);
        due(x.carry(1, 0, 5), BAD);
        Check.seconds(x, 1);
        due(x.thing(1, 0), 2);
        due(x.carry(0, 1, 2), STATE);
        // back onto its round
        due(x.press(1), 31);
        due(x.carry(1, 1, 3), 2);
        due(x.thing(1, 1), 0);

        // from the first place of its round that is that room, where it is, too
        x = Check.told("r3;d0 1 0;d1 2 0;p0 20;t4 0 1 0 2;");
        Check.seconds(x, 2);
        due(x.thing(0, 1), 2);
        x.press(0);
        due(x.carry(0, 0, 0), 10);
        due(x.thing(0, 1), 0);
        due(x.carry(0, 0, 2), 8);
        due(x.thing(0, 1), 3);
        x.second();
        due(x.thing(0, 1), 0);

        // off its round in room 0, too
        x = Check.told("d0 1 0;p0 20;t1 1;");
        x.press(0);
        due(x.carry(0, 0, 0), 8);
        due(x.thing(0, 0), 0);
        due(x.thing(0, 1), NONE);
        x.second();
        due(x.thing(0, 0), 0);

        // a shut door is no way, the shortest way counts, doors go both ways
        x = Check.told("r4;d0 1 1;d1 2 0;d3 2 0;d0 3 0;d0 2 0;p0 20;t1 1;");
        x.press(0);
        due(x.carry(0, 0, 0), 6);
        due(x.carry(0, 0, 3), 5);

        promise(12);
        x = Check.told(ROW);
        due(x.walk(0, 0), STATE);
        x.press(0);
        due(x.walk(0, 0), 4);
        due(x.walk(0, 3), 1);
        due(x.walk(0, 1), STATE);
        due(x.walk(0, 4), STATE);
        due(x.walk(0, 2), 0);
        due(x.walk(0, 3), STATE);
        due(x.person(0, 0), 2);
        due(x.thing(0, 0), 1);
        due(x.walk(1, 2), STATE);
        due(x.walk(1, 5), BAD);
        due(x.walk(0, -1), BAD);
        due(x.walk(2, 0), BAD);
        due(x.walk(-1, 0), BAD);
        x.second();
        due(x.walk(0, 2), STATE);
    }

    private static void undo() {
        promise(13);
        StillMinutes x = Check.told(ROW);
        due(x.undo(), STATE);
        x.press(0);
        x.carry(0, 1, 2);
        x.walk(0, 2);
        x.second();
        due(x.press(0), STATE);
        due(x.carry(0, 0, 0), STATE);
        due(x.walk(0, 9), BAD);
        due(x.now(4), 4);
        due(x.undo(), 3);
        due(x.now(0), 0);
        due(x.now(2), 1);
        due(x.person(0, 3), 0);
        due(x.thing(0, 1), 0);
        due(x.undo(), 2);
        due(x.thing(1, 0), 2);
        due(x.undo(), 1);
        due(x.thing(1, 0), 3);
        due(x.thing(1, 1), 0);
        due(x.person(0, 0), 0);
        due(x.person(0, 3), 4);
        due(x.undo(), 0);
        due(x.person(0, 1), 20);
        due(x.person(0, 3), NONE);
        due(x.now(3), 0);
        due(x.undo(), STATE);

        Check.seconds(x, 13);
        due(x.now(4), 10);
        for (int more = 9; more >= 0; more--) {
            due(x.undo(), more);
        }
        due(x.undo(), STATE);
        due(x.now(0), 3);
        due(x.thing(0, 1), 0);

        // what was found is not taken back, nor are images
        x = Check.told(ROW);
        x.second();
        x.found(0, 1, 1);
        x.keep(1);
        due(x.undo(), 0);
        due(x.count(5), 1);
        due(x.back(1), 1);
        due(x.undo(), STATE);
    }

    private static void whatComes() {
        promise(14);
        StillMinutes x = Check.told(ROW);
        due(x.where(0, 0), 1);
        due(x.where(0, 1), 2);
        due(x.where(0, 2), 1);
        due(x.where(0, 3), 1);
        due(x.where(0, 100), 2);
        due(x.where(1, 77), 3);
        due(x.where(0, 101), BAD);
        due(x.where(0, -1), BAD);
        due(x.where(2, 0), BAD);
        due(x.where(-1, 0), BAD);
        x.press(1);
        x.carry(1, 1, 1);
        due(x.where(1, 5), 1);
        due(x.now(0), 0);

        promise(15);
        x = Check.told("r4;p0 20;p1 20;p3 20;t4 1 1 2 0;t1 3;");
        due(x.upon(0, 0), 3);
        due(x.upon(0, 1), 0);
        due(x.upon(0, 2), NONE);
        due(x.upon(1, 2), 0);
        due(x.upon(1, 0), NONE);
        x.second();
        due(x.upon(0, 0), 2);
        due(x.upon(2, 0), BAD);
        due(x.upon(-1, 0), BAD);
        due(x.upon(0, 3), BAD);
        due(x.upon(0, -1), BAD);

        promise(16);
        x = Check.told("r6;s2;d0 1 0;d1 2 0;d2 3 0;d3 4 1;d4 0 0;p0 20;p3 20;");
        due(x.reach(0), 1 + 2 + 4 + 16);
        due(x.reach(1), 8 + 4 + 2);
        x.press(0);
        x.walk(0, 1);
        due(x.reach(0), 1 + 2 + 4);
        x.walk(0, 2);
        due(x.reach(0), 4);
        x.second();
        due(x.reach(0), 15);
        due(x.reach(2), BAD);
        due(x.reach(-1), BAD);
    }

    private static void presses() {
        promise(17);
        StillMinutes x = Check.told(ROW);
        due(x.presses(0, 1, 0, 0), 0);
        due(x.presses(0, 1, 0, 1), 3);
        due(x.presses(0, 2, 0, 0), 1);
        due(x.presses(0, 2, 0, 1), 3);
        due(x.presses(0, 2, 1, 0), 0);
        due(x.presses(0, 4, 12, 0), NONE);
        due(x.presses(0, 4, 12, 1), 0);
        due(x.presses(1, 0, 12, 0), 1);
        due(x.presses(1, 0, 12, 1), 2);
        due(x.presses(1, 2, 12, 1), 3);
        due(x.now(0), 0);
        due(x.person(0, 1), 20);
        due(x.presses(2, 0, 0, 0), BAD);
        due(x.presses(-1, 0, 0, 0), BAD);
        due(x.presses(0, 5, 0, 0), BAD);
        due(x.presses(0, -1, 0, 0), BAD);
        due(x.presses(0, 0, 13, 0), BAD);
        due(x.presses(0, 0, -1, 0), BAD);
        due(x.presses(0, 0, 0, 2), BAD);
        due(x.presses(0, 0, 0, -1), BAD);

        // one hands it on to the next: each comes two rooms far
        String chain = "r6;s2;d0 1 0;d1 2 0;d2 3 0;d3 4 0;d4 5 0;t1 0;";
        x = Check.told(chain + "p0 20;p2 20;p2 20;p3 20;");
        due(x.presses(0, 1, 0, 0), 1);
        due(x.presses(0, 1, 0, 1), 1);
        due(x.presses(0, 3, 0, 0), 2);
        due(x.presses(0, 3, 0, 1), 0);
        due(x.presses(0, 4, 0, 0), 2);
        due(x.presses(0, 5, 0, 0), 3);
        x = Check.told(chain + "p0 20;p2 20;p2 20;");
        due(x.presses(0, 4, 12, 0), 2);
        due(x.presses(0, 5, 12, 0), NONE);
        x = Check.told(chain + "p0 20;p2 20;p4 20;");
        due(x.presses(0, 5, 0, 0), 3);
        due(x.presses(0, 5, 0, 1), 0);
        StillMinutes five = Check.told("r6;s1;d0 1 0;d1 2 0;d2 3 0;d3 4 0;d4 5 0;t1 0;p4 20;p2 20;p0 20;p3 20;p1 20;");
        due(five.presses(0, 5, 0, 0), 5);
        due(five.presses(0, 4, 0, 0), 4);
        // one who pressed this day does no more, not when the day is over either
        Check.seconds(x, 19);
        x.press(2);
        due(x.presses(0, 5, 12, 0), NONE);
        due(x.presses(0, 4, 12, 0), 2);
        x.second();
        due(x.presses(0, 5, 12, 0), 3);

        // nobody presses twice, though a day begins within the seconds
        x = Check.told(chain + "p0 20;");
        Check.seconds(x, 15);
        due(x.presses(0, 2, 12, 0), 1);
        due(x.presses(0, 3, 12, 0), NONE);

        // it pays to wait: only in room 1 he gets it, two seconds from now
        x = Check.told("r4;s1;d1 2 0;p1 20;t3 0 3 1;");
        due(x.presses(0, 2, 1, 0), NONE);
        due(x.presses(0, 2, 1, 1), 0);
        due(x.presses(0, 2, 2, 0), 1);
        due(x.presses(0, 2, 2, 1), 1);

        // carried to a room of its round, it goes on from there and comes by itself in time
        x = Check.told("r4;s1;d0 1 0;p0 20;t4 0 0 1 3;");
        due(x.presses(0, 3, 0, 0), NONE);
        due(x.presses(0, 3, 1, 0), 1);
        due(x.presses(0, 3, 2, 0), 1);
        due(x.presses(0, 3, 3, 0), 0);
    }

    private static void found() {
        promise(18);
        StillMinutes x = Check.told(ROW);
        due(x.found(0, 1, 0), 1);
        due(x.found(2, 0, 0), BAD);
        due(x.found(-1, 0, 0), BAD);
        due(x.found(0, 5, 0), BAD);
        due(x.found(0, -1, 0), BAD);
        due(x.found(0, 0, 21), BAD);
        due(x.found(0, 0, -1), BAD);
        due(x.found(0, 1, 20), 2);
        due(x.found(0, 1, 0), 3);
        due(x.found(1, 4, 3), 4);
        due(x.found(1, 4, 3), FULL);
        due(x.found(1, 4, 21), BAD);
        due(x.count(5), 4);

        promise(19);
        due(x.forget(), 4);
        due(x.forget(), 0);
        due(x.count(5), 0);
        due(x.found(0, 1, 0), 1);
    }

    private static void doneBy() {
        promise(20);
        StillMinutes x = Check.told(ROW);
        due(x.doneBy(), 3);
        x.found(0, 1, 0);
        due(x.doneBy(), 3);
        x.found(1, 0, 5);
        due(x.doneBy(), 2);
        x.press(1);
        due(x.doneBy(), 0);
        x.forget();
        due(x.doneBy(), 1);
        x.found(0, 2, 0);
        x.found(0, 2, 2);
        // from room 2 it is in room 1 two seconds later
        due(x.doneBy(), 0);
        x.forget();
        x.found(0, 2, 0);
        x.found(0, 1, 2);
        due(x.doneBy(), 1);

        // things go in order of their numbers, each once at most, by the steps of one press
        String three = "r3;d0 1 0;d1 2 0;p0 20;t1 0;t1 2;";
        x = Check.told(three.replace("r3;", "r3;s5;"));
        x.found(1, 1, 0);
        due(x.doneBy(), 1);
        x.found(0, 2, 0);
        due(x.doneBy(), 1);
        x = Check.told(three.replace("r3;", "r3;s2;"));
        x.found(1, 1, 0);
        due(x.doneBy(), 0);
        // thing 0 to room 2, then thing 1 from there to room 0: four steps in this order, six in the other one
        x = Check.told(three.replace("r3;", "r3;s4;"));
        x.found(1, 0, 0);
        x.found(0, 2, 0);
        due(x.doneBy(), 1);
        x = Check.told("r3;s4;d0 1 0;d1 2 0;p0 20;t1 2;t1 0;");
        x.found(1, 2, 0);
        x.found(0, 0, 0);
        due(x.doneBy(), 0);
        // a thing that was not found is not carried, and its own way does not matter
        x = Check.told("r3;s4;d0 1 0;p0 20;t1 2;t1 0;");
        x.found(1, 1, 0);
        due(x.doneBy(), 1);
        x.forget();
        x.found(0, 0, 0);
        due(x.doneBy(), 0);
    }

    private static void guard() {
        promise(21);
        StillMinutes x = Check.told(ROW);
        due(x.guard(0, 4), 0);
        due(x.guard(0, 1), 1 + 2);
        due(x.guard(1, 3), NONE);
        due(x.guard(1, 2), 4);
        due(x.guard(1, 0), 1);
        due(x.guard(2, 0), BAD);
        due(x.guard(-1, 0), BAD);
        due(x.guard(0, 5), BAD);
        due(x.guard(0, -1), BAD);
        x.press(1);
        due(x.guard(0, 1), 1);
        due(x.guard(1, 3), 1);
        x.press(0);
        due(x.guard(1, 3), 0);
        due(x.door(0, 2), 0);

        // two doors side by side; a longer way stays open if it is too long
        x = Check.told("r4;s3;d0 1 0;d0 1 0;d0 2 0;d2 3 0;d3 1 0;p0 20;t1 0;");
        due(x.guard(0, 1), 1 + 2 + 4);
        x = Check.told("r4;s2;d0 1 0;d0 1 0;d0 2 0;d2 3 0;d3 1 0;p0 20;t1 0;");
        due(x.guard(0, 1), 1 + 2);
        due(x.guard(0, 0), NONE);
        x = Check.told("d0 1 0;d0 1 0;d0 1 0;d0 1 0;d0 1 0;d0 1 0;d0 1 0;d0 1 0;p0 20;t1 0;");
        due(x.guard(0, 1), 255);
        // a shut door is not among them
        x = Check.told("d0 1 1;d0 1 0;p0 20;t1 0;");
        due(x.guard(0, 1), 2);
    }

    private static void taking() {
        promise(22);
        StillMinutes x = Check.told(ROW);
        due(x.taking(0, 1), 0);
        due(x.taking(1, 0), 0);
        due(x.taking(0, 0), NO);
        due(x.taking(0, 2), NO);
        due(x.taking(2, 0), NO);
        due(x.taking(-1, 0), NO);
        due(x.taking(0, -1), NO);
        due(Check.told("p0 20;p1 20;").taking(0, 1), 0);
        // one who cannot take ends for good, the other one goes on alone
        x = Check.told("r3;s1;d0 1 0;p0 20;p2 20;t1 0;t1 0;t1 1;");
        due(x.taking(0, 1), 3);
        due(x.taking(1, 0), -3);
        // both in one room with five: the first gets the odd one
        x = Check.told("p0 20;p0 20;t1 0;t1 0;t1 0;t1 0;t1 0;");
        due(x.taking(0, 1), 1);
        // watches pressed and steps gone do not matter, rooms do
        x.press(0);
        due(x.taking(0, 1), 1);
        // it pays to go far first, for what the other one can reach, though a thing lies near
        x = Check.told("r4;s2;d0 1 0;d1 2 0;d2 3 0;p0 20;p3 20;t1 0;t1 2;");
        due(x.taking(0, 1), 1);
        due(x.taking(1, 0), 0);
        x = Check.told("r4;s3;d0 1 0;d1 2 0;d2 3 0;p0 20;p3 20;t1 0;t1 2;");
        due(x.taking(0, 1), 0);
        // steps that went to one thing are gone for the next
        x = Check.told("r4;s2;d0 1 0;d1 2 0;d2 3 0;p1 20;p3 20;t1 0;t1 2;");
        due(x.taking(0, 1), 1);
    }

    private static void odds() {
        promise(23);
        StillMinutes x = Check.told("p0 20;p0 20;p0 20;");
        due(x.odds(5, 1, 0), 3);
        due(x.odds(5, 1, 1), 8);
        due(x.odds(2, 2, 0), 12);
        due(x.odds(2, 2, 1), 125);
        due(x.odds(0, 0, 0), 1);
        due(x.odds(0, 0, 1), 1);
        due(x.odds(0, 1, 0), 0);
        due(x.odds(0, 1, 1), 1);
        due(x.odds(10, 3, 0), 1);
        due(x.odds(10, 2, 0), 0);
        due(x.odds(3, 4, 0), 0);
        due(x.odds(3, 4, 1), 1);
        x.press(1);
        due(x.odds(3, 1, 0), 21);
        due(x.odds(3, 1, 1), 50);
        due(x.odds(-1, 0, 0), BAD);
        due(x.odds(11, 0, 0), BAD);
        due(x.odds(0, -1, 0), BAD);
        due(x.odds(0, 6, 0), BAD);
        due(x.odds(0, 0, 2), BAD);
        due(x.odds(0, 0, -1), BAD);
        x = Check.told("p0 20;p0 20;p0 20;p0 20;p0 20;");
        due(x.odds(3, 2, 0), 3087);
        due(x.odds(3, 2, 1), 10000);
        due(x.odds(1, 5, 1), 100000);
    }

    private static void worth() {
        promise(24);
        StillMinutes x = Check.told(ROW);
        // thing 0, in room 1: to 0, 2, 3; thing 1, in room 3: to 2
        due(x.worth(0), 4);
        // thing 0, two rooms off: to 0, 2, 3; thing 1, where he is: to 0, 1, 2
        due(x.worth(1), 6);
        x.press(1);
        x.walk(1, 1);
        // thing 0, where he is: to 0, 2, 3; thing 1, two rooms off: to 1, 2
        due(x.worth(1), 5);
        due(x.worth(2), BAD);
        due(x.worth(-1), BAD);
        due(Check.told("p0 20;").worth(0), 0);
    }

    private static void rate() {
        promise(25);
        StillMinutes x = Check.told("r3;d0 1 0;d1 2 0;p0 20;p2 30;t1 2;t2 2 1;");
        due(x.rate(0, 1), 30);
        due(x.rate(1, 1), 32);
        due(x.rate(2, 1), 28);
        due(x.rate(3, 1), 64);
        due(x.rate(4, 1), 29);
        due(x.rate(5, 1), 30);
        due(x.rate(2, 0), 20);
        x.press(1);
        due(x.rate(5, 1), 41);
        x.walk(1, 1);
        due(x.rate(5, 1), 40);
        x.second();
        due(x.rate(5, 1), 31);
        due(x.rate(4, 1), 31);
        due(x.rate(6, 0), NO);
        due(x.rate(-1, 0), NO);
        due(x.rate(0, 2), NO);
        due(x.rate(0, -1), NO);
    }

    private static void images() {
        promise(26);
        StillMinutes x = Check.told(ROW);
        due(x.keep(2), BAD);
        due(x.keep(-1), BAD);
        due(x.back(0), STATE);
        x.second();
        x.press(0);
        x.carry(0, 0, 3);
        due(x.keep(0), 1);
        due(x.now(4), 3);
        x.second();
        due(x.keep(1), 2);

        promise(27);
        Check.seconds(x, 20);
        x.press(0);
        x.found(0, 0, 0);
        due(x.back(2), BAD);
        due(x.back(-1), BAD);
        due(x.back(0), 1);
        due(x.now(0), 1);
        due(x.now(2), 1);
        due(x.now(3), 1);
        due(x.now(4), 0);
        due(x.undo(), STATE);
        due(x.person(0, 0), 3);
        due(x.person(0, 1), 21);
        due(x.person(0, 3), 1);
        due(x.thing(0, 0), 3);
        due(x.thing(0, 1), NONE);
        due(x.count(5), 1);
        due(x.back(1), 2);
        due(x.now(2), 0);
        due(x.walk(0, 3), STATE);
        x.second();
        due(x.undo(), 0);
        due(x.back(0), 1);
        due(x.keep(1), 1);
        x.walk(0, 2);
        due(x.back(1), 1);
        due(x.person(0, 0), 3);
    }

    private static void count() {
        promise(28);
        StillMinutes x = Check.told(ROW);
        x.found(0, 0, 0);
        x.type('x');
        x.type('x');
        int[] counts = {5, 4, 4, 2, 2, 1, 2};
        for (int what = 0; what < counts.length; what++) {
            due(x.count(what), counts[what]);
        }
        due(x.count(7), BAD);
        due(x.count(-1), BAD);
    }

    private static void trace() {
        promise(29);
        StillMinutes x = Check.told(ROW);
        long[] added = {1, 11, 101, 1011, 10101, 100001};
        long all = 0;
        for (int kind = 0; kind < added.length; kind++) {
            x.rate(kind, 0);
            all += added[kind];
            due(x.trace(), all);
        }
        x.rate(6, 0);
        x.rate(3, 2);
        due(x.trace(), all);
        x.keep(0);
        x.second();
        x.rate(0, 0);
        all++;
        x.undo();
        due(x.trace(), all);
        x.back(0);
        due(x.trace(), all);
        x.city();
        due(x.trace(), all);
    }
}
