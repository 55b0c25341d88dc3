/** The edges of promises 1 to 4: a new object, the text, and the city that it tells. */
public final class TextEdgesTest {
    private static final int BAD = Edge.BAD, STATE = Edge.STATE, FULL = Edge.FULL, NONE = Edge.NONE, NO = Edge.NO;
    private static final Edge E = new Edge();

    public static void main(String[] args) {
        newObject();
        type();
        clear();
        blanks();
        items();
        rooms();
        steps();
        doors();
        people();
        things();
        numbers();
        otherLetters();
        endsTooEarly();
        firstFault();
        textStays();
        readAnew();
        E.end();
    }

    private static String times(int many, String part) {
        return part.repeat(many);
    }

    private static void newObject() {
        E.test(1, "two ROOMS, nobody: no door, person or thing", () -> {
            StillMinutes x = new StillMinutes();
            E.due(x.count(0), 2);
            E.due(x.count(1), 0);
            E.due(x.count(3), 0);
            E.due(x.count(4), 0);
            E.due(x.door(0, 0), BAD);
            E.due(x.person(0, 0), BAD);
            E.due(x.thing(0, 0), BAD);
        });
        E.test(1, "STEPS: 10 at first", () -> E.due(new StillMinutes().count(2), 10));
        E.test(1, "THE SECOND: 0 at first, DAY 0", () -> {
            StillMinutes x = new StillMinutes();
            E.due(x.now(0), 0);
            E.due(x.now(1), 0);
            E.due(x.second(), 1);
        });
        E.test(1, "nothing told, nothing FOUND, nothing to be UNDONE, no IMAGE, THE TRACE 0 at first", () -> {
            StillMinutes x = new StillMinutes();
            E.due(x.count(6), 0);
            E.due(x.count(5), 0);
            E.due(x.clear(), 0);
            E.due(x.forget(), 0);
            E.due(x.now(4), 0);
            E.due(x.undo(), STATE);
            E.due(x.back(0), STATE);
            E.due(x.back(1), STATE);
            E.due(x.trace(), 0);
        });
        E.test(1, "with nobody each call that names one of PEOPLE or THINGS is BAD", () -> {
            StillMinutes x = new StillMinutes();
            E.due(x.press(0), BAD);
            E.due(x.carry(0, 0, 0), BAD);
            E.due(x.walk(0, 0), BAD);
            E.due(x.where(0, 0), BAD);
            E.due(x.upon(0, 0), BAD);
            E.due(x.reach(0), BAD);
            E.due(x.presses(0, 0, 0, 0), BAD);
            E.due(x.found(0, 0, 0), BAD);
            E.due(x.guard(0, 0), BAD);
            E.due(x.taking(0, 1), NO);
            E.due(x.worth(0), BAD);
            E.due(x.rate(0, 0), NO);
        });
        E.test(1, "nobody: DONE BY is empty, no one is UP or PRESSED, none presses by any odds", () -> {
            StillMinutes x = new StillMinutes();
            E.due(x.doneBy(), 0);
            E.due(x.now(2), 0);
            E.due(x.now(3), 0);
            E.due(x.odds(3, 0, 0), 1);
            E.due(x.odds(3, 0, 1), 1);
            E.due(x.odds(3, 1, 0), 0);
            E.due(x.odds(3, 1, 1), 1);
        });
    }

    private static StillMinutes full() {
        StillMinutes x = new StillMinutes();
        Check.type(x, "s5" + times(198, " "));
        return x;
    }

    private static void type() {
        E.test(2, "a letter (0 .. 255)", () -> {
            for (int letter = 0; letter < 256; letter++) {
                E.due(new StillMinutes().type(letter), 1);
            }
            for (int letter : new int[] {-1, 256, 257, 32 - 256, 32 + 256, Integer.MIN_VALUE, Integer.MAX_VALUE}) {
                E.refused(StillMinutes::new, BAD, x -> x.type(letter));
            }
        });
        E.test(2, "how many it has: from the first to the 200th", () -> {
            StillMinutes x = new StillMinutes();
            for (int many = 1; many <= 200; many++) {
                E.due(x.type(' '), many);
            }
        });
        E.test(2, "200 letters at most: FULL", () -> {
            E.refused(TextEdgesTest::full, FULL, x -> x.type(';'));
            E.refused(TextEdgesTest::full, FULL, x -> x.type(0));
            E.refused(TextEdgesTest::full, FULL, x -> x.type(255));
        });
        E.test(2, "BAD is ahead of FULL", () -> {
            E.refused(TextEdgesTest::full, BAD, x -> x.type(-1));
            E.refused(TextEdgesTest::full, BAD, x -> x.type(256));
        });
        E.test(2, "a letter that was refused does not come to THE TEXT", () -> {
            StillMinutes x = full();
            x.type(';');
            E.due(x.count(6), 200);
            E.due(x.city(), -210);
            x = new StillMinutes();
            x.type('s');
            x.type(256 + '9');
            x.type('5');
            x.type(';');
            E.due(x.count(6), 3);
            E.due(x.city(), 1);
            E.due(x.count(2), 5);
        });
        E.test(2, "the 200th letter is part of THE TEXT", () -> {
            StillMinutes x = new StillMinutes();
            Check.type(x, times(197, " ") + "s7;");
            E.due(x.count(6), 200);
            E.due(x.city(), 1);
            E.due(x.count(2), 7);
        });
        E.test(2, "a letter changes nothing but THE TEXT", () -> {
            StillMinutes x = Check.told("p0 20;t1 0;");
            x.second();
            E.due(x.type('r'), 1);
            E.due(x.count(3), 1);
            E.due(x.now(0), 1);
            E.due(x.now(4), 1);
        });
    }

    private static void clear() {
        E.test(3, "of an empty TEXT: 0", () -> {
            StillMinutes x = new StillMinutes();
            E.due(x.clear(), 0);
            E.due(x.clear(), 0);
            E.due(x.count(6), 0);
        });
        E.test(3, "of a full TEXT: 200, and letters may come again", () -> {
            StillMinutes x = full();
            E.due(x.clear(), 200);
            E.due(x.count(6), 0);
            E.due(x.type('x'), 1);
            E.due(x.clear(), 1);
        });
        E.test(3, "THE TEXT is empty: none of its letters is read", () -> {
            StillMinutes x = new StillMinutes();
            Check.type(x, "r5;s3;");
            E.due(x.clear(), 6);
            Check.type(x, "s4;");
            E.due(x.city(), 1);
            E.due(x.count(0), 2);
            E.due(x.count(2), 4);
        });
        E.test(3, "nothing else is changed", () -> {
            StillMinutes x = Check.told("r3;p0 20;t1 0;");
            x.found(0, 0, 0);
            x.second();
            x.type('x');
            E.due(x.clear(), 1);
            E.due(x.count(0), 3);
            E.due(x.count(5), 1);
            E.due(x.now(4), 1);
        });
    }

    private static void blanks() {
        E.test(4, "blanks, any number, ahead of, between, behind TOKENS", () -> {
            E.items("   s   5   ;   d   0   1   0   ;   ", 2);
            E.items("s5;" + times(197, " "), 1);
            E.items(times(197, " ") + "s5;", 1);
            E.items("s" + times(197, " ") + "5;", 1);
            E.items("d0" + times(193, " ") + "1 0;", 1);
        });
        E.test(4, "blanks needed only between two NUMBERS: none elsewhere", () -> {
            E.items("r3;s5;d0 1 0;p0 10;t1 0;", 5);
        });
        E.test(4, "blanks needed between two NUMBERS: without them they are one", () -> {
            E.fault("d01 0;", 1);
            E.fault("d0 10;", 3);
            E.fault("d10 0;", 1);
            E.fault("p010;", 1);
            E.fault("p110;", 1);
            E.fault("t10;", 1);
            E.fault("t1 00;", 3);
            E.fault("t2 01;", 3);
        });
        E.test(4, "a blank parts the digits of a NUMBER into two", () -> {
            E.fault("s1 0;", 3);
            E.fault("p0 1 0;", 3);
        });
        E.test(4, "only 32 is a blank", () -> {
            for (int letter : new int[] {0, 9, 10, 13, 31, 33, 160, 255}) {
                E.fault((char) letter + "s5;", 0);
                E.fault("s" + (char) letter + "5;", 1);
                E.fault("s5" + (char) letter + ";", 2);
                E.fault("s5;" + (char) letter, 3);
            }
        });
    }

    private static void items() {
        E.test(4, "ITEMS (none, too): an empty TEXT, or blanks alone", () -> {
            E.items("", 0);
            E.items(" ", 0);
            E.items(times(200, " "), 0);
        });
        E.test(4, "how many ITEMS: as many as there may be", () -> {
            E.items("r2;", 1);
            E.items("r2;s5;" + times(8, "d0 1 0;") + times(5, "p0 10;") + times(5, "t1 0;"), 20);
        });
        E.test(4, "each ended by ; : not left out, not twice, not alone", () -> {
            E.fault("s5 p0 10;", 3);
            E.fault("s5p0 10;", 2);
            E.fault("s5;;", 3);
            E.fault("s5; ;", 4);
            E.fault(";", 0);
            E.fault(" ;s5;", 1);
            E.fault("s5", 2);
        });
        E.test(4, "an ITEM begins with a letter, and holds none behind it", () -> {
            for (char first : "rsdpt".toCharArray()) {
                for (char next : "rsdpt;".toCharArray()) {
                    E.fault(first + "" + next, 1);
                    E.fault(first + " " + next, 2);
                }
            }
            E.fault("5;", 0);
            E.fault("s5;0", 3);
            E.fault("d0 p 0;", 3);
            E.fault("p0 t;", 3);
            E.fault("t2 0 r;", 5);
        });
        E.test(4, "ITEMS but r in any order", () -> {
            E.items("t1 0;p0 10;d0 1 0;s5;", 4);
            E.items("p0 10;s5;t1 0;d0 1 0;p0 10;", 5);
        });
    }

    private static void rooms() {
        E.test(4, "ROOMS 2 .. 6", () -> {
            for (int rooms = 2; rooms <= 6; rooms++) {
                E.due(Check.told("r" + rooms + ";").count(0), rooms);
            }
            E.fault("r0;", 1);
            E.fault("r1;", 1);
            E.fault("r7;", 1);
            E.fault("r 12;", 2);
            E.fault("r99;", 1);
        });
        E.test(4, "r not told: ROOMS as at first", () -> E.due(Check.told("s5;").count(0), 2));
        E.test(4, "r the first of all: behind another ITEM it can't stand", () -> {
            E.fault("s5;r3;", 3);
            E.fault("d0 1 0;r3;", 7);
            E.fault("p0 10; r3;", 7);
            E.fault("t1 0;r3;", 5);
            E.fault("r3;r3;", 3);
            E.fault("r3;s5;r3;", 6);
            E.items("  r3;", 1);
        });
        E.test(4, "r N: one NUMBER", () -> {
            E.fault("r;", 1);
            E.fault("r 3 3;", 4);
        });
    }

    private static void steps() {
        E.test(4, "STEPS 1 .. 20", () -> {
            for (int steps = 1; steps <= 20; steps++) {
                E.due(Check.told("s" + steps + ";").count(2), steps);
            }
            E.fault("s0;", 1);
            E.fault("s21;", 1);
            E.fault("s99;", 1);
        });
        E.test(4, "s not told: STEPS as at first", () -> E.due(Check.told("r3;").count(2), 10));
        E.test(4, "s once at most: s again can't stand", () -> {
            E.fault("s5;s5;", 3);
            E.fault("s5;s6;", 3);
            E.fault("r3;s1;p0 10; s1;", 13);
        });
        E.test(4, "s N: one NUMBER", () -> {
            E.fault("s;", 1);
            E.fault("s5 5;", 3);
        });
    }

    private static void doors() {
        E.test(4, "DOORS 8 at most: a ninth d can't stand", () -> {
            E.items(times(8, "d0 1 0;"), 8);
            E.due(Check.told(times(8, "d0 1 0;")).count(1), 8);
            E.fault(times(9, "d0 1 0;"), 56);
            E.fault(times(8, "d0 1 0;") + "  d", 58);
        });
        E.test(4, "a ROOM that there is not: A, B", () -> {
            E.items("d0 1 0;d1 0 0;", 2);
            E.fault("d2 0 0;", 1);
            E.fault("d0 2 0;", 3);
            E.items("r6;d5 0 0;d0 5 0;", 3);
            E.fault("r6;d6 0 0;", 4);
            E.fault("r6;d0 6 0;", 6);
            E.fault("r5;d5 0 0;", 4);
        });
        E.test(4, "A and B unlike: a B that is A can't stand", () -> {
            E.fault("d0 0 0;", 3);
            E.fault("d1 1 1;", 3);
            E.fault("r6;d5  5 0;", 7);
        });
        E.test(4, "S 0 open, 1 shut, no other", () -> {
            E.due(Check.told("d0 1 0;").door(0, 2), 0);
            E.due(Check.told("d0 1 1;").door(0, 2), 1);
            E.fault("d0 1 2;", 5);
            E.fault("d0 1 10;", 5);
        });
        E.test(4, "d A B S: three NUMBERS", () -> {
            E.fault("d;", 1);
            E.fault("d0;", 2);
            E.fault("d0 1;", 4);
            E.fault("d0 1 0 0;", 7);
        });
        E.test(4, "a DOOR between the same two ROOMS again", () -> {
            StillMinutes x = Check.told("d0 1 1;d0 1 1;d1 0 0;");
            E.due(x.count(1), 3);
            E.due(x.door(2, 0), 1);
            E.due(x.door(2, 1), 0);
            E.due(x.door(2, 2), 0);
        });
    }

    private static void people() {
        E.test(4, "PEOPLE 5 at most: a sixth p can't stand", () -> {
            E.due(Check.told(times(5, "p0 10;")).count(3), 5);
            E.fault(times(6, "p0 10;"), 30);
            E.fault(times(5, "p0 10;") + " p", 31);
        });
        E.test(4, "a ROOM that there is not: R of a PERSON", () -> {
            E.due(Check.told("p1 10;").person(0, 0), 1);
            E.fault("p2 10;", 1);
            E.due(Check.told("r6;p5 10;").person(0, 0), 5);
            E.fault("r6;p6 10;", 4);
        });
        E.test(4, "an AGE (10 .. 60)", () -> {
            for (int age = 10; age <= 60; age++) {
                E.due(Check.told("p0 " + age + ";").person(0, 1), age);
            }
            E.fault("p0 0;", 3);
            E.fault("p0 9;", 3);
            E.fault("p0 61;", 3);
            E.fault("p0 99;", 3);
        });
        E.test(4, "p R A: two NUMBERS", () -> {
            E.fault("p;", 1);
            E.fault("p0;", 2);
            E.fault("p0 10 10;", 6);
        });
    }

    private static void things() {
        E.test(4, "THINGS 5 at most: a sixth t can't stand", () -> {
            E.due(Check.told(times(5, "t1 0;")).count(4), 5);
            E.fault(times(6, "t1 0;"), 25);
            E.fault(times(5, "t1 0;") + " t", 26);
        });
        E.test(4, "a ROUND of 1 to 4 ROOMS", () -> {
            E.due(Check.told("t1 0;").thing(0, 2), 1);
            E.due(Check.told("t2 0 1;").thing(0, 2), 2);
            E.due(Check.told("t3 0 1 0;").thing(0, 2), 3);
            E.due(Check.told("t4 0 1 0 1;").thing(0, 2), 4);
            E.fault("t0;", 1);
            E.fault("t0 0;", 1);
            E.fault("t5 0 1 0 1 0;", 1);
            E.fault("t40 0 1 0 1;", 1);
        });
        E.test(4, "as many ROOMS as the ROUND has, none less, none more", () -> {
            E.fault("t;", 1);
            E.fault("t1;", 2);
            E.fault("t4 0 1 0;", 8);
            E.fault("t1 0 0;", 5);
            E.fault("t4 0 1 0 1 0;", 11);
        });
        E.test(4, "a ROOM that there is not: of a ROUND, each of them", () -> {
            E.fault("t4 2 0 0 0;", 3);
            E.fault("t4 0 2 0 0;", 5);
            E.fault("t4 0 0 2 0;", 7);
            E.fault("t4 0 0 0 2;", 9);
            E.items("r6;t4 5 5 5 5;", 2);
            E.fault("r6;t4 5 5 5 6;", 12);
        });
        E.test(4, "the like may be told again", () -> {
            StillMinutes x = Check.told("t4 1 1 1 1;t4 1 1 1 1;");
            E.due(x.count(4), 2);
            E.due(x.thing(0, 2), 4);
            E.due(x.thing(1, 0), 1);
        });
    }

    private static void numbers() {
        E.test(4, "a NUMBER above 99: its place, wherever it stands", () -> {
            E.fault("100", 0);
            E.fault("s100;", 1);
            E.fault("s 100 ;", 2);
            E.fault("s5 100", 3);
            E.fault("s5;999", 3);
            E.fault("p0 100;", 3);
            E.fault("t1 100;", 3);
            E.fault("s" + times(199, "9"), 1);
            E.fault("s" + times(199, "1"), 1);
        });
        E.test(4, "a NUMBER above 99 that an int cannot hold", () -> {
            E.fault("s4294967297;", 1);
            E.fault("s18446744073709551617;", 1);
            E.fault("p0 4294967316;", 3);
        });
        E.test(4, "a NUMBER with a 0 ahead of others", () -> {
            E.fault("s05;", 1);
            E.fault("s00;", 1);
            E.fault("s005;", 1);
            E.fault("r03;", 1);
            E.fault("p0 010;", 3);
            E.fault("p00 10;", 1);
            E.fault("d0 01 0;", 3);
            E.fault("d0 1 00;", 5);
            E.fault("t01 0;", 1);
            E.fault("00", 0);
            E.fault("s" + times(190, "0") + "5;", 1);
        });
        E.test(4, "0 alone is a NUMBER", () -> E.items("d0 1 0;t2 0 0;", 2));
        E.test(4, "a NUMBER that can't stand where it is", () -> {
            E.fault("0", 0);
            E.fault("99", 0);
            E.fault("s5 0;", 3);
        });
        E.test(4, "a NUMBER ends where no digit follows", () -> {
            E.fault("s5x;", 2);
            E.fault("s5.0;", 2);
            E.fault("s-5;", 1);
            E.fault("s+5;", 1);
        });
    }

    private static void otherLetters() {
        E.test(4, "of any other letter, its place, as the first and behind an ITEM", () -> {
            for (int letter = 0; letter < 256; letter++) {
                boolean begins = "rsdpt".indexOf(letter) >= 0;
                if (letter == ' ') {
                    E.items(" ", 0);
                    E.items("t1 0; ", 1);
                } else if (begins) {
                    E.fault("" + (char) letter, 1);
                    E.fault("t1 0;" + (char) letter, letter == 'r' ? 5 : 6);
                } else {
                    E.fault("" + (char) letter, 0);
                    E.fault("t1 0;" + (char) letter, 5);
                }
            }
        });
        E.test(4, "of any other letter, its place, instead of a NUMBER or a ;", () -> {
            for (int letter = 0; letter < 256; letter++) {
                boolean digit = letter >= '0' && letter <= '9';
                if (letter != ' ' && !digit) {
                    E.fault("s" + (char) letter, 1);
                }
                if (letter != ' ' && letter != ';' && !digit) {
                    E.fault("s5" + (char) letter, 2);
                }
            }
        });
        E.test(4, "large letters are other letters", () -> {
            for (char letter : "RSDPT".toCharArray()) {
                E.fault(letter + "1;", 0);
            }
        });
    }

    private static void endsTooEarly() {
        E.test(4, "the text's length, if it ends too early: every beginning of a text", () -> {
            String text = " r3; s5 ;d0 1 0;p2 10 ;t2 0 1;";
            int ages = text.indexOf("10 ;");
            int items = 0;
            for (int length = 0; length <= text.length(); length++) {
                String part = text.substring(0, length);
                String told = part.trim();
                items += part.endsWith(";") ? 1 : 0;
                if (told.isEmpty() || told.endsWith(";")) {
                    E.items(part, items);
                } else {
                    // a 1 that is left of the 10 is too small an AGE
                    E.fault(part, length == ages + 1 ? ages : length);
                }
            }
        });
        E.test(4, "the text's length, blanks behind too", () -> {
            E.fault("s   ", 4);
            E.fault("s5   ", 5);
            E.fault("d0 1 ", 5);
            E.fault("s5" + times(198, " "), 200);
        });
        E.test(4, "-10 less FAULT: from 0 to 200", () -> {
            E.fault("x", 0);
            E.fault(times(199, " ") + "x", 199);
            E.fault(times(199, " ") + "s", 200);
            E.fault(times(199, " ") + "r", 200);
        });
    }

    private static void firstFault() {
        E.test(4, "the first TOKEN that can't stand there", () -> {
            E.fault("p0 9;x", 3);
            E.fault("x p0 9;", 0);
            E.fault("p0 099;r3;", 3);
            E.fault("s0;s0;", 1);
            E.fault("d2 2 2;", 1);
            E.fault("d0 2 2;", 3);
            E.fault("d1 1 2;", 3);
            E.fault("p2 9;", 1);
            E.fault("t5 2;", 1);
            E.fault("s5;s100;", 3);
            E.fault("r7;d6 0 0;", 1);
        });
        E.test(4, "a fault ahead of where the text ends too early", () -> {
            E.fault("s0", 1);
            E.fault("d0 0", 3);
            E.fault("s5;s", 3);
            E.fault("s5;r", 3);
        });
    }

    private static StillMinutes busyWith(String text) {
        StillMinutes x = Check.told("r3;s6;d0 1 0;d1 2 1;p1 30;p0 20;t2 0 1;t1 2;");
        x.rate(3, 0);
        x.keep(1);
        x.second();
        x.press(1);
        x.carry(1, 0, 0);
        x.found(0, 0, 1);
        x.keep(0);
        Check.type(x, text);
        return x;
    }

    private static void textStays() {
        E.test(4, "with a FAULT nothing changes", () -> {
            E.refused(() -> busyWith("s0;"), -11, StillMinutes::city);
            E.refused(() -> busyWith("r6;s9;d5 4 0;p5 60;t4 5 4 3 2;p5 61;"), -43, StillMinutes::city);
            E.refused(() -> busyWith("r2;s1"), -15, StillMinutes::city);
            E.refused(() -> busyWith("x"), -10, StillMinutes::city);
        });
        E.test(4, "with a FAULT THE TEXT stays, too, and may be told to its end", () -> {
            StillMinutes x = new StillMinutes();
            Check.type(x, "s5");
            E.due(x.city(), -12);
            E.due(x.count(6), 2);
            E.due(x.type(';'), 3);
            E.due(x.city(), 1);
            E.due(x.count(2), 5);
        });
        E.test(4, "what a text with a FAULT told is not there for the next one", () -> {
            StillMinutes x = new StillMinutes();
            Check.type(x, "r6;s9;d0 5 0;p5 19;t1 5;x");
            E.due(x.city(), -34);
            x.clear();
            Check.type(x, "t1 1;");
            E.due(x.city(), 1);
            int[] counts = {2, 0, 10, 0, 1, 0, 0};
            for (int what = 0; what < counts.length; what++) {
                E.due(x.count(what), counts[what]);
            }
        });
        E.test(4, "THE TEXT is empty then", () -> {
            StillMinutes x = new StillMinutes();
            Check.type(x, "s5;");
            E.due(x.city(), 1);
            E.due(x.count(6), 0);
            E.due(x.clear(), 0);
            E.due(x.type('s'), 1);
        });
    }

    private static void readAnew() {
        E.test(4, "read anew by an empty TEXT: what is not told as at first", () -> {
            StillMinutes x = busyWith("");
            E.due(x.city(), 0);
            int[] counts = {2, 0, 10, 0, 0, 0, 0};
            for (int what = 0; what < counts.length; what++) {
                E.due(x.count(what), counts[what]);
            }
            E.due(x.person(0, 0), BAD);
            E.due(x.thing(0, 0), BAD);
            E.due(x.door(0, 0), BAD);
        });
        E.test(4, "read anew as told: THE SECOND, PEOPLE and THINGS are as at first", () -> {
            StillMinutes x = busyWith("d0 1 0;p0 20;t2 0 1;");
            E.due(x.city(), 3);
            for (int what = 0; what < 5; what++) {
                E.due(x.now(what), 0);
            }
            E.due(x.person(0, 0), 0);
            E.due(x.person(0, 1), 20);
            E.due(x.person(0, 2), 0);
            E.due(x.person(0, 3), NONE);
            E.due(x.thing(0, 0), 0);
            E.due(x.thing(0, 1), 0);
            E.due(x.reach(0), 3);
        });
        E.test(4, "read anew: each THING is in the first ROOM of its ROUND, wherever the one of before was", () -> {
            StillMinutes x = Check.told("r3;d0 1 0;d1 2 0;p0 20;t4 0 1 2 1;t2 0 1;");
            Check.seconds(x, 3);
            x.press(0);
            x.carry(0, 1, 2);
            Check.type(x, "t4 1 0 0 0;t2 1 0;");
            E.due(x.city(), 2);
            for (int t = 0; t < 2; t++) {
                E.due(x.thing(t, 0), 1);
                E.due(x.thing(t, 1), 0);
            }
        });
        E.test(4, "read anew: nothing FOUND", () -> {
            StillMinutes x = busyWith("p0 20;t1 0;");
            x.city();
            E.due(x.count(5), 0);
            E.due(x.forget(), 0);
            E.due(x.found(0, 1, 0), 1);
            E.due(x.doneBy(), 0);
        });
        E.test(4, "read anew: IMAGES are gone, both", () -> {
            StillMinutes x = busyWith("");
            x.city();
            E.due(x.back(0), STATE);
            E.due(x.back(1), STATE);
        });
        E.test(4, "read anew: nothing can be UNDONE", () -> {
            StillMinutes x = busyWith("");
            x.city();
            E.due(x.now(4), 0);
            E.due(x.undo(), STATE);
            x.second();
            E.due(x.undo(), 0);
            E.due(x.undo(), STATE);
        });
        E.test(4, "read anew: THE TRACE goes on", () -> {
            StillMinutes x = busyWith("p0 20;");
            E.due(x.trace(), 1011);
            x.city();
            E.due(x.trace(), 1011);
            x.rate(0, 0);
            E.due(x.trace(), 1012);
        });
        E.test(4, "read anew with fewer DOORS: those of before are no way", () -> {
            StillMinutes x = busyWith("r3;p0 20;");
            x.city();
            E.due(x.reach(0), 1);
        });
    }
}
