/** The edges that the promises themselves name, one by one. */
final class PromiseEdges extends Sentences {
    private static final int LEAST = Integer.MIN_VALUE, MOST = Integer.MAX_VALUE;

    static void all() {
        first();
        rows();
        texts();
        clocks();
        dues();
        nights();
        looks();
        last();
    }

    private static void first() {
        says("`SpokenClock()`: As told; nobody.", () -> {
            SpokenClock x = new SpokenClock();
            for (int what = 0; what <= 5; what++) {
                is("count " + what, x.count(what), 0);
            }
            is("nobody", x.person(0, 0), 0);
            SpokenClock y = new SpokenClock();
            is("none is shared", y.count(0), 0);
            bad(y, "0 is nobody", () -> y.counts(0, 0));
            no(y, "no turns", () -> y.turns(1));
            no(y, "no IMAGE 0", () -> y.from(0));
            no(y, "no IMAGE 1", () -> y.from(1));
            is("CLOCKS", y.clock(0, 240) + y.clock(1, 240), 0);
            is("an empty RULE", y.fault(), 1);
            is("an empty TEXT", y.read(), 0);
        });
        says("`int put(int what, int v)`: FAST (0), SONGS (1), BED (2): what it was. BAD.", () -> {
            SpokenClock x = new SpokenClock();
            is("FAST was", x.put(0, 3), 1);
            is("FAST is", x.put(0, 2), 3);
            is("SONGS were", x.put(1, 1), 0);
            is("SONGS are", x.put(1, 1), 1);
            is("BED was", x.put(2, 59), 60);
            is("BED is", x.put(2, 60), 59);
            bad(x, "what -1", () -> x.put(-1, 1));
            bad(x, "what 3", () -> x.put(3, 1));
            bad(x, "what the least", () -> x.put(LEAST, 1));
            bad(x, "what the most", () -> x.put(MOST, 1));
            bad(x, "v the least", () -> x.put(2, LEAST));
            bad(x, "v the most", () -> x.put(2, MOST));
            is("it stays", x.put(0, 1), 2);
        });
    }

    private static void rows() {
        says("`int person(int kind, int valley)`: One of PEOPLE: the number. BAD; FULL: 5.", () -> {
            SpokenClock x = new SpokenClock();
            bad(x, "KIND -1", () -> x.person(-1, 0));
            bad(x, "KIND 6", () -> x.person(6, 0));
            bad(x, "VALLEY -1", () -> x.person(0, -1));
            bad(x, "VALLEY 2", () -> x.person(0, 2));
            for (int i = 0; i < 5; i++) {
                is("the number", x.person(i + i % 2, i % 2), i);
            }
            full(x, "a 6th", () -> x.person(5, 1));
            bad(x, "a 6th of no KIND", () -> x.person(6, 1));
        });
        says("`int talk(int person, int from, int to)`: A TALK: its number. BAD; FULL: 16.", () -> {
            SpokenClock x = told("person 0 0;");
            for (int i = 0; i < 16; i++) {
                is("its number", x.talk(0, 0, 240), i);
            }
            full(x, "a 17th", () -> x.talk(0, 0, 240));
            bad(x, "a 17th of none", () -> x.talk(1, 0, 240));
            is("all go", x.clears(0), 16);
            is("0 again", x.talk(0, 0, 1), 0);
        });
        says("`int due(int clock, int sun, int worth)`: A DUE: its number. BAD; FULL: 8.", () -> {
            SpokenClock x = new SpokenClock();
            for (int i = 0; i < 8; i++) {
                is("its number", x.due(0, 0, i), i);
            }
            full(x, "a 9th", () -> x.due(0, 0, 0));
            bad(x, "a 9th of no SUN", () -> x.due(0, 100, 0));
            bad(x, "CLOCK the most", () -> x.due(MOST, 0, 0));
            bad(x, "WORTH the least", () -> x.due(0, 0, LEAST));
            is("eight together", x.paid(NONE), 28);
        });
        says("`int sight(int sun, int clock)`: A SIGHT: its number. BAD; FULL: 10.", () -> {
            SpokenClock x = new SpokenClock();
            for (int i = 0; i < 10; i++) {
                is("its number", x.sight(i, 0), i);
            }
            full(x, "an 11th", () -> x.sight(0, 0));
            bad(x, "an 11th of no CLOCK", () -> x.sight(0, 1000));
            bad(x, "SUN the most", () -> x.sight(MOST, 0));
            bad(x, "CLOCK the least", () -> x.sight(0, LEAST));
        });
        says("`int clears(int what)`: All TALKS (0), DUES (1), SIGHTS (2) go: how many there were. BAD.", () -> {
            SpokenClock x = told("person 0 0;" + many("talk 0 0 9;", 3) + many("due 0 0 9;", 2) + "sight 0 0;");
            bad(x, "-1", () -> x.clears(-1));
            bad(x, "3", () -> x.clears(3));
            is("TALKS", x.clears(0), 3);
            is("TALKS alone", 1000 * x.count(0) + 100 * x.count(1) + 10 * x.count(2) + x.count(3), 1021);
            is("DUES", x.clears(1), 2);
            is("DUES alone", 1000 * x.count(0) + 100 * x.count(1) + 10 * x.count(2) + x.count(3), 1001);
            is("SIGHTS", x.clears(2), 1);
            is("SIGHTS alone", 1000 * x.count(0) + 100 * x.count(1) + 10 * x.count(2) + x.count(3), 1000);
            is("none there", x.clears(0) + x.clears(1) + x.clears(2), 0);
            is("nobody talks any more", x.clock(0, 240), 0);
        });
    }

    private static void texts() {
        says("`int type(long v, int n)`: The lowest n (1 .. 8) bytes of v, the highest of them first, come to THE TEXT:"
                + " how many it has. BAD; FULL.", () -> {
            SpokenClock x = new SpokenClock();
            bad(x, "0 bytes", () -> x.type(0, 0));
            bad(x, "9 bytes", () -> x.type(0, 9));
            bad(x, "the most bytes", () -> x.type(0, MOST));
            bad(x, "the least", () -> x.type(0, LEAST));
            is("8", x.type(0x6661737420343b20L, 8), 8);
            is("the highest first", 10 * x.read() + x.put(0, 1), 14);
            x.wipe();
            is("the lowest 5 of 8", x.type(0x4142436265642039L, 5), 5);
            is("and 1", x.type(0xffffffffffffff3bL, 1), 6);
            is("bed 9", 10 * x.read() + x.put(2, 60), 19);
            x.wipe();
            is("8, the highest a byte of 255", x.type(-1L, 8), 8);
            is("a byte of 255", x.read(), -10);
            x.wipe();
            for (int i = 1; i <= 30; i++) {
                x.type(0x2020202020202020L, 8);
            }
            is("247", x.type(0x20202020202020L, 7), 247);
            full(x, "4 where 3 have room", () -> x.type(0, 4));
            full(x, "8 where 3 have room", () -> x.type(0, 8));
            is("none of them came: blanks", x.read(), 0);
            is("3 where 3 have room", x.type(0x202020, 3), 250);
            full(x, "1 where none has room", () -> x.type(32, 1));
            bad(x, "0 where none has room", () -> x.type(32, 0));
        });
        says("`int wipe()`: THE TEXT is empty: how many it had.", () -> {
            SpokenClock x = new SpokenClock();
            is("none", x.wipe(), 0);
            type(x, "fest 1;");
            is("seven", x.wipe(), 7);
            is("none again", x.wipe(), 0);
            is("empty", 10 * x.count(4) + x.read(), 0);
            type(x, many(" ", 250));
            is("all", x.wipe(), 250);
            is("room for all", x.type(0, 8), 8);
        });
        says("`int read()`: THE VALLEY is read: how many ITEMS. -10 less the FAULT: all stays.", () -> {
            SpokenClock x = told("person 0 0;talk 0 0 9;due 1 2 3;sight 4 5;fast 2;songs 1;bed 7;");
            long before = x.digest();
            type(x, many("person 1 1;", 3) + "fast 3;songs 0;bed 8;x");
            long typed = x.digest();
            is("at the last byte", x.read(), -10 - 54);
            is("all stays", x.digest(), typed);
            is("CLOCK stays", x.clock(0, 240), 9);
            is("the TEXT stays", x.wipe(), 55);
            is("as it was", x.digest(), before);
            is("at place 0", read(x, "x"), -10);
            is("at place 249", read(x, many(" ", 249) + "x"), -10 - 249);
            is("at place 250", read(x, many(" ", 246) + "fast"), -10 - 250);
            is("no ITEM", read(x, ""), 0);
            is("one", read(x, "bed 1;"), 1);
            is("most", read(x, many("bed1;", 50)), 50);
            is("it can be read again", x.read(), 50);
        });
        says("`int write(int character)`: A character (0 .. 127) behind THE RULE: how many. BAD; FULL: 40.", () -> {
            SpokenClock x = new SpokenClock();
            bad(x, "-1", () -> x.write(-1));
            bad(x, "128", () -> x.write(128));
            is("0", x.write(0), 1);
            is("127", x.write(127), 2);
            is("it is no character of a UNIT", x.fault(), 1);
            for (int i = 3; i <= 40; i++) {
                is("how many", x.write('1'), i);
            }
            full(x, "a 41st", () -> x.write('1'));
            bad(x, "a 41st that is none", () -> x.write(128));
            SpokenClock y = new SpokenClock();
            y.write('1');
            y.write('-');
            y.write('2');
            is("behind", y.fault(), NONE);
            y.write('-');
            is("behind that", y.fault(), 41);
        });
        says("`int erase()`: It is empty: how many.", () -> {
            SpokenClock x = new SpokenClock();
            is("none", x.erase(), 0);
            write(x, many("1", 40));
            is("40", x.erase(), 40);
            is("empty", 10 * x.count(5) + x.fault(), 1);
            is("room again", x.write('1'), 1);
            is("no FAULT", x.fault(), NONE);
            is("one", x.erase(), 1);
            is("FAULT again", x.fault(), 1);
        });
        says("`int fault()`: FAULT of THE RULE (empty: 1). NONE.", () -> {
            SpokenClock x = new SpokenClock();
            is("empty", x.fault(), 1);
            x.write(' ');
            is("a blank", x.fault(), 11);
            x.write('1');
            is("none", x.fault(), NONE);
            x.write('!');
            is("stands there not", x.fault(), 21);
            is("none is refused", x.status(0) + x.status(1) + x.status(2), 0);
        });
    }

    private static void clocks() {
        says("`int clock(int valley, int sun)`: The CLOCK of a VALLEY as a minute (0 .. 240) begins. BAD.", () -> {
            SpokenClock x = told("person 0 0;person 1 1;talk 0 0 240;talk 1 239 240;fast 4;");
            is("at 0", x.clock(0, 0), 0);
            is("as 1 begins", x.clock(0, 1), 1);
            is("as 239 begins", 1000 * x.clock(0, 239) + x.clock(1, 239), 239000);
            is("at 240", 1000 * x.clock(0, 240) + x.clock(1, 240), 240002);
            bad(x, "sun -1", () -> x.clock(0, -1));
            bad(x, "sun 241", () -> x.clock(0, 241));
            bad(x, "valley -1", () -> x.clock(-1, 0));
            bad(x, "valley 2", () -> x.clock(2, 0));
            bad(x, "the least", () -> x.clock(0, LEAST));
            bad(x, "the most", () -> x.clock(MOST, 0));
        });
        says("`int counts(int person, int sun)`: What one COUNTS in a minute (0 .. 239). BAD.", () -> {
            SpokenClock x = told("person 1 0;person 0 1;talk 0 0 240;talk 1 0 240;");
            is("at 0", x.counts(0, 0), 2);
            is("at 239", 10 * x.counts(0, 239) + x.counts(1, 239), 21);
            bad(x, "minute -1", () -> x.counts(0, -1));
            bad(x, "minute 240", () -> x.counts(0, 240));
            bad(x, "person -1", () -> x.counts(-1, 0));
            bad(x, "person 2", () -> x.counts(2, 0));
            bad(x, "person, the most", () -> x.counts(MOST, 0));
            SpokenClock y = told(many("person 0 0;", 5));
            is("person 4", y.counts(4, 0), 0);
            bad(y, "person 5", () -> y.counts(5, 0));
        });
        says("`int sun(int valley, int c)`: The first minute at which a CLOCK is c (0 .. 999) at least. NONE. BAD.", () -> {
            SpokenClock x = told("person 1 0;person 0 1;talk 0 5 8;talk 0 239 240;talk 1 0 3;fast 2;");
            is("0 at minute 0", x.sun(0, 0), 0);
            is("1 at least", x.sun(0, 1), 6);
            is("2", x.sun(0, 2), 6);
            is("3 at least", x.sun(0, 3), 7);
            is("6", x.sun(0, 6), 8);
            is("at minute 240", x.sun(0, 7), 240);
            is("8, too", x.sun(0, 8), 240);
            is("9: none", x.sun(0, 9), NONE);
            is("999: none", x.sun(0, 999), NONE);
            is("the other", x.sun(1, 3), 3);
            is("the other: none", x.sun(1, 4), NONE);
            bad(x, "c -1", () -> x.sun(0, -1));
            bad(x, "c 1000", () -> x.sun(0, 1000));
            bad(x, "valley -1", () -> x.sun(-1, 0));
            bad(x, "valley 2", () -> x.sun(2, 0));
            SpokenClock y = told(many("person 1 0;", 2) + "talk 0 0 240;talk 1 0 240;fast 4;");
            is("960 at minute 240", y.sun(0, 960), 240);
            is("957 at minute 240", y.sun(0, 957), 240);
            is("956 at minute 239", y.sun(0, 956), 239);
            is("961: none", y.sun(0, 961), NONE);
        });
        says("`int letter(int valley, int c, int l)`: LETTER. NONE. BAD.", () -> {
            SpokenClock x = told("person 0 0;person 0 1;talk 0 0 1;talk 1 0 240;");
            is("1 at minute 1", x.letter(0, 1, 0), 1);
            is("comes at 240", x.letter(0, 1, 239), 240);
            is("comes at 241: none", x.letter(0, 1, 240), NONE);
            is("2: none", x.letter(0, 2, 0), NONE);
            is("none is refused", x.status(0) + x.status(1) + x.status(2), 0);
            bad(x, "valley -1", () -> x.letter(-1, 0, 0));
            bad(x, "valley 2", () -> x.letter(2, 0, 0));
            bad(x, "c 1000, never so", () -> x.letter(0, 1000, 0));
            bad(x, "l the most", () -> x.letter(0, 1, MOST));
            bad(x, "l the least", () -> x.letter(0, 1, LEAST));
        });
        says("`int turns(int h)`: TURNS. NONE. BAD; NO: nobody is there.", () -> {
            SpokenClock x = new SpokenClock();
            no(x, "nobody", () -> x.turns(1));
            no(x, "nobody, by 60", () -> x.turns(60));
            bad(x, "nobody, by 0", () -> x.turns(0));
            bad(x, "nobody, by 61", () -> x.turns(61));
            x.person(0, 1);
            is("no TALKS", x.turns(60), NONE);
            x.talk(0, 1, 2);
            is("minute 0", x.turns(60), 0);
            bad(x, "by the least", () -> x.turns(LEAST));
            bad(x, "by the most", () -> x.turns(MOST));
        });
    }

    private static void dues() {
        says("`int paid(int due)`: Whether a DUE is PAID: 1, 0; PAID together (due = NONE). BAD: -10000.", () -> {
            SpokenClock x = told("due 0 0 9;due 1 9 8;");
            is("1", x.paid(0), 1);
            is("0", x.paid(1), 0);
            is("together", x.paid(NONE), 9);
            lost(x, "2", () -> x.paid(2));
            lost(x, "-2", () -> x.paid(-2));
            lost(x, "the most", () -> x.paid(MOST));
            SpokenClock y = new SpokenClock();
            is("no DUE together", y.paid(NONE), 0);
            lost(y, "no DUE 0", () -> y.paid(0));
            SpokenClock z = told(many("due 0 0 1;", 8));
            is("7", z.paid(7), 1);
            lost(z, "8", () -> z.paid(8));
        });
        says("`int best(int k)`: BEST. BAD: -10000.", () -> {
            SpokenClock x = told("due 1 5 9;");
            is("k 0", x.best(0), 9);
            is("k 9", x.best(9), 0);
            x.due(0, 0, 8);
            is("one DUE more", x.best(9), 8);
            x.clears(1);
            is("none", x.best(9), 0);
            lost(x, "k -1", () -> x.best(-1));
            lost(x, "k 10", () -> x.best(10));
            lost(x, "k the least", () -> x.best(LEAST));
            lost(x, "k the most", () -> x.best(MOST));
        });
        says("`int step(int k, int minute)`: Steps of THE ROW in a minute (0 .. 98). BAD.", () -> {
            SpokenClock x = told("due 4 1 99;due 8 99 99;fast 4;");
            is("minute 0", x.step(9, 0), 4);
            is("minute 98", x.step(9, 98), 4);
            is("between", x.step(9, 1) + x.step(9, 97), 0);
            is("another k", x.step(0, 98), 4);
            bad(x, "minute -1", () -> x.step(0, -1));
            bad(x, "minute 99", () -> x.step(0, 99));
            bad(x, "k -1", () -> x.step(-1, 0));
            bad(x, "k 10", () -> x.step(10, 0));
            bad(x, "minute, the most", () -> x.step(0, MOST));
            bad(x, "k, the least", () -> x.step(LEAST, 0));
        });
        says("`int minute(int k)`: MINUTE. BAD: -10000.", () -> {
            SpokenClock x = told("due 2 5 90;");
            is("k 0", x.minute(0), 0);
            is("k 9", x.minute(9), 9);
            lost(x, "k -1", () -> x.minute(-1));
            lost(x, "k 10", () -> x.minute(10));
            lost(x, "k the most", () -> x.minute(MOST));
        });
        says("`int stake(int la, int lb, int wa, int wb, int fee)`: SILENCE is to be told: LA, LB, WA, WB, FEE: 1"
                + " (0, 0, 0, 0, 0 at first). BAD.", () -> {
            SpokenClock x = new SpokenClock();
            is("0 at first: A", x.silence(40, 1, 0), 0);
            is("0 at first: B", x.silence(40, 1, 1), 0);
            is("0 at first: still", x.silence(40, 1, 2), NONE);
            is("most", x.stake(20, 20, 99, 99, 99), 1);
            is("least", x.stake(0, 0, -99, -99, 0), 1);
            is("LA, LB, WA, WB, FEE", x.stake(1, 2, 9, 8, 4), 1);
            is("WA less FEE", x.silence(1, 1, 0), 5);
            is("WB", x.silence(1, 1, 1), 8);
            is("LA", x.silence(1, 2, 0), -1);
            is("LB", x.silence(1, 2, 1), -2);
            bad(x, "LA 21", () -> x.stake(21, 0, 0, 0, 0));
            bad(x, "LB 21", () -> x.stake(0, 21, 0, 0, 0));
            bad(x, "WA 100", () -> x.stake(0, 0, 100, 0, 0));
            bad(x, "WB -100", () -> x.stake(0, 0, 0, -100, 0));
            bad(x, "FEE 100", () -> x.stake(0, 0, 0, 0, 100));
            bad(x, "FEE, the most", () -> x.stake(0, 0, 0, 0, MOST));
            is("it stays", x.silence(1, 1, 0), 5);
        });
        says("`int silence(int n, int d, int what)`: SILENCE: what A has (0), B (1), the first minute of talk (2; NONE),"
                + " how far the CLOCK has gone (3). BAD: -10000.", () -> {
            SpokenClock x = new SpokenClock();
            x.stake(20, 20, 9, 8, 1);
            is("A", x.silence(40, 20, 0), -1);
            is("B", x.silence(40, 20, 1), -2);
            is("the first minute", x.silence(40, 20, 2), 0);
            is("how far", x.silence(40, 20, 3), 20);
            is("no minute: A, B", x.silence(0, 20, 0) + x.silence(0, 20, 1), 0);
            is("no minute: none", x.silence(0, 20, 2), NONE);
            is("no minute: not at all", x.silence(0, 20, 3), 0);
            lost(x, "n -1", () -> x.silence(-1, 1, 0));
            lost(x, "n 41", () -> x.silence(41, 1, 0));
            lost(x, "d 0", () -> x.silence(1, 0, 0));
            lost(x, "d 21", () -> x.silence(1, 21, 0));
            lost(x, "what -1", () -> x.silence(1, 1, -1));
            lost(x, "what 4", () -> x.silence(1, 1, 4));
            lost(x, "d the least", () -> x.silence(1, LEAST, 0));
            lost(x, "n the most", () -> x.silence(MOST, 1, 0));
        });
    }

    private static void nights() {
        says("`int night(int n, int w, int c)`: NIGHT is THE FRACTION: 1. BAD.", () -> {
            SpokenClock x = new SpokenClock();
            is("1", x.night(60, 10, 60), 1);
            is("1 by 1", 100 * x.sign(0) + 10 * x.limb(0, 0) + x.limb(1, 0), 111);
            is("1, for none, too", x.night(0, 0, 60), 1);
            is("0 by 1", 100 * x.sign(0) + 10 * x.sign(1) + x.limb(1, 0), 1);
            x.night(1, 7, 1);
            bad(x, "n 61", () -> x.night(61, 0, 0));
            bad(x, "w 11", () -> x.night(0, 11, 0));
            bad(x, "c 61", () -> x.night(0, 0, 61));
            bad(x, "n -1", () -> x.night(-1, 0, 0));
            bad(x, "w -1", () -> x.night(0, -1, 0));
            bad(x, "c -1", () -> x.night(0, 0, -1));
            bad(x, "n the most", () -> x.night(MOST, 0, 0));
            is("it stays", 100 * x.limb(0, 0) + x.limb(1, 0), 710);
        });
        says("`int who(int what)`: WHO: how many sets (0), the least (1), SURELY (2, bits). NONE (1, 2): there is none. BAD.", () -> {
            SpokenClock x = told("person 0 0;person 0 0;talk 0 0 2;talk 1 0 2;sight 2 2;");
            is("how many", x.who(0), 3);
            is("the least", x.who(1), 1);
            is("SURELY", x.who(2), 0);
            x.put(0, 2);
            is("how many at 2", x.who(0), 2);
            x.sight(2, 3);
            is("there is none", x.who(0), 0);
            is("no least", x.who(1), NONE);
            is("none SURELY", x.who(2), NONE);
            is("none is refused", x.status(0) + x.status(1) + x.status(2), 0);
            bad(x, "what -1", () -> x.who(-1));
            bad(x, "what 3", () -> x.who(3));
        });
    }

    private static void looks() {
        says("`int sign(int what)`: THE FRACTION: its sign (0: -1, 0, 1), how many limbs above (1), below (2). BAD.", () -> {
            SpokenClock x = new SpokenClock();
            is("sign 0", x.sign(0), 0);
            is("above: none", x.sign(1), 0);
            is("below: one", x.sign(2), 1);
            x.night(60, 1, 59);
            is("sign 1", x.sign(0), 1);
            // 60 * 9 + 1 above, 10 to the 60th below.
            is("above: one", x.sign(1), 1);
            is("below: seven", x.sign(2), 7);
            bad(x, "-1", () -> x.sign(-1));
            bad(x, "3", () -> x.sign(3));
        });
        says("`int limb(int which, int i)`: Limb i above (0), below (1). NONE: not so many. BAD: i below 0, too.", () -> {
            SpokenClock x = new SpokenClock();
            is("0 has none above", x.limb(0, 0), NONE);
            is("0 has one below", x.limb(1, 0), 1);
            is("0 has no second below", x.limb(1, 1), NONE);
            x.night(60, 1, 59);
            is("541 above", x.limb(0, 0), 541);
            is("no second above", x.limb(0, 1), NONE);
            is("the first below", x.limb(1, 0), 0);
            is("the seventh below", x.limb(1, 6), 652530);
            is("no eighth below", x.limb(1, 7), NONE);
            is("no ninth", x.limb(1, 8), NONE);
            is("none so far off", x.limb(0, MOST), NONE);
            bad(x, "above -1", () -> x.limb(0, -1));
            bad(x, "below -1", () -> x.limb(1, -1));
            bad(x, "the least", () -> x.limb(1, LEAST));
            bad(x, "which -1", () -> x.limb(-1, 0));
            bad(x, "which 2", () -> x.limb(2, 0));
        });
        says("`int image(int i)`: An IMAGE is kept: 1. BAD.", () -> {
            SpokenClock x = told("bed 5;");
            bad(x, "-1", () -> x.image(-1));
            bad(x, "2", () -> x.image(2));
            is("0", x.image(0), 1);
            x.put(2, 6);
            is("1", x.image(1), 1);
            x.put(2, 7);
            x.from(0);
            is("0 is its own", x.put(2, 8), 5);
            x.from(1);
            is("1 is its own", x.put(2, 9), 6);
            is("0 anew", x.image(0), 1);
            x.put(2, 10);
            x.from(0);
            is("the last one is kept", x.put(2, 8), 9);
        });
        says("`int from(int i)`: It goes on from an IMAGE: 1. BAD; NO: none was kept.", () -> {
            SpokenClock x = new SpokenClock();
            no(x, "0", () -> x.from(0));
            no(x, "1", () -> x.from(1));
            bad(x, "-1", () -> x.from(-1));
            bad(x, "2", () -> x.from(2));
            x.image(1);
            no(x, "0, when 1 is kept", () -> x.from(0));
            is("1", x.from(1), 1);
            is("1 again", x.from(1), 1);
            x.person(0, 0);
            x.talk(0, 0, 9);
            x.due(0, 0, 9);
            x.write('1');
            is("ahead", 1000 * x.clock(0, 240) + 100 * x.best(0) + 10 * x.who(0) + x.fault(), 9919);
            is("back", 10 * x.from(1) + x.count(0), 10);
            is("it goes on from there", 1000 * x.clock(0, 240) + 100 * x.best(0) + 10 * x.who(0) + x.fault(), 11);
        });
        says("`int status(int what)`: STATUS: BAD (0), NO (1), FULL (2). -1: another what (counts as BAD).", () -> {
            SpokenClock x = new SpokenClock();
            is("what 3", x.status(3), -1);
            is("counts as BAD", x.status(0), 1);
            is("what -1", x.status(-1), -1);
            is("counts, too", x.status(0), 2);
            is("what, the most", x.status(MOST), -1);
            is("BAD alone", 100 * x.status(0) + 10 * x.status(1) + x.status(2), 300);
            x.turns(1);
            is("NO", 100 * x.status(0) + 10 * x.status(1) + x.status(2), 310);
            write(x, many("1", 42));
            is("FULL", 100 * x.status(0) + 10 * x.status(1) + x.status(2), 312);
        });
        says("`int count(int what)`: How many: 0 PEOPLE, 1 TALKS, 2 DUES, 3 SIGHTS, 4 bytes of THE TEXT, 5 characters of THE"
                + " RULE. BAD.", () -> {
            SpokenClock x = told(many("person 0 0;", 5) + many("talk 0 0 9;", 2) + many("due 0 0 9;", 8) + "sight 0 0;");
            type(x, "1234567");
            write(x, "123");
            int[] due = {5, 2, 8, 1, 7, 3};
            for (int what = 0; what <= 5; what++) {
                is("what " + what, x.count(what), due[what]);
            }
            bad(x, "what -1", () -> x.count(-1));
            bad(x, "what 6", () -> x.count(6));
        });
    }

    private static long mixed(long... numbers) {
        long h = 701;
        for (long v : numbers) {
            h = 31 * h + v;
        }
        return h;
    }

    private static void last() {
        says("`long digest()`: h = 701; then h = 31 h + v for each v: count(0) to count(5); FAST, SONGS, BED; of PEOPLE KIND,"
                + " VALLEY; of TALKS the PERSON, FROM, TO; of DUES CLOCK, SUN, WORTH; of SIGHTS SUN, CLOCK; LA, LB, WA, WB, FEE;"
                + " characters of THE RULE; THE FRACTION: sign(0) to sign(2), all limbs above, below.", () -> {
            SpokenClock x = new SpokenClock();
            is("of nothing", x.digest(), mixed(0, 0, 0, 0, 0, 0, 1, 0, 60, 0, 0, 0, 0, 0, 0, 0, 1, 1));
            is("items", read(x, "person 5 0;person 2 1;talk 1 3 240;talk 0 4 9;due 7 6-99;due 8 5 4;sight 240 999;sight 3 2;"
                    + "fast 4;songs 1;bed 240;"), 11);
            write(x, "\0\177 1");
            x.stake(20, 19, -99, 99, 98);
            x.night(60, 1, 60);
            // 10 to the 60th to the base 2 to the 30th.
            java.math.BigInteger below = java.math.BigInteger.TEN.pow(60);
            long[] limbs = new long[7];
            for (int i = 0; i < 7; i++) {
                limbs[i] = below.shiftRight(30 * i).intValue() & 1073741823;
            }
            is("of all, and it wraps", x.digest(), mixed(2, 2, 2, 2, x.count(4), 4, 4, 1, 240, 5, 0, 2, 1, 1, 3, 240, 0, 4, 9,
                    7, 6, -99, 8, 5, 4, 240, 999, 3, 2, 20, 19, -99, 99, 98, 0, 127, 32, 49, 1, 1, 7, 1,
                    limbs[0], limbs[1], limbs[2], limbs[3], limbs[4], limbs[5], limbs[6]));
            long before = x.digest();
            x.image(0);
            x.put(9, 9);
            is("not of IMAGES, not of STATUS", x.digest(), before);
        });
        says("nothing about an object after its 512th call.", () -> {
            SpokenClock x = new SpokenClock();
            x.person(1, 0);
            for (int i = 0; i < 16; i++) {
                x.talk(0, 15 * i, 15 * i + 15);
            }
            for (int i = 17; i < 510; i++) {
                x.put(0, 1 + i % 4);
            }
            is("the 511th", x.put(0, 4), 2);
            is("the 512th", x.clock(0, 240), 480);
        });
    }
}
