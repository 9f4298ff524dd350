/** The edges of THE VALLEY's text. */
final class ValleyEdges extends Sentences {
    static void all() {
        sizes();
        items();
        tokens();
        tooMany();
        notAsTold();
        ends();
        takingPlace();
    }

    private static void faultAt(int place, String... texts) {
        for (String text : texts) {
            is("'" + text + "'", readNew(text), -10 - place);
        }
    }

    private static void reads(int items, String... texts) {
        for (String text : texts) {
            is("'" + text + "'", readNew(text), items);
        }
    }

    private static void sizes() {
        says("THE VALLEY is a TEXT (250 bytes at most) of ITEMS, each ended by ;", () -> {
            SpokenClock x = new SpokenClock();
            type(x, many("bed 1;", 41) + "bed2");
            is("250", x.count(4), 250);
            is("the 250th is wanted", x.read(), -10 - 250);
            full(x, "no 251st", () -> x.type(';', 1));
            is("it did not come", x.read(), -10 - 250);
            is("250 that are told", read(x, many("bed 1;", 40) + "songs   1;"), 41);
            is("the 250th is read", x.put(1, 0), 1);
            faultAt(5, "fast ;", "fast ;1");
            faultAt(6, "fast 1", "bed 1 bed 2;", "fast 1-");
            faultAt(7, "fast 1;;", "fast 1;1;");
            faultAt(0, ";", ";fast 1;");
        });
    }

    private static void items() {
        says("fast n;", () -> {
            SpokenClock x = new SpokenClock();
            is("1", read(x, "fast 4;fast 1;"), 2);
            is("the last one holds", x.put(0, 2), 1);
            is("4", read(x, "fast 4;"), 1);
            is("it is so", x.put(0, 2), 4);
            faultAt(5, "fast 0;", "fast 5;", "fast 999;", "fast -1;", "fast ;");
            faultAt(7, "fast 1 1;");
        });
        says("songs n;", () -> {
            SpokenClock x = new SpokenClock();
            is("1", read(x, "songs 1;"), 1);
            is("it is so", x.put(1, 1), 1);
            is("0", read(x, "songs 0;"), 1);
            is("so is it", x.put(1, 0), 0);
            faultAt(6, "songs 2;", "songs - 1;", "songs ;");
        });
        says("bed n;", () -> {
            SpokenClock x = new SpokenClock();
            is("0", read(x, "bed 0;"), 1);
            is("it is so", x.put(2, 1), 0);
            is("240", read(x, "bed 240;"), 1);
            is("so is it", x.put(2, 1), 240);
            faultAt(4, "bed 241;", "bed 999;", "bed -1;", "bed ;");
        });
        says("person KIND VALLEY;", () -> {
            reads(1, "person 0 0;", "person 5 1;", "person 4 1;");
            SpokenClock x = told("person 5 0;person 0 1;talk 0 0 9;talk 1 3 5;bed 4;");
            is("the KIND, VALLEY 0", x.clock(0, 240), 4);
            is("VALLEY 1", x.clock(1, 240), 2);
            faultAt(7, "person 6 0;", "person - 1 0;", "person ;");
            faultAt(9, "person 0 2;", "person 0 -1;", "person 0 ;");
            faultAt(11, "person 0 0 0;");
        });
        says("talk PERSON FROM TO;", () -> {
            reads(2, "person 0 0;talk 0 0 1;", "person 0 0;talk 0 239 240;", "person 0 0;talk 0 0 240;");
            SpokenClock x = told("person 0 0;person 0 1;talk 1 5 7;");
            is("PERSON", 10 * x.clock(0, 240) + x.clock(1, 240), 2);
            is("FROM", 10 * x.counts(1, 4) + x.counts(1, 5), 1);
            is("TO", 10 * x.counts(1, 6) + x.counts(1, 7), 10);
            faultAt(5, "talk 0 0 1;", "talk 0 0 1;person 0 0;", "talk -1 0 1;");
            faultAt(16, "person 0 0;talk 1 0 1;", "person 0 0;talk 5 0 1;");
            faultAt(18, "person 0 0;talk 0 240 240;", "person 0 0;talk 0 241 242;", "person 0 0;talk 0 -1 1;");
            faultAt(20, "person 0 0;talk 0 0 0;", "person 0 0;talk 0 7 7;", "person 0 0;talk 0 8 7;",
                    "person 0 0;talk 0 0 241;", "person 0 0;talk 0 0 -1;");
            faultAt(19, "person 0 0;talk 0 0;");
            faultAt(22, "person 0 0;talk 0 0 1 1;", "person 0 0;talk 0 239 241;");
        });
        says("due CLOCK SUN WORTH,", () -> {
            reads(1, "due 0 0 0;", "due 99 99 99;");
            SpokenClock x = told("person 0 0;talk 0 0 9;due 5 6 7;due 5 5 40;due 6 5 30;");
            is("CLOCK, SUN, WORTH", x.paid(NONE), 47);
            is("CLOCK above", x.paid(2), 0);
            faultAt(4, "due 100 0 0;", "due -1 0 0;", "due ;");
            faultAt(6, "due 0 100 0;", "due 0 -1 0;", "due 0 ;");
            faultAt(8, "due 0 0 100;", "due 0 0 ;", "due 0 0 due;");
            faultAt(10, "due 0 0 1 1;", "due 0 0 1 -;");
        });
        says("due CLOCK SUN - WORTH (less than 0 by that, 0 .. 99);", () -> {
            reads(1, "due 0 0 -0;", "due 0 0 -99;", "due 0 0 - 99;", "due 99 99-99;");
            is("less by 99", told("due 0 0 - 99;").paid(NONE), -99);
            is("less by 0", told("due 0 0 -0;").paid(NONE), 0);
            is("and more", told("due 0 0 -7;due 0 0 9;").paid(NONE), 2);
            faultAt(9, "due 0 0 -100;", "due 0 0 -;", "due 0 0 --1;");
            faultAt(10, "due 0 0 - 100;", "due 0 0 - -1;", "due 0 0 -1");
            faultAt(11, "due 0 0 -1 1;");
        });
        says("sight SUN CLOCK.", () -> {
            reads(1, "sight 0 0;", "sight 240 999;");
            SpokenClock x = told("person 0 0;talk 0 0 9;sight 5 4;");
            is("not so at SUN", x.who(0), 0);
            is("so at SUN", told("person 0 0;talk 0 0 9;sight 8 8;").who(1), 1);
            faultAt(6, "sight 241 0;", "sight -1 0;", "sight ;");
            faultAt(8, "sight 0 1000;", "sight 0 -1;", "sight 0 ;");
            faultAt(10, "sight 0 0 0;");
        });
    }

    private static void tokens() {
        says("TOKENS: words of letters a .. z (a KIND is told as its number)", () -> {
            faultAt(0, "Fast 1;", "FAST 1;", "`fast 1;", "{fast 1;", "afast 1;", "fasta 1;", "fastz 1;", "zfast 1;");
            faultAt(2, "  BED 1;");
            faultAt(3, "bed` 1;", "bed{ 1;", "bedB 1;", "bed_1;");
            faultAt(7, "person singer 0;", "person child 0;");
            reads(1, "person 2 0;");
        });
        says("figures (1 to 3 are one number)", () -> {
            reads(1, "bed 1;", "bed 12;", "bed 123;", "bed 001;", "sight 000 999;", "fast 004;");
            faultAt(4, "bed 0001;", "bed 1234;", "bed /1;", "bed :1;", "bed +1;", "bed .1;");
            faultAt(5, "bed 1:;", "bed 9/;", "bed 1.0;", "bed 0a;");
            is("009", told("bed 009;").put(2, 0), 9);
            is("120", told("bed 120;").put(2, 0), 120);
        });
        says("blanks (32), any number, ahead of, between and behind TOKENS (needed only between two words, two numbers)", () -> {
            reads(1, " fast 1;", "fast 1; ", "fast 1 ;", "fast1;", "   fast    1    ;   ", "due 1 2-3;", "due 1 2 -3;",
                    "due 1 2- 3;", "due1 2   -   3 ;");
            reads(2, "fast1;bed2;", "fast 1 ; bed 2 ; ");
            reads(1, many(" ", 243) + "fast 1;", "fast" + many(" ", 244) + "1;", "fast 1;" + many(" ", 243));
            faultAt(0, "fastsongs 1;", "\tfast 1;", "\nfast 1;", "\037fast 1;", "!fast 1;", "\240fast 1;");
            faultAt(4, "fast\t1;", "fast\0371;", "fast!1;", "fast\0001;");
            faultAt(5, "fast fast 1;", "fast \t1;");
            faultAt(9, "person 00;", "person5  ;");
            faultAt(7, "fast 1;\n", "fast 1;\t");
        });
    }

    private static void tooMany() {
        says("FAULT: the place of the first byte of the first TOKEN that can not stand there (a word that is none,", () -> {
            faultAt(0, "fest 1;", "x", "fas 1;", "perso 0 0;", "personn 0 0;", "talks", "sights", "d 1 2 3;", "song 1;");
            faultAt(7, "fast 1;fest 1;", "fast 1;x");
            faultAt(8, "fast 1; x", "fast 1; 1");
            faultAt(5, "fast bed", "fast x;");
            faultAt(6, "fast 1x;", "fast 1fast 1;");
            is("the first of two", readNew("fast 0;fest"), -10 - 5);
        });
        says("a 6th person,", () -> {
            reads(5, many("person 0 0;", 5));
            faultAt(55, many("person 0 0;", 6), many("person 0 0;", 5) + "person", many("person 0 0;", 5) + "person 9 9;");
            faultAt(57, many("person 0 0;", 5) + "  person 0 0;");
        });
        says("17th talk,", () -> {
            reads(17, "person 0 0;" + many("talk0 0 9;", 16));
            faultAt(171, "person 0 0;" + many("talk0 0 9;", 17), "person 0 0;" + many("talk0 0 9;", 16) + "talk");
            faultAt(172, "person 0 0;" + many("talk0 0 9;", 16) + " talk 9 9 9;");
        });
        says("9th due,", () -> {
            reads(8, many("due 0 0 0;", 8));
            faultAt(80, many("due 0 0 0;", 9), many("due 0 0 0;", 8) + "due");
            faultAt(81, many("due 0 0 0;", 8) + " due 0 0 999;");
        });
        says("11th sight at the word,", () -> {
            reads(10, many("sight 0 0;", 10));
            faultAt(100, many("sight 0 0;", 11), many("sight 0 0;", 10) + "sight");
            faultAt(101, many("sight 0 0;", 10) + " sight 999 0;");
        });
    }

    private static void notAsTold() {
        says("a run of four figures or more (at its first one),", () -> {
            faultAt(5, "fast 0001;", "fast 00001;", "fast 1111111111;");
            faultAt(4, "fast0001;");
            faultAt(0, "1234", "0000 fast");
            faultAt(7, "fast 1;0001");
            faultAt(8, "sight 0 0000;");
            reads(1, "fast 001;");
        });
        says("a number not as told,", () -> {
            faultAt(5, "fast 5;", "fast 05;", "fast 005;", "fast 0");
            faultAt(0, "5;", "0", "999");
            faultAt(6, "fast  5;", "songs 2");
            faultAt(8, "due 0 0 100", "due 0 0 999;");
            faultAt(18, "person 0 0;talk 0 240 0;");
        });
        says("a byte that begins none, too);", () -> {
            for (int b : new int[] {0, 1, 9, 10, 13, 31, 33, 44, 46, 47, 58, 60, 64, 65, 90, 95, 96, 123, 127, 128, 160, 228, 255}) {
                SpokenClock x = new SpokenClock();
                type(x, "fast 1;");
                x.type(b, 1);
                is("byte " + b, x.read(), -10 - 7);
                x.wipe();
                x.type(b, 1);
                is("byte " + b + " alone", x.read(), -10);
            }
            faultAt(4, "fast\3771;", "bed ,");
            faultAt(5, "fast ,", "fast ?1;");
            faultAt(6, "fast 1,", "fast 1:", "fast 1/");
        });
    }

    private static void ends() {
        says("the TEXT's length, if it ends too early (an empty one, one of blanks alone: none).", () -> {
            faultAt(4, "fast", "talk");
            faultAt(5, "fast ", "songs");
            faultAt(6, "fast 1", "person");
            faultAt(7, "fast 1 ", "due 0 0");
            faultAt(8, "person 0", "due 0 0 ");
            faultAt(9, "due 0 0 -", "due 0 0 0");
            faultAt(10, "due 0 0 -0", "person 0 0");
            faultAt(24, "person 0 0;talk 0 0 240 ");
            is("an empty one", new SpokenClock().read(), 0);
            reads(0, "", " ", many(" ", 250));
        });
    }

    private static void takingPlace() {
        says("It takes the place of PEOPLE, TALKS, DUES, SIGHTS, FAST, SONGS, BED (as at first, if not told); THE RULE stays.", () -> {
            String[] texts = {"", "  ", "person 1 1;", "fast 3;", "songs 1;", "bed 9;", "due 1 1 1;", "sight 1 1;"};
            for (String text : texts) {
                SpokenClock x = told("person 4 0;person 0 0;talk 0 0 9;talk 1 5 9;due 1 2 3;due 1 2 4;sight 1 1;"
                        + "sight 2 2;sight 3 3;fast 2;songs 1;bed 8;");
                write(x, "c<5");
                x.stake(1, 2, 3, 4, 5);
                x.night(1, 5, 1);
                x.image(0);
                is("ahead of it", 1000 * x.clock(0, 240) + 10 * x.best(0) + x.who(0), 9072);
                int items = text.replace(" ", "").isEmpty() ? 0 : 1;
                is("'" + text + "'", read(x, text), items);
                is("PEOPLE", x.count(0), text.startsWith("person") ? 1 : 0);
                is("TALKS", x.count(1), 0);
                is("DUES", x.count(2), text.startsWith("due") ? 1 : 0);
                is("SIGHTS", x.count(3), text.startsWith("sight") ? 1 : 0);
                is("THE RULE", 10 * x.count(5) + x.fault(), 29);
                is("what SILENCE is played for", x.silence(1, 1, 0), -1);
                is("THE FRACTION", x.limb(1, 0), 2);
                is("CLOCK 0", x.clock(0, 240), 0);
                is("BEST", x.best(0), text.startsWith("due") ? 1 : 0);
                is("WHO", x.who(0), text.startsWith("sight") ? 0 : 1);
                is("FAST", x.put(0, 1), text.startsWith("fast") ? 3 : 1);
                is("SONGS", x.put(1, 0), text.startsWith("songs") ? 1 : 0);
                is("BED", x.put(2, 0), text.startsWith("bed") ? 9 : 60);
                is("an IMAGE stays", x.from(0) * 10 + x.count(0), 12);
            }
        });
    }
}
