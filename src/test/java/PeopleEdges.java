/** The edges of the clocks, the people, their kinds and talks. */
final class PeopleEdges extends Sentences {
    static void all() {
        valleys();
        rows();
        settings();
        kinds();
        goingOn();
    }

    private static void valleys() {
        // "THE SUN has minutes 0 .." ends the part ahead of the Terms, which go on with its last one.
        says("## Terms 240.", () -> {
            SpokenClock x = told("person 0 0;talk 0 0 240;");
            is("the first minute that is talked in", x.counts(0, 0), 1);
            is("the last one", x.counts(0, 239), 1);
            is("minute 240 begins", x.clock(0, 240), 240);
            is("and is reached", x.sun(0, 240), 240);
            is("seen there", x.sight(240, 240), 0);
            is("come there", x.letter(0, 0, 240), 0);
            bad(x, "no minute 241", () -> x.clock(0, 241));
            bad(x, "none seen there", () -> x.sight(241, 240));
            bad(x, "no minute -1", () -> x.clock(0, -1));
            bad(x, "no talk in 240", () -> x.counts(0, 240));
        });
        says("VALLEYS 0, 1 have a CLOCK each: 0 at minute 0.", () -> {
            SpokenClock x = told("person 1 0;person 0 1;talk 0 0 240;talk 1 0 7;fast 4;");
            is("CLOCK 0 at minute 0", x.clock(0, 0), 0);
            is("CLOCK 1 at minute 0", x.clock(1, 0), 0);
            is("CLOCK 0 at minute 1", x.clock(0, 1), 2);
            is("CLOCK 1 at minute 1", x.clock(1, 1), 1);
            is("CLOCK 0 goes on by itself", x.clock(0, 240), 480);
            is("CLOCK 1 goes on by itself", x.clock(1, 240), 7);
            bad(x, "no VALLEY -1", () -> x.clock(-1, 0));
            bad(x, "no VALLEY 2", () -> x.clock(2, 0));
        });
    }

    private static void rows() {
        says("PEOPLE 0 .. 4, as they come: a KIND, a VALLEY.", () -> {
            SpokenClock x = new SpokenClock();
            is("0", x.person(0, 1), 0);
            is("1", x.person(1, 0), 1);
            is("2", x.person(2, 1), 2);
            is("3", x.person(5, 0), 3);
            is("4", x.person(4, 1), 4);
            full(x, "no 5", () -> x.person(0, 0));
            is("five", x.count(0), 5);
            for (int i = 0; i < 5; i++) {
                x.talk(i, 10 * i, 10 * i + 1);
            }
            is("0 is as he came", 10 * x.counts(0, 0) + x.clock(1, 1), 11);
            is("1 is as he came", 10 * x.counts(1, 10) + x.clock(0, 11), 21);
            is("4 is as he came", x.counts(4, 40), 0);
        });
        says("TALKS 0 .. 15, as they come:", () -> {
            SpokenClock x = new SpokenClock();
            x.person(0, 0);
            for (int i = 0; i < 16; i++) {
                is("TALK " + i, x.talk(0, 15 * i, 15 * i + 1), i);
            }
            full(x, "no TALK 16", () -> x.talk(0, 1, 3));
            is("sixteen", x.count(1), 16);
            is("each of them counts", x.clock(0, 240), 16);
            is("the first", x.clock(0, 1), 1);
            is("the last", x.counts(0, 225), 1);
        });
        says("one of PEOPLE may talk in minutes from FROM to TO less 1", () -> {
            SpokenClock x = told("person 0 0;talk 0 100 103;person 0 0;");
            is("ahead of FROM", x.counts(0, 99), 0);
            is("FROM", x.counts(0, 100), 1);
            is("TO less 1", x.counts(0, 102), 1);
            is("TO", x.counts(0, 103), 0);
            is("the next one not", x.counts(1, 100), 0);
            x.talk(1, 239, 240);
            is("the last minute", x.counts(1, 239), 1);
            is("the last but one", x.counts(1, 238), 0);
            x.talk(1, 0, 1);
            is("the first minute", x.counts(1, 0), 1);
            is("the second", x.counts(1, 1), 0);
            bad(x, "none of PEOPLE: 2", () -> x.talk(2, 0, 1));
            bad(x, "none of PEOPLE: -1", () -> x.talk(-1, 0, 1));
            SpokenClock y = new SpokenClock();
            bad(y, "no PEOPLE", () -> y.talk(0, 0, 1));
        });
        says("(0 <= FROM < TO <= 240)", () -> {
            SpokenClock x = told("person 0 0;");
            bad(x, "FROM -1", () -> x.talk(0, -1, 1));
            is("FROM 0", x.talk(0, 0, 1), 0);
            bad(x, "FROM is TO", () -> x.talk(0, 7, 7));
            bad(x, "FROM is TO: 0", () -> x.talk(0, 0, 0));
            bad(x, "FROM is TO: 240", () -> x.talk(0, 240, 240));
            bad(x, "FROM behind TO", () -> x.talk(0, 8, 7));
            is("FROM just ahead of TO", x.talk(0, 6, 7), 1);
            is("TO 240", x.talk(0, 239, 240), 2);
            bad(x, "TO 241", () -> x.talk(0, 239, 241));
            bad(x, "FROM 240", () -> x.talk(0, 240, 241));
            bad(x, "TO 0", () -> x.talk(0, -1, 0));
            bad(x, "TO the greatest of all", () -> x.talk(0, 0, Integer.MAX_VALUE));
            bad(x, "FROM the least of all", () -> x.talk(0, Integer.MIN_VALUE, 1));
        });
    }

    private static void settings() {
        says("FAST (1 .. 4; 1 at first)", () -> {
            SpokenClock x = new SpokenClock();
            is("1 at first", x.put(0, 4), 1);
            is("4", x.put(0, 1), 4);
            is("1", x.put(0, 1), 1);
            bad(x, "0", () -> x.put(0, 0));
            bad(x, "5", () -> x.put(0, 5));
        });
        says("SONGS (count: 1, or not: 0, at first)", () -> {
            SpokenClock x = new SpokenClock();
            is("not at first", x.put(1, 1), 0);
            is("1", x.put(1, 0), 1);
            is("0", x.put(1, 0), 0);
            bad(x, "2", () -> x.put(1, 2));
            bad(x, "-1", () -> x.put(1, -1));
        });
        says("BED (0 .. 240; 60 at first)", () -> {
            SpokenClock x = new SpokenClock();
            is("60 at first", x.put(2, 240), 60);
            is("240", x.put(2, 0), 240);
            is("0", x.put(2, 0), 0);
            bad(x, "-1", () -> x.put(2, -1));
            bad(x, "241", () -> x.put(2, 241));
        });
    }

    private static void kinds() {
        says("In a minute one COUNTS, if it is in one of his TALKS (else 0)", () -> {
            SpokenClock x = told("person 0 0;person 0 0;talk 0 10 20;talk 0 15 30;talk 0 15 16;");
            is("in none", x.counts(0, 9), 0);
            is("in the first", x.counts(0, 10), 1);
            is("in three at once, once", x.counts(0, 15), 1);
            is("in the second alone", x.counts(0, 29), 1);
            is("behind all", x.counts(0, 30), 0);
            is("not in another's", x.counts(1, 15), 0);
            is("all together", x.clock(0, 240), 20);
        });
        says("0 PERSON: 1.", () -> {
            SpokenClock x = told("person 0 0;talk 0 0 240;bed 0;");
            is("at 0", x.counts(0, 0), 1);
            is("at 1", x.counts(0, 1), 1);
            is("at 239", x.counts(0, 239), 1);
            bad(x, "no KIND -1", () -> x.person(-1, 0));
        });
        says("1 LOUD (under PERSON): twice.", () -> {
            SpokenClock x = told("person 1 0;talk 0 0 239;bed 0;");
            is("at 0", x.counts(0, 0), 2);
            is("at 238", x.counts(0, 238), 2);
            is("not in a TALK: 0", x.counts(0, 239), 0);
        });
        says("2 SINGER (under PERSON): 1, if SONGS count; else 0.", () -> {
            SpokenClock x = told("person 2 0;talk 0 0 239;songs 1;");
            is("SONGS count", x.counts(0, 0), 1);
            is("not in a TALK: 0", x.counts(0, 239), 0);
            x.put(1, 0);
            is("they do not", x.counts(0, 0), 0);
            is("at no minute", x.clock(0, 240), 0);
        });
        says("3 MUTTERER (under PERSON): 1, if 3 divides the minute; else 0.", () -> {
            SpokenClock x = told("person 3 0;talk 0 0 240;");
            int[] minutes = {0, 1, 2, 3, 4, 5, 6, 237, 238, 239};
            int[] due = {1, 0, 0, 1, 0, 0, 1, 1, 0, 0};
            for (int i = 0; i < minutes.length; i++) {
                is("at " + minutes[i], x.counts(0, minutes[i]), due[i]);
            }
            is("all day", x.clock(0, 240), 80);
            x.clears(0);
            x.talk(0, 1, 3);
            is("not in a TALK: 0", x.counts(0, 0), 0);
        });
        says("4 TOLD (under SINGER): as SINGER, if THE RULE tells something but 0 for him then; else 0 (a FAULT: 0).", () -> {
            SpokenClock x = told("person 4 0;talk 0 0 240;songs 1;");
            is("an empty RULE is a FAULT", x.counts(0, 5), 0);
            write(x, "1");
            is("1", x.counts(0, 5), 1);
            write(x, "0");
            is("0", x.counts(0, 5), 0);
            write(x, "-1");
            is("-1", x.counts(0, 5), 1);
            write(x, "2");
            is("2: 1", x.counts(0, 5), 1);
            write(x, "1)");
            is("a FAULT behind a truth", x.counts(0, 5), 0);
            write(x, "s=5");
            is("then", x.counts(0, 5), 1);
            is("not then", x.counts(0, 6), 0);
            x.put(1, 0);
            is("as SINGER", x.counts(0, 5), 0);
            x.clears(0);
            x.put(1, 1);
            is("not in a TALK: 0", x.counts(0, 5), 0);
        });
        says("5 CHILD (under PERSON): 1, if the CLOCK of his VALLEY is below BED then; else 0.", () -> {
            SpokenClock x = told("person 5 0;person 0 1;person 5 1;talk 0 0 240;talk 1 0 240;bed 3;");
            is("at 2", x.counts(0, 2), 1);
            is("at BED", x.counts(0, 3), 0);
            is("no more", x.clock(0, 240), 3);
            x.put(2, 0);
            is("BED 0: never", x.clock(0, 240), 0);
            x.put(2, 240);
            is("BED 240: all day", x.clock(0, 240), 240);
            x.put(0, 4);
            x.talk(2, 0, 240);
            x.put(2, 7);
            is("below his own VALLEY's CLOCK", x.counts(2, 3), 1);
            is("behind his own VALLEY's CLOCK", x.counts(2, 4), 0);
            is("though the other's is below", x.counts(0, 4), 1);
            bad(x, "no KIND 6", () -> x.person(6, 0));
        });
    }

    private static void goingOn() {
        says("In each minute a CLOCK goes on by what PEOPLE of its VALLEY COUNT together, FAST at most.", () -> {
            SpokenClock x = told("person 1 0;person 1 0;person 0 1;person 0 0;fast 4;"
                    + "talk 0 10 15;talk 1 11 15;talk 2 0 240;talk 3 12 15;");
            is("nobody of it: 0", x.clock(0, 10), 0);
            is("2", x.clock(0, 11), 2);
            is("4: FAST", x.clock(0, 12), 6);
            is("5: 4 at most", x.clock(0, 13), 10);
            is("behind all", x.clock(0, 240), 18);
            x.put(0, 3);
            is("FAST 3: 2, 3, 3, 3, 3", x.clock(0, 240), 14);
            x.put(0, 2);
            is("FAST 2", x.clock(0, 240), 10);
            x.put(0, 1);
            is("FAST 1", x.clock(0, 240), 5);
            is("the other CLOCK by its own", x.clock(1, 240), 240);
            is("one COUNTS as ever", x.counts(0, 12), 2);
            SpokenClock y = told(many("person 1 0;", 5) + "fast 4;" + "talk 0 0 240;talk 1 0 240;talk 2 0 240;"
                    + "talk 3 0 240;talk 4 0 240;");
            is("10 a minute: 4", y.clock(0, 240), 960);
        });
    }
}
