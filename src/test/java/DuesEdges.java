/** The edges of DUES, BEST, SILENCE, NIGHT, LETTER, SIGHTS, WHO, TURNS, IMAGES, STATUS, THE FRACTION. */
final class DuesEdges extends Sentences {
    static void all() {
        dues();
        best();
        rows();
        silence();
        silenceEnds();
        night();
        letters();
        sights();
        turns();
        images();
        status();
        fraction();
        refused();
    }

    private static void dues() {
        says("DUES 0 .. 7, as they come: CLOCK (0 .. 99), SUN (0 .. 99), WORTH (-99 .. 99):", () -> {
            SpokenClock x = new SpokenClock();
            is("the least of all", x.due(0, 0, -99), 0);
            is("the most of all", x.due(99, 99, 99), 1);
            bad(x, "CLOCK -1", () -> x.due(-1, 0, 0));
            bad(x, "CLOCK 100", () -> x.due(100, 0, 0));
            bad(x, "SUN -1", () -> x.due(0, -1, 0));
            bad(x, "SUN 100", () -> x.due(0, 100, 0));
            bad(x, "WORTH -100", () -> x.due(0, 0, -100));
            bad(x, "WORTH 100", () -> x.due(0, 0, 100));
            for (int i = 2; i < 8; i++) {
                is("DUE " + i, x.due(i, i, i), i);
            }
            full(x, "no DUE 8", () -> x.due(0, 0, 0));
            is("as they come: 0 is paid", x.paid(0), 1);
            is("1 is not", x.paid(1), 0);
            is("0 alone", x.paid(NONE), -99);
        });
        says("it is PAID, if CLOCK 0 is that at least at minute SUN.", () -> {
            SpokenClock x = told("person 0 0;person 0 1;talk 0 0 20;talk 1 0 240;due 9 10 1;due 10 10 1;due 11 10 1;"
                    + "due 0 0 1;due 1 0 1;due 20 99 1;due 21 99 1;");
            is("one below: more than that", x.paid(0), 1);
            is("that", x.paid(1), 1);
            is("not yet that", x.paid(2), 0);
            is("0 at minute 0", x.paid(3), 1);
            is("1 at minute 0", x.paid(4), 0);
            is("at minute 99", x.paid(5), 1);
            is("by CLOCK 0, not by CLOCK 1", x.paid(6), 0);
        });
        says("PAID together: their WORTHS by what is talked.", () -> {
            is("no DUES", new SpokenClock().paid(NONE), 0);
            is("none PAID", told("due 1 9 7;due 1 8 -7;").paid(NONE), 0);
            is("most", told(many("due 0 0 99;", 8)).paid(NONE), 792);
            is("least", told(many("due 0 0-99;", 8)).paid(NONE), -792);
            is("just those", told("person 0 0;talk 0 0 9;due 5 5 7;due 6 5 30;due 9 99 -2;").paid(NONE), 5);
        });
    }

    private static void best() {
        says("BEST: somebody else may let CLOCK 0 go on by 0 to FAST in each of the first 99 minutes,", () -> {
            for (int fast = 1; fast <= 4; fast++) {
                SpokenClock x = told("due " + 10 * fast + " 10 9;fast " + fast + ";");
                is("FAST " + fast + ": just to be reached", x.best(0), 9);
                is("FAST " + fast + ": at once", x.step(0, 0), fast);
                is("FAST " + fast + ": to the last", x.step(0, 9), fast);
                is("FAST " + fast + ": no more", x.step(0, 10), 0);
                SpokenClock y = told("due " + (10 * fast + 1) + " 10 9;fast " + fast + ";");
                is("FAST " + fast + ": just out of reach", y.best(0), 0);
                is("FAST " + fast + ": so no step", y.step(0, 9), 0);
            }
            SpokenClock x = told("due 99 99 9;");
            is("99 minutes", x.best(0), 9);
            is("the first of them", x.step(0, 0), 1);
            is("the last of them", x.step(0, 98), 1);
            is("98 minutes", told("due 99 98 9;").best(0), 0);
            is("no minute ahead of minute 0", told("due 1 0 9;").best(0), 0);
            is("one ahead of minute 1", told("due 1 1 9;").best(0), 9);
        });
        says("whatever PEOPLE do,", () -> {
            SpokenClock x = told("person 1 0;talk 0 0 240;fast 2;due 1 5 -9;due 2 9 5;");
            is("BEST", x.best(1), 3);
            is("MINUTE", x.minute(1), -9 + 5 - 1 - 3);
            is("THE ROW", 10 * x.step(1, 7) + x.step(1, 8), 2);
            x.clears(0);
            is("BEST, if nobody talks", x.best(1), 3);
        });
        says("each step of it costs K (0 .. 9):", () -> {
            SpokenClock x = told("due 1 1 9;due 3 3 9;");
            is("0", x.best(0), 18);
            is("1", x.best(1), 15);
            is("8: the first alone", x.best(8), 1);
            is("9: as alike", x.best(9), 0);
            lost(x, "-1", () -> x.best(-1));
            lost(x, "10", () -> x.best(10));
            is("worth 10 at 9", told("due 1 1 10;").best(9), 1);
            is("three steps at 3 for 9: alike", told("due 3 3 9;").best(3), 0);
            is("three steps at 3 for 10", told("due 3 3 10;").best(3), 1);
        });
        says("the most of WORTHS of DUES that are PAID then less what it costs;", () -> {
            is("no DUES", new SpokenClock().best(9), 0);
            is("most", told(many("due 0 0 99;", 8)).best(9), 792);
            is("less than 0", told(many("due 0 99-99;", 8)).best(0), -792);
            is("what is less than 0 is shunned", told("due 1 99 -99;").best(0), 0);
            is("or waited for", told("due 1 5 -4;due 1 6 9;due 1 5 -3;").best(2), 7);
            is("or borne for more", told("due 1 5 -4;due 3 7 9;due 1 6 -1;").best(0), 4);
            is("or borne behind it", told("due 3 3 20;due 3 4 -15;due 1 9 7;").best(0), 12);
        });
    }

    private static void rows() {
        says("THE ROW: of all such ones the first (by minutes, lesser steps ahead).", () -> {
            SpokenClock x = told("due 2 3 5;fast 2;");
            is("late: 0", x.step(0, 0), 0);
            is("late: 1", x.step(0, 1), 0);
            is("late: 2", x.step(0, 2), 2);
            is("no step for nothing", x.step(0, 3), 0);
            is("nor at the end", x.step(0, 98), 0);
            SpokenClock y = told("due 1 1 5;due 1 2 -5;due 1 3 2;");
            is("as alike: 2", y.best(0), 2);
            is("not at 0", y.step(0, 0), 0);
            is("not at 1", y.step(0, 1), 0);
            is("at 2", y.step(0, 2), 1);
            is("steps that pay just their cost", y.step(2, 2), 0);
            SpokenClock z = told("due 3 2 9;due 7 99 9;fast 2;");
            is("1 ahead of 2", 10 * z.step(0, 0) + z.step(0, 1), 12);
            is("1 ahead of 2, at the end: 96", z.step(0, 96), 0);
            is("1 ahead of 2, at the end", 10 * z.step(0, 97) + z.step(0, 98), 22);
            SpokenClock none = new SpokenClock();
            is("no DUES: still", none.step(0, 0) + none.step(9, 98), 0);
        });
        says("MINUTE: BEST, if CLOCK 0 were 1 at minute 0, less BEST.", () -> {
            is("no DUES", new SpokenClock().minute(0), 0);
            is("most", told(many("due 1 0 99;", 8)).minute(9), 792);
            is("least", told(many("due 1 0-99;", 8)).minute(0), -792);
            is("a step less", told("due 5 10 50;").minute(7), 7);
            is("out of reach but for it", told("due 41 10 9;fast 4;").minute(0), 9);
            is("out of reach with it", told("due 42 10 9;fast 4;").minute(0), 0);
            is("to the end", told("due 99 98 9;").minute(0), 9);
            is("it can not be taken back", told("due 1 50 -7;").minute(0), -7);
            is("paid whatever", told("due 0 0 9;due 0 50 -3;").minute(0), 0);
        });
    }

    private static int[] ends(SpokenClock x, int n, int d) {
        return new int[] {x.silence(n, d, 0), x.silence(n, d, 1), x.silence(n, d, 2), x.silence(n, d, 3)};
    }

    private static void ended(String what, int[] got, int hers, int his, int first, int gone) {
        is(what + ": A", got[0], hers);
        is(what + ": B", got[1], his);
        is(what + ": first", got[2], first);
        is(what + ": gone", got[3], gone);
    }

    private static void silence() {
        says("SILENCE: two, A and B: in each of n minutes (0 .. 40) one of them (A in the first, then by turns) talks:", () -> {
            SpokenClock x = new SpokenClock();
            x.stake(2, 5, 0, 0, 3);
            ended("no minute", ends(x, 0, 1), 0, 0, NONE, 0);
            // A alone: talk costs 3, to be still 2.
            ended("A in the first", ends(x, 1, 1), -2, -5, NONE, 0);
            // B talks for 3 rather than lose 5: A waits for him.
            ended("B in the second", ends(x, 2, 1), -2, -8, 1, 1);
            ended("A in the third", ends(x, 3, 1), -2, -8, 1, 1);
            x.stake(1, 1, 0, 0, 99);
            ended("forty", ends(x, 40, 1), -40, -40, NONE, 0);
            lost(x, "41", () -> x.silence(41, 1, 0));
            lost(x, "-1", () -> x.silence(-1, 1, 0));
        });
        says("the CLOCK goes on by 1, it costs him FEE (0 .. 99);", () -> {
            SpokenClock x = new SpokenClock();
            is("0", x.stake(1, 1, 0, 0, 0), 1);
            ended("for nothing", ends(x, 1, 1), 0, 0, 0, 1);
            ended("not there yet", ends(x, 5, 20), 0, 0, 0, 5);
            is("99", x.stake(20, 0, 99, 0, 99), 1);
            ended("99 for 99", ends(x, 1, 1), 0, 0, 0, 1);
            is("he pays, she does not", x.stake(20, 20, 50, 60, 15), 1);
            ended("she pays for hers, he for his", ends(x, 2, 2), 35, 45, 0, 2);
            bad(x, "-1", () -> x.stake(0, 0, 0, 0, -1));
            bad(x, "100", () -> x.stake(0, 0, 0, 0, 100));
        });
        says("or is still: A loses LA, B LB (0 .. 20 each).", () -> {
            SpokenClock x = new SpokenClock();
            is("20", x.stake(20, 20, 99, 99, 99), 1);
            ended("each in each minute", ends(x, 19, 20), -380, -380, NONE, 0);
            is("0 and 20", x.stake(0, 20, 0, 0, 99), 1);
            ended("B alone", ends(x, 3, 20), 0, -60, NONE, 0);
            is("20 and 0", x.stake(20, 0, 0, 0, 99), 1);
            ended("A alone", ends(x, 3, 20), -60, 0, NONE, 0);
            is("0", x.stake(0, 0, 0, 0, 99), 1);
            ended("none", ends(x, 40, 20), 0, 0, NONE, 0);
            bad(x, "LA -1", () -> x.stake(-1, 0, 0, 0, 0));
            bad(x, "LA 21", () -> x.stake(21, 0, 0, 0, 0));
            bad(x, "LB -1", () -> x.stake(0, -1, 0, 0, 0));
            bad(x, "LB 21", () -> x.stake(0, 21, 0, 0, 0));
        });
        says("As the CLOCK has gone D (1 .. 20) it ends: A gets WA, B WB (-99 .. 99 each).", () -> {
            SpokenClock x = new SpokenClock();
            is("99", x.stake(20, 20, 99, 99, 0), 1);
            ended("1", ends(x, 40, 1), 99, 99, 0, 1);
            ended("20 of 40: none is lost behind it", ends(x, 40, 20), 99, 99, 0, 20);
            ended("20 of 20: in the last minute", ends(x, 20, 20), 99, 99, 0, 20);
            ended("19 of 20: none gets it", ends(x, 19, 20), 0, 0, 0, 19);
            is("-99", x.stake(20, 20, -99, -99, 0), 1);
            // 80 are lost by four still minutes, 100 by five.
            ended("lost less by being still", ends(x, 4, 1), -80, -80, NONE, 0);
            ended("lost more", ends(x, 5, 1), -99, -99, 0, 1);
            is("99 and -99", x.stake(0, 0, 99, -99, 0), 1);
            ended("for her alone", ends(x, 1, 1), 99, -99, 0, 1);
            lost(x, "D 0", () -> x.silence(1, 0, 0));
            lost(x, "D 21", () -> x.silence(1, 21, 0));
            bad(x, "WA -100", () -> x.stake(0, 0, -100, 0, 0));
            bad(x, "WA 100", () -> x.stake(0, 0, 100, 0, 0));
            bad(x, "WB -100", () -> x.stake(0, 0, 0, -100, 0));
            bad(x, "WB 100", () -> x.stake(0, 0, 0, 100, 0));
        });
    }

    private static void silenceEnds() {
        says("Each does what gives him most in the end, as alike: he is still.", () -> {
            SpokenClock x = new SpokenClock();
            ended("all alike", ends(x, 40, 1), 0, 0, NONE, 0);
            x.stake(0, 0, 5, 5, 5);
            ended("5 for 5", ends(x, 9, 1), 0, 0, NONE, 0);
            x.stake(0, 0, 5, 5, 4);
            // She leaves it to him, who leaves it to her: in the last minute it must be done.
            ended("5 for 4: B, in the last minute", ends(x, 8, 1), 5, 1, 7, 1);
            ended("5 for 4: A, in the last minute", ends(x, 9, 1), 1, 5, 8, 1);
            x.stake(1, 0, 5, 5, 4);
            ended("A waits one minute for B", ends(x, 2, 1), 4, 1, 1, 1);
            x.stake(4, 0, 5, 5, 4);
            ended("A, as alike, waits for B", ends(x, 2, 1), 1, 1, 1, 1);
            x.stake(5, 0, 5, 5, 4);
            ended("A does not wait", ends(x, 2, 1), 1, 5, 0, 1);
        });
        says("Told: what A, B have in the end; the first minute in which one talks (none); how far the CLOCK has gone.", () -> {
            SpokenClock x = new SpokenClock();
            ended("nothing", ends(x, 0, 20), 0, 0, NONE, 0);
            x.stake(3, 4, 9, 8, 99);
            ended("none talks", ends(x, 2, 1), -6, -8, NONE, 0);
            x.stake(0, 0, -10, 10, 0);
            ended("B in the last minute", ends(x, 40, 1), -10, 10, 39, 1);
            ended("B in the last but one", ends(x, 39, 1), -10, 10, 37, 1);
            lost(x, "what 4", () -> x.silence(1, 1, 4));
            lost(x, "what -1", () -> x.silence(1, 1, -1));
        });
    }

    private static void chance(SpokenClock x, int n, int w, int c, int above, int below) {
        String what = "night(" + n + ", " + w + ", " + c + ")";
        is(what, x.night(n, w, c), 1);
        is(what + ": above", x.sign(1) == 0 ? 0 : x.limb(0, 0), above);
        is(what + ": below", x.limb(1, 0), below);
        is(what + ": limbs", 10 * x.sign(1) + x.sign(2), above == 0 ? 1 : 11);
    }

    private static void night() {
        says("NIGHT: in each of n minutes (0 .. 60) someone mutters by w of 10 (0 .. 10): the chance that a CLOCK goes on by c"
                + " (0 .. 60) at least.", () -> {
            SpokenClock x = new SpokenClock();
            chance(x, 0, 5, 0, 1, 1);
            chance(x, 0, 5, 1, 0, 1);
            chance(x, 0, 10, 60, 0, 1);
            chance(x, 60, 0, 0, 1, 1);
            chance(x, 60, 0, 1, 0, 1);
            chance(x, 60, 10, 60, 1, 1);
            chance(x, 59, 10, 60, 0, 1);
            chance(x, 7, 10, 7, 1, 1);
            chance(x, 7, 10, 8, 0, 1);
            chance(x, 1, 1, 1, 1, 10);
            chance(x, 1, 9, 1, 9, 10);
            chance(x, 2, 5, 0, 1, 1);
            chance(x, 2, 5, 1, 3, 4);
            chance(x, 2, 5, 2, 1, 4);
            chance(x, 2, 5, 3, 0, 1);
            chance(x, 3, 2, 3, 1, 125);
            bad(x, "n -1", () -> x.night(-1, 5, 1));
            bad(x, "n 61", () -> x.night(61, 5, 1));
            bad(x, "w -1", () -> x.night(1, -1, 1));
            bad(x, "w 11", () -> x.night(1, 11, 1));
            bad(x, "c -1", () -> x.night(1, 5, -1));
            bad(x, "c 61", () -> x.night(1, 5, 61));
            SpokenClock y = new SpokenClock();
            y.night(60, 5, 60);
            is("2 to the 60th: limbs", y.sign(2), 3);
            is("2 to the 60th", 100 * y.limb(1, 0) + 10 * y.limb(1, 1) + y.limb(1, 2), 1);
            is("1 above", 10 * y.sign(1) + y.limb(0, 0), 11);
        });
    }

    private static void letters() {
        says("LETTER: sent from a VALLEY as its CLOCK first is c (0 .. 999) at least, L minutes (0 .. 240) on its way:", () -> {
            SpokenClock x = told("person 1 0;person 0 1;talk 0 10 240;talk 1 0 240;fast 2;");
            is("c 0 is so at minute 0", x.letter(0, 0, 0), 0);
            is("first 1 at least", x.letter(0, 1, 0), 11);
            is("2, too", x.letter(0, 2, 0), 11);
            is("3", x.letter(0, 3, 0), 12);
            is("from the other VALLEY", x.letter(1, 12, 0), 4);
            is("L 240", x.letter(0, 0, 240), 240);
            is("c 999: never", x.letter(0, 999, 0), NONE);
            bad(x, "c -1", () -> x.letter(0, -1, 0));
            bad(x, "c 1000", () -> x.letter(0, 1000, 0));
            bad(x, "L -1", () -> x.letter(0, 0, -1));
            bad(x, "L 241", () -> x.letter(0, 0, 241));
        });
        says("what the other CLOCK is as it comes; none: never, or behind minute 240.", () -> {
            SpokenClock x = told("person 0 0;person 0 1;talk 0 5 40;talk 1 0 239;");
            is("as it comes", x.letter(0, 1, 10), 16);
            is("at minute 239", x.letter(0, 1, 233), 239);
            is("at minute 240", x.letter(0, 1, 234), 239);
            is("behind minute 240", x.letter(0, 1, 235), NONE);
            is("far behind it", x.letter(0, 35, 240), NONE);
            is("sent at last", x.letter(0, 35, 0), 40);
            is("never sent", x.letter(0, 36, 0), NONE);
            is("the other stands still", x.letter(1, 100, 100), 35);
            x.talk(0, 239, 240);
            is("sent at minute 240", x.letter(0, 36, 0), 239);
            is("sent at minute 240, too late", x.letter(0, 36, 1), NONE);
        });
    }

    private static void sights() {
        says("SIGHTS 0 .. 9, as they come: at minute SUN CLOCK 0 was seen at CLOCK (0 .. 999).", () -> {
            SpokenClock x = new SpokenClock();
            is("least", x.sight(0, 0), 0);
            is("most", x.sight(240, 999), 1);
            bad(x, "SUN -1", () -> x.sight(-1, 0));
            bad(x, "SUN 241", () -> x.sight(241, 0));
            bad(x, "CLOCK -1", () -> x.sight(0, -1));
            bad(x, "CLOCK 1000", () -> x.sight(0, 1000));
            for (int i = 2; i < 10; i++) {
                is("SIGHT " + i, x.sight(i, i), i);
            }
            full(x, "no SIGHT 10", () -> x.sight(0, 0));
            SpokenClock y = told("person 0 0;person 0 1;talk 0 0 240;talk 1 0 240;sight 7 7;sight 7 7;");
            is("seen twice alike", y.who(1), 1);
            y.sight(240, 240);
            is("seen at minute 240", y.who(1), 1);
            y.sight(9, 8);
            is("seen otherwise", y.who(0), 0);
            y.clears(2);
            y.sight(7, 6);
            y.sight(7, 7);
            is("seen at two CLOCKS at once, the last one as it was", y.who(0), 0);
            y.clears(2);
            y.sight(7, 7);
            y.sight(7, 6);
            is("the first one as it was", y.who(0), 0);
        });
        says("WHO: sets of PEOPLE of VALLEY 0 (bits) by which it was so, if just these talked (others COUNT 0):", () -> {
            SpokenClock x = new SpokenClock();
            is("nobody, no sight: the empty set", 10 * x.who(0) + x.who(1), 10);
            for (int i = 0; i < 5; i++) {
                x.person(0, 0);
                x.talk(i, i, i + 1);
            }
            is("no sight: all sets", x.who(0), 32);
            x.sight(240, 5);
            is("all five", 100 * x.who(0) + x.who(1), 131);
            x.clears(2);
            x.sight(0, 1);
            is("1 at minute 0", x.who(0), 0);
            x.clears(2);
            x.sight(0, 0);
            is("0 at minute 0", x.who(0), 32);
            x.sight(240, 0);
            is("nobody of them", 100 * x.who(0) + x.who(1), 100);
            SpokenClock y = told(many("person 0 1;", 5) + "talk 0 0 9;");
            is("none of VALLEY 0: the empty set", 10 * y.who(0) + y.who(1), 10);
            y.sight(9, 9);
            is("not by those of VALLEY 1", y.who(0), 0);
            SpokenClock z = told("person 1 0;person 4 0;songs 1;fast 4;talk 0 0 9;talk 1 0 9;sight 9 9;");
            write(z, "o=0");
            is("others COUNT 0 for THE RULE, too", 10 * z.who(0) + z.who(1), 12);
        });
        says("how many, the least bits; SURELY: those in all of these.", () -> {
            SpokenClock x = told(many("person 0 0;", 4) + "talk 0 0 5;talk 1 5 9;talk 2 5 9;sight 9 9;");
            // 0, and one of 1 and 2 or both (FAST 1); 3 does not talk.
            is("how many", x.who(0), 6);
            is("the least", x.who(1), 3);
            is("SURELY", x.who(2), 1);
            x.sight(5, 4);
            is("how many: none", x.who(0), 0);
            is("the least: none", x.who(1), NONE);
            is("SURELY: none", x.who(2), NONE);
            SpokenClock y = told(many("person 0 0;", 5) + "talk 4 0 5;sight 5 5;");
            is("4 is 16", y.who(2), 16);
            is("4 or not, any other", y.who(0), 16);
            is("SURELY nobody", told("person 0 0;sight 5 0;").who(2), 0);
        });
    }

    private static void turns() {
        says("TURNS by h (1 .. 60): in minutes 0 to h less 1 it is PERSON 0's turn, then the next one's, .. , then 0's again:", () -> {
            SpokenClock x = told("person 0 0;person 0 1;person 0 0;talk 0 0 4;talk 1 4 8;talk 2 8 12;talk 1 100 200;");
            is("by 4: 0's again", x.turns(4), 12);
            is("by 3", x.turns(3), 3);
            is("by 5", x.turns(5), 4);
            is("by 1", x.turns(1), 1);
            is("by 60", x.turns(60), 4);
            x.talk(0, 12, 16);
            is("by 4: 1's again", x.turns(4), 16);
            bad(x, "by 0", () -> x.turns(0));
            bad(x, "by 61", () -> x.turns(61));
            SpokenClock y = told("person 0 0;talk 0 0 240;");
            is("one alone has all turns", y.turns(1), NONE);
            SpokenClock z = told(many("person 0 0;", 5) + "talk 0 0 60;talk 1 60 120;talk 2 120 180;talk 3 180 240;");
            is("by 60: 4 has none", z.turns(60), NONE);
            is("by 59", z.turns(59), 59);
        });
        says("the first minute, ahead of the greatest TO of all TALKS, in which whose turn it is does not COUNT; none.", () -> {
            SpokenClock x = told("person 0 0;person 3 1;");
            is("no TALKS: none", x.turns(1), NONE);
            x.talk(0, 0, 9);
            is("ahead of TO: none", x.turns(9), NONE);
            is("ahead of TO", x.turns(8), 8);
            x.talk(0, 10, 11);
            is("1's turn", x.turns(9), 9);
            x.talk(1, 8, 11);
            is("he talks, and mutters at 9", x.turns(9), 10);
            x.clears(0);
            x.talk(1, 100, 200);
            x.talk(0, 239, 240);
            is("minute 0", x.turns(60), 0);
            SpokenClock y = told("person 2 0;talk 0 0 9;");
            is("talks, but does not COUNT", y.turns(1), 0);
            y.put(1, 1);
            is("COUNTS", y.turns(1), NONE);
            y.talk(0, 10, 240);
            is("of all TALKS", y.turns(60), 9);
            y.talk(0, 8, 10);
            is("up to minute 240", y.turns(60), NONE);
        });
    }

    private static void images() {
        says("IMAGES 0, 1 keep all but them, THE TEXT of THE VALLEY, THE FRACTION and STATUS; it goes on from one.", () -> {
            SpokenClock x = told("person 0 0;talk 0 0 9;due 1 5 3;sight 9 9;fast 2;songs 1;bed 7;");
            write(x, "c");
            x.stake(1, 2, 3, 4, 5);
            x.night(1, 5, 1);
            type(x, "bed 9;");
            long full = x.digest();
            is("0 is kept", x.image(0), 1);
            type(x, "person 1 1;person 1 1;");
            x.read();
            x.stake(5, 4, 3, 2, 1);
            x.write('+');
            is("1 is kept", x.image(1), 1);
            x.night(2, 5, 1);
            x.put(9, 9);
            is("on from 0", x.from(0), 1);
            is("PEOPLE, TALKS, DUES, SIGHTS", 1000 * x.count(0) + 100 * x.count(1) + 10 * x.count(2) + x.count(3), 1111);
            is("CLOCK", x.clock(0, 240), 9);
            is("PAID", x.paid(NONE), 3);
            is("WHO", x.who(1), 1);
            is("THE RULE", 10 * x.count(5) + x.fault(), 9);
            is("what SILENCE is played for", x.silence(1, 9, 1), -2);
            is("THE TEXT stays", x.count(4), 22);
            is("THE FRACTION stays", x.limb(1, 0), 4);
            is("STATUS stays", x.status(0), 1);
            x.night(1, 5, 1);
            type(x, "bed 9;");
            is("all", x.digest(), full);
            x.clears(0);
            x.put(2, 70);
            is("on from 1", x.from(1), 1);
            is("1 was not changed by 0", 10 * x.count(0) + x.count(1), 20);
            is("its RULE", x.fault(), 21);
            is("its stake", x.silence(1, 9, 1), 0);
            is("on from 0 again", x.from(0), 1);
            is("0 was not changed by what came", x.digest(), full);
            SpokenClock y = new SpokenClock();
            no(y, "0, not kept", () -> y.from(0));
            y.image(0);
            no(y, "1, not kept", () -> y.from(1));
            bad(y, "no 2", () -> y.image(2));
            bad(y, "no -1", () -> y.image(-1));
        });
    }

    private static void status() {
        says("STATUS: how many calls were refused as BAD, NO, FULL (each answer told so below is such a one).", () -> {
            SpokenClock x = new SpokenClock();
            is("none as BAD", x.status(0), 0);
            is("none as NO", x.status(1), 0);
            is("none as FULL", x.status(2), 0);
            x.put(0, 0);
            x.best(10);
            x.minute(10);
            x.paid(0);
            x.silence(0, 0, 0);
            is("BAD, -10000 too", x.status(0), 5);
            x.turns(1);
            x.from(0);
            x.from(1);
            is("NO", x.status(1), 3);
            for (int i = 0; i < 7; i++) {
                x.person(0, 0);
            }
            is("FULL", x.status(2), 2);
            x.sun(0, 1);
            x.letter(0, 1, 0);
            x.turns(1);
            x.fault();
            x.limb(0, 0);
            x.silence(0, 1, 2);
            type(x, "x");
            x.read();
            x.due(0, 0, -2);
            x.paid(NONE);
            is("NONE, a FAULT, a WORTH of -2 are none of these", 100 * x.status(0) + 10 * x.status(1) + x.status(2), 532);
        });
    }

    private static void fraction() {
        says("THE FRACTION is 0 by 1 at first; lowest terms, below above 0.", () -> {
            SpokenClock x = new SpokenClock();
            is("0", x.sign(0), 0);
            is("no limb above", 10 * x.sign(1) + x.limb(0, 0), -1);
            is("by 1", 10 * x.sign(2) + x.limb(1, 0), 11);
            chance(x, 1, 5, 1, 1, 2);
            chance(x, 1, 4, 1, 2, 5);
            chance(x, 3, 4, 2, 44, 125);
            chance(x, 2, 2, 1, 9, 25);
            chance(x, 1, 3, 1, 3, 10);
            chance(x, 4, 0, 1, 0, 1);
            chance(x, 4, 10, 1, 1, 1);
            is("sign", x.sign(0), 1);
        });
        says("Its limbs are digits to the base 1073741824, the lowest first.", () -> {
            SpokenClock x = new SpokenClock();
            x.night(29, 5, 29);
            is("2 to the 29th: one", x.sign(2), 1);
            is("2 to the 29th", x.limb(1, 0), 536870912);
            x.night(30, 5, 30);
            is("the base: two", x.sign(2), 2);
            is("the lowest first", 10 * x.limb(1, 0) + x.limb(1, 1), 1);
            x.night(30, 5, 1);
            is("one less: one", x.sign(1), 1);
            is("one less", x.limb(0, 0), 1073741823);
            x.night(31, 5, 1);
            is("2 to the 31st less 1: two", x.sign(1), 2);
            is("its lowest", x.limb(0, 0), 1073741823);
            is("its highest", x.limb(0, 1), 1);
            is("no more", x.limb(0, 2), NONE);
            x.night(60, 1, 60);
            is("10 to the 60th: seven", x.sign(2), 7);
            is("its seventh", x.limb(1, 6), 652530);
            is("no eighth", x.limb(1, 7), NONE);
        });
    }

    private static void refused() {
        says("Refused, changing nothing but STATUS, the first of: BAD -2 a number is not as told; NO -3 as told; FULL -4"
                + " (where others are told they count as these).", () -> {
            SpokenClock x = told(many("person 0 0;", 5) + many("talk 0 0 9;", 16));
            bad(x, "a 6th person of no KIND", () -> x.person(6, 0));
            bad(x, "a 6th person of no VALLEY", () -> x.person(0, 2));
            bad(x, "a 17th talk of nobody", () -> x.talk(5, 0, 1));
            bad(x, "a 17th talk of no minute", () -> x.talk(0, 5, 5));
            full(x, "a 6th person", () -> x.person(0, 0));
            full(x, "a 17th talk", () -> x.talk(0, 5, 6));
            SpokenClock y = told(many("due 0 0 0;", 8) + many("sight 0 0;", 10));
            bad(y, "a 9th due", () -> y.due(0, 0, 100));
            bad(y, "an 11th sight", () -> y.sight(241, 0));
            bad(y, "nobody's turns by 0", () -> y.turns(0));
            no(y, "nobody's turns", () -> y.turns(1));
            bad(y, "from an image that can not be", () -> y.from(2));
            no(y, "from an image that was not kept", () -> y.from(1));
            SpokenClock z = new SpokenClock();
            type(z, many(" ", 248));
            write(z, many(" ", 40));
            bad(z, "9 bytes where 2 have room", () -> z.type(0, 9));
            full(z, "3 bytes where 2 have room", () -> z.type(0, 3));
            bad(z, "no character behind 40", () -> z.write(128));
            full(z, "a character behind 40", () -> z.write(0));
            is("the TEXT is as it was: blanks alone", z.read(), 0);
        });
    }
}
