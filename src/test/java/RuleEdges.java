/** The edges of THE RULE. */
final class RuleEdges extends Sentences {
    static void all() {
        signs();
        units();
        names();
        working();
        faults();
    }

    private static void noFault(String... rules) {
        for (String rule : rules) {
            is("'" + rule + "'", fault(rule), NONE);
        }
    }

    private static void faultAt(int due, String... rules) {
        for (String rule : rules) {
            is("'" + rule + "'", fault(rule), due);
        }
    }

    private static void truths(String... rules) {
        for (String rule : rules) {
            is("'" + rule + "'", tells(rule, 4), 1);
        }
    }

    private static void noughts(String... rules) {
        for (String rule : rules) {
            is("'" + rule + "'", tells(rule, 4), 0);
        }
    }

    private static void signs() {
        says("THE RULE is a TEXT (40 characters at most)", () -> {
            SpokenClock x = new SpokenClock();
            write(x, many("1+", 19) + "1 ");
            is("40", x.count(5), 40);
            is("all of them are read", x.fault(), NONE);
            full(x, "no 41st", () -> x.write('+'));
            is("it did not come", x.fault(), NONE);
            write(x, many("1+", 20));
            is("40, too early", x.fault(), 401);
        });
        says("VALUE: BOTHS with | between;", () -> {
            noFault("1", "1|1", many("1|", 19) + "1");
            faultAt(1, "|", "|1");
            faultAt(21, "1|", "1||1");
            truths("0|1", "1|0", "0|0|3", "0&0|1", "1|0&0");
            noughts("0|0", "0|0|0");
        });
        says("BOTH: HELDS with & between;", () -> {
            noFault("1&1", many("1&", 19) + "1");
            faultAt(1, "&", "&1");
            faultAt(21, "1&", "1&&1", "1&|1");
            truths("1&1", "1&2&4", "1<2&2<3");
            noughts("0&1", "1&0", "1&1&0", "2<2&1");
        });
        says("HELD: SUM, or SUM < SUM, SUM > SUM, SUM = SUM;", () -> {
            noFault("1<1", "1>1", "1=1", "(1<1)<1", "1<(1<1)");
            faultAt(1, "<", "<1", ">1", "=1");
            faultAt(21, "1<", "1>", "1=", "1<=1", "1<>1");
            faultAt(31, "1<1<1", "1<1>1", "1=1=1", "1>1=1");
            truths("1<2", "2>1", "2=2", "-1<0", "0>-1", "1+1=2", "1<1+1");
            noughts("2<2", "2>2", "2<1", "1>2", "1=2", "2=1");
        });
        says("SUM: TERMS with + or -;", () -> {
            noFault("1+1", "1-1", "1--1", "1+-1", many("1-", 19) + "1");
            faultAt(1, "+", "+1");
            faultAt(21, "1+", "1-", "1++1", "1-+1");
            truths("2+3=5", "2-3=-1", "9-3-2=4", "9-3+2=8", "1+2*3=7");
            noughts("3-3", "3+-3", "0+0");
        });
        says("TERM: UNITS with * or /;", () -> {
            noFault("1*1", "1/1", "1*-1", "1/!1", many("1/", 19) + "1");
            faultAt(1, "*", "/", "*1", "/1");
            faultAt(21, "1*", "1/", "1**1", "1*/1");
            truths("2*3=6", "7/2=3", "24/4/2=3", "2*7/4=3", "7/4*2=2");
            noughts("3*0", "0*3", "1/2");
        });
    }

    private static void units() {
        says("UNIT: digits (1 to 6),", () -> {
            noFault("0", "9", "12", "123456", "999999", "000000", "000001");
            faultAt(2, "1234567", "0000001", "12345678", many("1", 40));
            faultAt(22, "1+1234567");
            truths("9=10-1", "999999=1000*1000-1", "999999>999998", "000007=7", "999999+1>999999");
            is("a seventh is none", tells("1000000", 4), 0);
            faultAt(1, "/0", ":");
            faultAt(11, "1:", "9:", "0a");
        });
        says("( VALUE ),", () -> {
            noFault("(1)", "( 1|1 )", "(1)*(1)", "((1))");
            faultAt(11, "(", "()", "1)", "(|1)");
            faultAt(21, "(1", "(c", "((");
            faultAt(31, "(1)(1)", "(1)1", "(1))");
            truths("(1+2)*3=9", "2*(3-1)=4", "((5))=5", "!(0|0)", "1-(1-1)=1");
        });
        says("! UNIT, - UNIT;", () -> {
            noFault("!1", "-1", "!!1", "--1", "!-1", "-!1", "!(1)", "-(1)", "!c", many("!", 39) + "1", many("-", 39) + "c");
            faultAt(11, "!", "-", "!)", "-*1", "1!", "1!1");
            is("40 of them", fault(many("!", 40)), 401);
            truths("!0", "!!7=1", "-!0=-1", "!-0", "--5=5", "-2*3=-6", "2*-3=-6", "!0+1=2", "!2=0", "-1+2=1");
            noughts("!1", "!-1", "!!0", "-0", many("!", 39) + "1");
        });
    }

    private static void names() {
        says("c (the CLOCK of his VALLEY as the minute begins)", () -> {
            is("0 at minute 0", tells("c=0", 0), 1);
            SpokenClock x = told("person 4 1;person 1 0;talk 0 0 240;talk 1 0 240;songs 1;fast 2;");
            write(x, "c<240");
            is("239 at minute 239", x.counts(0, 239), 1);
            write(x, "c=s");
            is("of his VALLEY, as each minute begins", x.clock(1, 240), 240);
            is("not yet gone on", x.counts(0, 1), 1);
            write(x, "c<5");
            is("goes on till it is 5", x.clock(1, 240), 5);
        });
        says("s (the minute)", () -> {
            is("0", tells("s=0", 0), 1);
            is("239", tells("s=239", 239), 1);
            is("not 240", tells("s=240", 239), 0);
        });
        says("o (what PEOPLE of his VALLEY with lesser numbers COUNT in it)", () -> {
            SpokenClock x = told("person 4 0;person 1 0;person 1 1;person 4 0;person 1 0;songs 1;bed 0;"
                    + "talk 0 0 240;talk 1 0 240;talk 2 0 240;talk 3 0 240;talk 4 0 9;");
            write(x, "o=0");
            is("nobody has a lesser number", x.counts(0, 5), 1);
            is("3 is not told by it", x.counts(3, 5), 0);
            write(x, "o=3|p=0");
            is("not himself, not the other VALLEY's, not greater ones", x.counts(3, 5), 1);
            write(x, "o=3|p=0&s<100");
            is("what they COUNT in the minute", x.counts(3, 99), 1);
            is("and in another", x.counts(3, 100), 0);
            is("FAST does not hold it", x.put(0, 1), 1);
            SpokenClock y = told(many("person 1 0;", 4) + "person 4 0;songs 1;talk 0 0 9;talk 1 0 9;talk 2 0 9;"
                    + "talk 3 0 8;talk 4 0 9;");
            write(y, "o=8");
            is("most", y.counts(4, 7), 1);
            is("one does not talk", y.counts(4, 8), 0);
        });
        says("p (his number)", () -> {
            SpokenClock x = told(many("person 4 0;", 5) + "songs 1;talk 0 0 9;talk 1 0 9;talk 2 0 9;talk 3 0 9;talk 4 0 9;");
            write(x, "p=0");
            is("0", 10 * x.counts(0, 1) + x.counts(1, 1), 10);
            write(x, "p=4");
            is("4", 10 * x.counts(4, 1) + x.counts(3, 1), 10);
            write(x, "p");
            is("0 is no truth", 10 * x.counts(0, 1) + x.counts(1, 1), 1);
        });
        says("b (BED), f (FAST)", () -> {
            SpokenClock x = told("person 4 0;talk 0 0 240;songs 1;bed 240;fast 4;");
            write(x, "b=240&f=4");
            is("most", x.counts(0, 0), 1);
            x.put(2, 0);
            x.put(0, 1);
            write(x, "b=0&f=1");
            is("least", x.counts(0, 0), 1);
            is("at first", tells("b=60&f=1", 0), 1);
        });
    }

    private static void working() {
        says("truths 1, 0 (not 0 is a truth)", () -> {
            truths("(1|0)=1", "(7|0)=1", "(0|7)=1", "(2&4)=1", "(1<2)=1", "(2>1)=1", "(2=2)=1", "!0=1", "-1|0", "-1&-1",
                    "(0|0)=0", "(1&0)=0", "(2<1)=0", "(1>2)=0", "(1=2)=0", "!9=0", "-1", "999999");
            noughts("0", "0&-1", "!-1", "0|0");
        });
        says("all is worked", () -> {
            truths("1|0/0", "1|9999/0", "!(0&1/0)", "(1|0)&(1|1/0)");
            faultAt(41, "1|1+", "0&1+");
            is("what stands behind a truth has its FAULT", tells("1|1+", 4), 0);
            is("what stands behind a 0 has its FAULT", tells("!(0&)", 4), 0);
        });
        says("longs wrap", () -> {
            // 2 to the 63rd is the least long, 2 to the 64th is 0.
            truths("65536*65536*65536*32768<0", "65536*65536*65536*32768-1>0", "65536*65536*65536*65536=0",
                    "-(65536*65536*65536*32768)<0", "65536*65536*65536*32768/-1<0", "65536*32768>0");
            noughts("65536*65536*65536*65536");
        });
        says("/ cut toward 0, by 0 is 0", () -> {
            truths("7/2=3", "-7/2=-3", "7/-2=-3", "-7/-2=3", "-1/2=0", "1/-2=0", "7/0=0", "0/0=0", "-7/0=0", "6/3=2",
                    "-6/3=-2", "7/(1-1)+1=1");
            noughts("7/8", "-7/8", "5/0");
        });
        says("blanks anywhere but within digits", () -> {
            noFault(" 1", "1 ", "  1 + 1  ", "( 1 )", "! 1", "- - 1", "1 < 2", "c & s", "!( c )");
            faultAt(21, "1 2", "0 0");
            faultAt(31, "12 3");
            faultAt(71, "123456 7");
            truths("  1", " ( 1 + 2 ) * 3 = 9 ", "1 - - 1 = 2");
            faultAt(11, "1\t", "1\n", "1\037", "1\0", "1!");
        });
    }

    private static void faults() {
        says("FAULT: 10 times the place of the first character that can not stand there", () -> {
            faultAt(1, "a", "d", "C", ")", "=", "\0", "~", "\177", "\t1");
            faultAt(11, "1a", "1(", "1!", "cc", "c1", "1c", " ~", "!)");
            faultAt(21, "1+)", "1 1", "1+*", "c c");
            faultAt(31, "1+1)1", "1<1)", "(1))", "1+-)");
            faultAt(41, "((1)a", "(1)+)");
            is("the first of two", fault("1+a+a"), 21);
            is("a number that can not stand there, of however many digits", fault("1 1234567"), 21);
            is("a ( that can not stand there, however deep", fault(many("(", 8) + "1("), 91);
            is("at place 39", fault(many("1+", 19) + "1)"), 391);
        });
        says("(its length: too early) and 1", () -> {
            faultAt(1, "");
            faultAt(11, " ", "(", "!", "-");
            faultAt(21, "1+", "(1", "  ", "! ");
            faultAt(31, "1+ ", "(1 ", "1<-");
            is("40 blanks", fault(many(" ", 40)), 401);
            is("40 characters", fault(many("(1)+", 10)), 401);
        });
        says("2: a seventh digit (at the first)", () -> {
            faultAt(2, "1234567", "12345678", "0000000", "1234567)");
            faultAt(12, "(1234567)", " 1234567", "!1234567");
            faultAt(42, "123-1234567");
            is("at place 33", fault(many("!", 33) + "1234567"), 332);
            noFault("123456", "123456+123456");
        });
        says("3: the 9th ( open.", () -> {
            noFault(many("(", 8) + "1" + many(")", 8), "(1)" + many("+(1)", 9), many("!(", 8) + "1" + many(")", 8));
            faultAt(83, many("(", 9) + "1" + many(")", 9), many("(", 9), many("(", 40));
            is("behind one that is shut", fault("(1)+" + many("(", 9)), 123);
            is("with signs between", fault(many("-(", 9)), 173);
            is("eight open, one shut, one more", fault(many("(", 8) + "1)+(1" + many(")", 8)), NONE);
            is("eight open, one shut, two more", fault(many("(", 8) + "1)+((1" + many(")", 9)), 123);
        });
    }
}
