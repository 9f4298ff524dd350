/** Each promise by answers worked out by hand: ordinary calls, the edges, wrong arguments. */
public final class PromiseTest {
    private static final int NONE = -1, BAD = -2, NO = -3, FULL = -4, LOST = -10000;

    private static int wrong;
    private static int checks;

    public static void main(String[] args) {
        newObject();
        settings();
        people();
        talks();
        dues();
        sights();
        clearing();
        typing();
        reading();
        readingFaults();
        writing();
        ruleFaults();
        ruleDepth();
        ruleWorth();
        ruleNames();
        clocks();
        kinds();
        suns();
        letters();
        turns();
        paying();
        plans();
        planEdges();
        silences();
        longSilences();
        silenceEdges();
        nights();
        nightEdges();
        whoTalked();
        whoByRule();
        images();
        refusals();
        counts();
        digests();
        staleness();
        wildArguments();
        System.out.println(checks + " answers, " + wrong + " not as due");
        if (wrong != 0) {
            System.exit(1);
        }
    }

    private static void is(String what, long got, long want) {
        checks++;
        if (got != want) {
            wrong++;
            System.out.println(what + ": " + got + ", due is " + want);
        }
    }

    private static void type(SpokenClock x, String text) {
        x.wipe();
        for (int i = 0; i < text.length(); i++) {
            x.type(text.charAt(i), 1);
        }
    }

    private static int read(SpokenClock x, String text) {
        type(x, text);
        return x.read();
    }

    private static void write(SpokenClock x, String rule) {
        x.erase();
        for (int i = 0; i < rule.length(); i++) {
            x.write(rule.charAt(i));
        }
    }

    private static int fault(String rule) {
        SpokenClock x = new SpokenClock();
        write(x, rule);
        return x.fault();
    }

    private static String many(String part, int times) {
        return part.repeat(times);
    }

    /** 1: as told, nobody. */
    private static void newObject() {
        SpokenClock x = new SpokenClock();
        for (int what = 0; what <= 5; what++) {
            is("new count", x.count(what), 0);
        }
        is("new fault", new SpokenClock().fault(), 1);
        is("new who", new SpokenClock().who(0), 1);
        is("new best", new SpokenClock().best(1), 0);
        is("new fast", x.put(0, 1), 1);
        is("new songs", x.put(1, 0), 0);
        is("new bed", x.put(2, 60), 60);
        is("new clock 0", x.clock(0, 240), 0);
        is("new clock 1", x.clock(1, 240), 0);
        is("new sign", x.sign(0), 0);
        is("new above", x.sign(1), 0);
        is("new below", x.sign(2), 1);
        is("new limb", x.limb(1, 0), 1);
        is("new silence", x.silence(4, 9, 0), 0);
        for (int what = 0; what <= 2; what++) {
            is("new status", x.status(what), 0);
        }
        is("constants", SpokenClock.NONE * 1000 + SpokenClock.BAD * 100 + SpokenClock.NO * 10 + SpokenClock.FULL, -1234);
    }

    /** 2 */
    private static void settings() {
        SpokenClock x = new SpokenClock();
        is("fast 4", x.put(0, 4), 1);
        is("fast 2", x.put(0, 2), 4);
        is("fast 0", x.put(0, 0), BAD);
        is("fast 5", x.put(0, 5), BAD);
        is("songs 1", x.put(1, 1), 0);
        is("songs 2", x.put(1, 2), BAD);
        is("songs -1", x.put(1, -1), BAD);
        is("bed 240", x.put(2, 240), 60);
        is("bed 0", x.put(2, 0), 240);
        is("bed 241", x.put(2, 241), BAD);
        is("bed -1", x.put(2, -1), BAD);
        is("put 3", x.put(3, 0), BAD);
        is("put -1", x.put(-1, 1), BAD);
        is("kept fast", x.put(0, 1), 2);
        is("kept songs", x.put(1, 0), 1);
        is("kept bed", x.put(2, 60), 0);
        is("put refused", x.status(0), 8);
    }

    /** 3 */
    private static void people() {
        SpokenClock x = new SpokenClock();
        is("kind 6", x.person(6, 0), BAD);
        is("kind -1", x.person(-1, 0), BAD);
        is("valley 2", x.person(0, 2), BAD);
        is("valley -1", x.person(0, -1), BAD);
        for (int i = 0; i < 5; i++) {
            is("person", x.person(5 - i, i % 2), i);
        }
        is("sixth", x.person(0, 0), FULL);
        is("sixth, bad", x.person(6, 0), BAD);
        is("people", x.count(0), 5);
        is("people refused", 10 * x.status(0) + x.status(2), 51);
    }

    /** 4 */
    private static void talks() {
        SpokenClock x = new SpokenClock();
        is("nobody's", x.talk(0, 0, 1), BAD);
        x.person(0, 0);
        x.person(0, 1);
        is("third's", x.talk(2, 0, 1), BAD);
        is("whose -1", x.talk(-1, 0, 1), BAD);
        is("from -1", x.talk(0, -1, 1), BAD);
        is("from to", x.talk(0, 7, 7), BAD);
        is("backward", x.talk(0, 8, 7), BAD);
        is("to 241", x.talk(0, 8, 241), BAD);
        is("from 240", x.talk(0, 240, 241), BAD);
        is("whole", x.talk(0, 0, 240), 0);
        is("last", x.talk(1, 239, 240), 1);
        for (int i = 2; i < 16; i++) {
            is("talk", x.talk(0, i, i + 1), i);
        }
        is("17th", x.talk(0, 0, 1), FULL);
        is("17th, bad", x.talk(0, 1, 1), BAD);
        is("talks", x.count(1), 16);
    }

    /** 5 */
    private static void dues() {
        SpokenClock x = new SpokenClock();
        is("clock -1", x.due(-1, 0, 0), BAD);
        is("clock 100", x.due(100, 0, 0), BAD);
        is("sun -1", x.due(0, -1, 0), BAD);
        is("sun 100", x.due(0, 100, 0), BAD);
        is("worth -100", x.due(0, 0, -100), BAD);
        is("worth 100", x.due(0, 0, 100), BAD);
        is("least", x.due(0, 0, -99), 0);
        is("most", x.due(99, 99, 99), 1);
        for (int i = 2; i < 8; i++) {
            is("due", x.due(i, i, i), i);
        }
        is("ninth", x.due(0, 0, 0), FULL);
        is("ninth, bad", x.due(0, 0, 100), BAD);
        is("dues", x.count(2), 8);
    }

    /** 6 */
    private static void sights() {
        SpokenClock x = new SpokenClock();
        is("sun -1", x.sight(-1, 0), BAD);
        is("sun 241", x.sight(241, 0), BAD);
        is("clock -1", x.sight(0, -1), BAD);
        is("clock 1000", x.sight(0, 1000), BAD);
        is("least", x.sight(0, 0), 0);
        is("most", x.sight(240, 999), 1);
        for (int i = 2; i < 10; i++) {
            is("sight", x.sight(i, i), i);
        }
        is("11th", x.sight(0, 0), FULL);
        is("11th, bad", x.sight(0, 1000), BAD);
        is("sights", x.count(3), 10);
    }

    /** 7 */
    private static void clearing() {
        SpokenClock x = new SpokenClock();
        x.person(0, 0);
        x.talk(0, 0, 5);
        x.talk(0, 9, 12);
        x.due(1, 5, 3);
        x.due(1, 5, 4);
        x.due(1, 5, 5);
        x.sight(1, 1);
        is("clears -1", x.clears(-1), BAD);
        is("clears 3", x.clears(3), BAD);
        is("clears talks", x.clears(0), 2);
        is("no talk", x.clock(0, 240), 0);
        is("dues stay", x.count(2), 3);
        is("clears dues", x.clears(1), 3);
        is("sights stay", x.count(3), 1);
        is("clears sights", x.clears(2), 1);
        is("clears none", x.clears(2) + x.clears(1) + x.clears(0), 0);
        is("people stay", x.count(0), 1);
        is("talk again", x.talk(0, 0, 3), 0);
        is("clock again", x.clock(0, 240), 3);
    }

    /** 8, 9 */
    private static void typing() {
        SpokenClock x = new SpokenClock();
        is("type 0", x.type(1, 0), BAD);
        is("type 9", x.type(1, 9), BAD);
        is("type -1", x.type(1, -1), BAD);
        is("type 8", x.type(0x666173742032203bL, 8), 8);
        is("type 3 of 8", x.type(0x6666666662656434L, 4), 12);
        is("type 1", x.type(-256 + ';', 1), 13);
        is("read it", x.read(), 2);
        is("highest first", x.put(2, 60), 4);
        is("fast", x.put(0, 1), 2);
        is("wipe", x.wipe(), 13);
        is("wipe none", x.wipe(), 0);
        for (int i = 1; i <= 31; i++) {
            is("type", x.type(0, 8), 8 * i);
        }
        is("type too much", x.type(0, 3), FULL);
        is("type too much, bad", x.type(0, 9), BAD);
        is("nothing came", x.count(4), 248);
        is("type to the brim", x.type(0, 2), 250);
        is("type one more", x.type(0, 1), FULL);
        is("wipe all", x.wipe(), 250);
        is("type again", x.type(0, 8), 8);
        is("negative", x.type(-1L, 8), 16);
        x.wipe();
        x.type(0xffL, 1);
        is("a byte that begins none", x.read(), -10);
    }

    /** 10: what is told. */
    private static void reading() {
        SpokenClock x = new SpokenClock();
        x.put(0, 3);
        x.put(1, 1);
        x.put(2, 7);
        x.person(1, 1);
        x.talk(0, 0, 9);
        x.due(1, 1, 1);
        x.sight(1, 1);
        write(x, "c<5");
        x.stake(1, 2, 3, 4, 5);
        x.night(1, 5, 1);
        is("items", read(x, "  person4 0 ;person 5  1;talk 0 0 240;talk 1 239 240;due 1 2-3;due 99 99 - 99;"
                + "due 0 0 0;sight240 999;sight 0 0; "), 9);
        is("fast as at first", x.put(0, 1), 1);
        is("songs as at first", x.put(1, 0), 0);
        is("bed as at first", x.put(2, 60), 60);
        is("people", x.count(0), 2);
        is("talks", x.count(1), 2);
        is("dues", x.count(2), 3);
        is("sights", x.count(3), 2);
        is("rule stays", x.count(5), 3);
        is("stake stays", x.silence(1, 1, 1), -2);
        is("fraction stays", x.limb(1, 0), 2);
        is("one due paid", x.paid(2), 1);
        is("others not", x.paid(NONE), 0);
        is("three settings", read(x, "fast 4;songs 1;bed 240;bed 0;fast 2;"), 5);
        is("last fast", x.put(0, 1), 2);
        is("songs", x.put(1, 0), 1);
        is("last bed", x.put(2, 60), 0);
        is("nobody now", x.count(0) + x.count(1) + x.count(2) + x.count(3), 0);
        x.person(0, 0);
        is("empty", read(x, ""), 0);
        is("empty takes the place", x.count(0), 0);
        x.person(0, 0);
        is("blanks", read(x, "   "), 0);
        is("blanks take the place", x.count(0), 0);
        x.person(0, 0);
        x.put(0, 3);
        is("a fault", read(x, "fast 2;person 0 0;person 0 0;fest 1;"), -10 - 29);
        is("all stays", x.count(0), 1);
        is("fast stays", x.put(0, 1), 3);
        is("a fault is not refused", x.status(0) + x.status(1) + x.status(2), 0);
        is("text stays", x.count(4), 36);
        is("leading noughts", read(x, "fast 003;"), 1);
        is("due less 0", read(x, "due 0 0 -0;"), 1);
        is("due less 99", read(x, "due 0 0 - 99;"), 1);
        is("paid less", x.paid(NONE), -99);
    }

    /** 10: the place of the first TOKEN that can not stand there. */
    private static void readingFaults() {
        String[] texts = {
            "fasts 1;", "Fast 1;", "fast", "fast ", "fast ;", "fast fast;", "fast 0;", "fast 5;", "fast 1", "fast 1 ",
            "fast 1 2;", "fast -1;", "fast 1;;", ";", "-", "7;", "fast 0001;", "fast 1000;", "songs 2;", "bed 241;",
            "bed 1000;", "person 6 0;", "person 0 2;", "person 0;", "person 0 0 0;", "talk 0 0 5;",
            "person 0 0;talk 1 0 5;", "person 0 0;talk 0 240 240;", "person 0 0;talk 0 5 5;", "person 0 0;talk 0 5 241;",
            "due 100 0 0;", "due 0 100 0;", "due 0 0 100;", "due 0 0 -100;", "due 0 0 - - 1;", "due - 0 0 0;",
            "due 0 - 1 0;", "due 0 0 -;", "due 0 0 1 - 1;", "sight 241 0;", "sight 240 1000;", "sight 1 - 1;", "fast 1,",
            "fast 1; x", "fast 1;\t", "fast\0", "bed 12a;", "be d 1;", "talk", "fast1;bed2;songs1;bedd", "person person",
            "due 0 0 - 0", "fast 1; 12345", "sight 12345 0;", "talk 0 0 5;person 0 0;", "perso 0 0;", "personn 0 0;",
            "fast" + many(" ", 100) + "9;", "fastz 1;", "afast 1;", "`fast 1;", "fast 1{", "fast 1:", "fast /1;",
            "person 0 0;talk 0 0 0;", "fast 1;fast\u00e4 2;"};
        int[] places = {
            0, 0, 4, 5, 5, 5, 5, 5, 6, 7,
            7, 5, 7, 0, 0, 0, 5, 5, 6, 4,
            4, 7, 9, 8, 11, 5,
            16, 18, 20, 20,
            4, 6, 8, 9, 10, 4,
            6, 9, 10, 6, 10, 8, 6,
            8, 7, 4, 6, 0, 4, 18, 7,
            11, 8, 6, 5, 0, 0,
            104, 0, 0, 0, 6, 6, 5,
            20, 11};
        for (int i = 0; i < texts.length; i++) {
            SpokenClock x = new SpokenClock();
            is("fault of '" + texts[i] + "'", read(x, texts[i]), -10 - places[i]);
        }
        SpokenClock x = new SpokenClock();
        is("five people", read(x, many("person 0 0;", 5)), 5);
        is("a 6th person", read(x, many("person 0 0;", 5) + "person;"), -10 - 55);
        is("16 talks", read(x, "person0 0;" + many("talk0 0 1;", 16)), 17);
        is("a 17th talk", read(x, "person0 0;" + many("talk0 0 1;", 16) + " talk"), -10 - 171);
        is("eight dues", read(x, many("due 0 0 1;", 8)), 8);
        is("a ninth due", read(x, many("due 0 0 1;", 8) + "due 0 0 1;"), -10 - 80);
        is("ten sights", read(x, many("sight 0 1;", 10)), 10);
        is("an 11th sight", read(x, many("sight 0 1;", 10) + "sight"), -10 - 100);
        is("many settings", read(x, many("bed 1;", 41)), 41);
    }

    /** 11, 12 */
    private static void writing() {
        SpokenClock x = new SpokenClock();
        is("write 128", x.write(128), BAD);
        is("write -1", x.write(-1), BAD);
        is("write 0", x.write(0), 1);
        is("write 127", x.write(127), 2);
        is("erase", x.erase(), 2);
        is("erase none", x.erase(), 0);
        for (int i = 1; i <= 40; i++) {
            is("write", x.write(' '), i);
        }
        is("blanks alone", x.fault(), 401);
        is("41st", x.write(' '), FULL);
        is("41st, bad", x.write(200), BAD);
        is("characters", x.count(5), 40);
        is("erase all", x.erase(), 40);
        is("none", x.count(5), 0);
        is("empty", x.fault(), 1);
    }

    /** 13 */
    private static void ruleFaults() {
        for (String rule : new String[] {"1", "999999", "c", "s", "o", "p", "b", "f", "(1)", "!1", "-1", "1|1", "1&1",
                "1<1", "1>1", "1=1", "1+1", "1-1", "1*1", "1/1", " c ", "1 - - 1", "!-!1", "1<2&3<4|5=6", "(1<2)<3",
                "- (1 + 2) * 3", "1--1", "1&!c", "(c|s)&(o|p)", "000001"}) {
            is("no fault in '" + rule + "'", fault(rule), NONE);
        }
        String[] rules = {"", " ", "1 1", "1+", "1+ ", "+1", "*1", "1**1", "(", "(1", "(1 ", ")", "()", "1)", "(1))", "a",
            "1a", "1<2<3", "1<2=3", "1=2>3&1", "(1<2<3)", "1<2|3<4<5", "!", "-", "1!", "1!1", "c s", "cs", "c(", "2(3)",
            "(2)3", "1234567", " 1234567", "1+12345678", "1 1234567", "12 34", "C", "1&&1", "1 || 1", "<1", "1<", "1<>2",
            "1\t", "\0", "1\0", "(((((((((1", "!(!", "1234567)", "1 ~ 1", "((1)", "10000000"};
        int[] due = {1, 11, 21, 21, 31, 1, 1, 21, 11, 21, 31, 1, 11, 11, 31, 1,
            11, 31, 31, 31, 41, 71, 11, 11, 11, 11, 21, 11, 11, 11,
            31, 2, 12, 22, 21, 31, 1, 21, 31, 1, 21, 21,
            11, 1, 11, 83, 31, 2, 21, 41, 2};
        for (int i = 0; i < rules.length; i++) {
            is("fault of '" + rules[i] + "'", fault(rules[i]), due[i]);
        }
    }

    /** 13: the 9th ( that is open. */
    private static void ruleDepth() {
        is("eight open", fault(many("(", 8) + "1" + many(")", 8)), NONE);
        is("nine open", fault(many("(", 9) + "1" + many(")", 9)), 83);
        is("nine, eight open", fault("(1)+" + many("(", 8) + "1" + many(")", 8)), NONE);
        is("the 9th, with signs between", fault("!(-(1+(" + many("(", 5) + "1&(2|("), 143);
        is("many, one by one", fault("(1)+(1)+(1)+(1)+(1)+(1)+(1)+(1)+(1)+(1)"), NONE);
        is("40 prefixes less one", fault(many("!", 39) + "1"), NONE);
        is("40 prefixes", fault(many("-", 40)), 401);
        is("a ( that can not stand", fault(many("(", 8) + "1("), 91);
    }

    /** What the rule is worth for the one person of kind TOLD: 1 if it tells something but 0 in a minute. */
    private static int worth(String rule, int minute) {
        SpokenClock x = new SpokenClock();
        x.put(1, 1);
        x.person(4, 0);
        x.talk(0, 0, 240);
        write(x, rule);
        return x.counts(0, minute);
    }

    /** 15: what is worked by the rule. */
    private static void ruleWorth() {
        String[] ones = {"1", "7-6", "2+3*4=14", "(2+3)*4=20", "10-3-2=5", "100/5/2=10", "2*3/4=1", "-7/2=-3", "7/-2=-3",
            "7/0=0", "0/0=0", "!0", "!(1-1)", "!!5=1", "--5=5", "!5=0", "-!0=-1", "!-0", "0|7", "7|0=1", "(0|7)=1",
            "(3&2)=1", "!(3&0)", "1|0&0", "(1<2)=1", "(2<1)=0", "2>1", "(2>1)=1", "(3=3)=1", "!(1>1)", "1=1", "!(1=2)", "1<2&2<3", "1<1+1",
            "1+1>1", "-1<0", "5-2*2=1", "-1", "999999", "-1*-1=1", "-2*3=-6", "1|1/0",
            "999999*999999*999999*999999<0", "(1+1=2)+1=2", "-(3)", "0-0|1", "s-s|1&1", "1 = 1"};
        for (String rule : ones) {
            is("worth of " + rule, worth(rule, 4), 1);
        }
        String[] noughts = {"0", "1-1", "0&1", "0|0", "1<1", "1>1", "1=2", "7/8", "5/0", "0|1&0", "!1", "-0", "", "1+", "a",
            "1234567", "1<2<3", "-7/8", "3*0", "000000"};
        for (String rule : noughts) {
            is("worth of " + rule, worth(rule, 4), 0);
        }
        is("39 times not", worth(many("!", 39) + "0", 0) * 10 + worth(many("!", 39) + "1", 0), 10);
        is("39 times less", worth(many("-", 37) + "1<0", 0), 1);
        is("twenty in a row", worth("s" + many("+s", 17) + "=18", 1), 1);
        is("least long by -1", worth("(0-64*65536*65536*65536*512)/-1<0", 0), 1);
        is("longs wrap", worth("64*65536*65536*65536*512<0", 0), 1);
        is("longs wrap on", worth("64*65536*65536*65536*1024=0", 0), 1);
    }

    /** 15: c, s, o, p, b, f. */
    private static void ruleNames() {
        is("s", worth("s=17", 17), 1);
        is("s at 0", worth("s", 0), 0);
        is("f", worth("f=1", 3), 1);
        is("b", worth("b=60", 3), 1);
        is("p", worth("p=0", 3), 1);
        is("o", worth("o=0", 3), 1);
        is("c", worth("c=s", 30), 1);
        SpokenClock x = new SpokenClock();
        x.put(0, 4);
        x.put(1, 1);
        x.put(2, 33);
        x.person(1, 1);
        x.person(4, 0);
        x.person(1, 0);
        x.person(4, 0);
        x.person(4, 1);
        for (int i = 0; i < 5; i++) {
            x.talk(i, 0, 240);
        }
        write(x, "p=3&o=2|p=4&o=2|p=1&o=0&0");
        is("o counts lesser numbers of his valley", x.counts(3, 5), 1);
        is("o in the other valley", x.counts(4, 5), 1);
        is("told not to", x.counts(1, 5), 0);
        write(x, "o=3");
        is("o without those who do not count", x.counts(3, 5), 0);
        write(x, "1");
        is("o above FAST", x.counts(3, 0), 1);
        x.put(0, 1);
        write(x, "p<3|o=3");
        is("o is not held to FAST", x.counts(3, 0), 1);
        write(x, "b=33&f=1");
        is("b and f", x.counts(1, 9), 1);
        x.clears(0);
        x.talk(0, 0, 9);
        x.talk(4, 0, 240);
        write(x, "c=9");
        is("c of his valley: too low", x.counts(4, 8), 0);
        is("c of his valley: then", x.counts(4, 9), 1);
        is("c of his valley: gone on", x.counts(4, 10), 0);
        is("clock by the rule", x.clock(1, 240), 10);
        x.clears(0);
        x.talk(4, 20, 60);
        write(x, "c=s-20");
        is("c and s", x.counts(4, 59), 1);
        write(x, "c=s");
        is("c is not s", x.counts(4, 30), 0);
        is("the other clock", x.clock(0, 240), 0);
    }

    /** 14 */
    private static void clocks() {
        SpokenClock x = new SpokenClock();
        x.person(0, 0);
        x.person(0, 0);
        x.person(1, 1);
        x.talk(0, 0, 10);
        x.talk(0, 5, 12);
        x.talk(1, 8, 20);
        x.talk(2, 239, 240);
        is("clock at 0", x.clock(0, 0), 0);
        is("clock at 1", x.clock(0, 1), 1);
        is("clock at 12", x.clock(0, 12), 12);
        is("clock at 20", x.clock(0, 20), 20);
        is("clock at 240", x.clock(0, 240), 20);
        is("other clock at 239", x.clock(1, 239), 0);
        is("other clock at 240", x.clock(1, 240), 1);
        x.put(0, 2);
        is("faster at 12", x.clock(0, 12), 16);
        is("faster at 240", x.clock(0, 240), 24);
        is("other, faster", x.clock(1, 240), 2);
        x.put(0, 4);
        x.clears(0);
        for (int i = 0; i < 3; i++) {
            x.talk(i, 0, 240);
        }
        is("two at once", x.clock(0, 240), 480);
        is("valley 2", x.clock(2, 0), BAD);
        is("valley -1", x.clock(-1, 0), BAD);
        is("sun 241", x.clock(0, 241), BAD);
        is("sun -1", x.clock(0, -1), BAD);
        SpokenClock y = new SpokenClock();
        y.put(0, 4);
        for (int i = 0; i < 5; i++) {
            y.person(1, 0);
            y.talk(i, 0, 240);
        }
        is("most of all", y.clock(0, 240), 960);
    }

    /** 15: the kinds. */
    private static void kinds() {
        SpokenClock x = new SpokenClock();
        x.put(0, 4);
        for (int i = 0; i < 4; i++) {
            x.person(i, 0);
            x.talk(i, 1, 239);
        }
        x.person(5, 0);
        x.talk(4, 0, 240);
        is("silent at 0", x.counts(0, 0) + x.counts(1, 0) + x.counts(2, 0) + x.counts(3, 0), 0);
        is("child at 0", x.counts(4, 0), 1);
        is("silent at 239", x.counts(0, 239), 0);
        is("person", x.counts(0, 1), 1);
        is("loud", x.counts(1, 238), 2);
        is("singer", x.counts(2, 5), 0);
        x.put(1, 1);
        is("singer who counts", x.counts(2, 5), 1);
        is("mutterer at 3", x.counts(3, 3), 1);
        is("mutterer at 4", x.counts(3, 4), 0);
        is("mutterer at 5", x.counts(3, 5), 0);
        is("mutterer at 237", x.counts(3, 237), 1);
        is("child, clock 57", x.clock(0, 15), 57);
        is("child before bed", x.counts(4, 15), 1);
        is("clock 61", x.clock(0, 16), 61);
        is("child in bed", x.counts(4, 16), 0);
        x.put(2, 57);
        is("child at bed time", x.counts(4, 15), 0);
        x.put(2, 58);
        is("child just before", x.counts(4, 15), 1);
        is("nobody 5", x.counts(5, 0), BAD);
        is("nobody -1", x.counts(-1, 0), BAD);
        is("minute 240", x.counts(0, 240), BAD);
        is("minute -1", x.counts(0, -1), BAD);
        is("no one there", new SpokenClock().counts(0, 0), BAD);
        SpokenClock y = new SpokenClock();
        y.person(4, 0);
        y.person(5, 1);
        y.person(0, 0);
        for (int i = 0; i < 3; i++) {
            y.talk(i, 0, 240);
        }
        write(y, "1");
        is("told, songs do not count", y.counts(0, 7), 0);
        y.put(1, 1);
        is("told, songs count", y.counts(0, 7), 1);
        y.write('+');
        is("told by a fault", y.counts(0, 7), 0);
        is("child by his own clock", y.counts(1, 59) * 10 + y.counts(1, 60), 10);
        y.put(2, 0);
        is("bed 0", y.counts(1, 0), 0);
        SpokenClock z = new SpokenClock();
        z.person(3, 0);
        z.talk(0, 0, 240);
        is("mutterer's clock at 0", z.clock(0, 1), 1);
        is("mutterer's clock", z.clock(0, 240), 80);
    }

    /** 16 */
    private static void suns() {
        SpokenClock x = new SpokenClock();
        x.put(0, 2);
        x.person(1, 0);
        x.talk(0, 10, 20);
        is("c 0", x.sun(0, 0), 0);
        is("c 1", x.sun(0, 1), 11);
        is("c 2", x.sun(0, 2), 11);
        is("c 3", x.sun(0, 3), 12);
        is("c 20", x.sun(0, 20), 20);
        is("c 21", x.sun(0, 21), NONE);
        is("c 999", x.sun(0, 999), NONE);
        is("other valley", x.sun(1, 1), NONE);
        is("other valley, 0", x.sun(1, 0), 0);
        x.talk(0, 239, 240);
        is("at minute 240", x.sun(0, 22), 240);
        is("c 1000", x.sun(0, 1000), BAD);
        is("c -1", x.sun(0, -1), BAD);
        is("valley 2", x.sun(2, 0), BAD);
        is("valley -1", x.sun(-1, 0), BAD);
        is("NONE is not refused", x.status(0), 4);
    }

    /** 17 */
    private static void letters() {
        SpokenClock x = new SpokenClock();
        x.person(0, 0);
        x.person(1, 1);
        x.put(0, 2);
        x.talk(0, 5, 50);
        x.talk(1, 20, 40);
        is("at once", x.letter(0, 20, 0), 10);
        is("on its way", x.letter(0, 20, 5), 20);
        is("back", x.letter(1, 3, 0), 17);
        is("back later", x.letter(1, 3, 100), 45);
        is("c 0", x.letter(0, 0, 30), 20);
        is("to minute 240", x.letter(0, 20, 215), 40);
        is("behind minute 240", x.letter(0, 20, 216), NONE);
        is("never", x.letter(0, 46, 0), NONE);
        is("all day", x.letter(0, 0, 240), 40);
        is("valley 2", x.letter(2, 0, 0), BAD);
        is("valley -1", x.letter(-1, 0, 0), BAD);
        is("c 1000", x.letter(0, 1000, 0), BAD);
        is("c -1", x.letter(0, -1, 0), BAD);
        is("l 241", x.letter(0, 0, 241), BAD);
        is("l -1", x.letter(0, 0, -1), BAD);
    }

    /** 18 */
    private static void turns() {
        SpokenClock x = new SpokenClock();
        is("nobody", x.turns(1), NO);
        is("nobody, bad", x.turns(0), BAD);
        x.person(0, 0);
        is("no talk", x.turns(1), NONE);
        x.person(0, 1);
        x.person(3, 0);
        x.talk(0, 0, 10);
        x.talk(1, 10, 20);
        x.talk(2, 18, 31);
        is("by ten", x.turns(10), 20);
        x.talk(0, 30, 40);
        is("by ten, mutterer misses", x.turns(10), 20);
        is("by nine", x.turns(9), 9);
        is("by one", x.turns(1), 1);
        is("by sixty", x.turns(60), 10);
        x.clears(0);
        x.talk(0, 0, 10);
        x.talk(1, 10, 20);
        is("to the end", x.turns(10), NONE);
        x.talk(1, 20, 21);
        is("one beyond", x.turns(10), 20);
        x.clears(0);
        x.talk(0, 0, 4);
        x.talk(1, 2, 4);
        x.talk(2, 0, 240);
        is("round again", x.turns(2), 4);
        x.clears(0);
        x.talk(0, 5, 6);
        is("the first minute", x.turns(7), 0);
        is("h 61", x.turns(61), BAD);
        is("h -1", x.turns(-1), BAD);
        SpokenClock y = new SpokenClock();
        y.person(0, 0);
        y.person(0, 1);
        y.talk(0, 0, 1);
        y.talk(1, 1, 2);
        y.talk(0, 2, 3);
        y.talk(1, 3, 240);
        is("0's again", y.turns(1), 4);
    }

    /** 19 */
    private static void paying() {
        SpokenClock x = new SpokenClock();
        is("none together", x.paid(NONE), 0);
        is("due 0 of none", x.paid(0), LOST);
        x.person(0, 0);
        x.person(1, 1);
        x.talk(0, 10, 60);
        x.talk(1, 0, 240);
        x.due(0, 0, -2);
        x.due(1, 10, 50);
        x.due(1, 11, 7);
        x.due(20, 30, -9);
        x.due(21, 30, 40);
        is("clock 0", x.paid(0), 1);
        is("too early", x.paid(1), 0);
        is("just", x.paid(2), 1);
        is("at least", x.paid(3), 1);
        is("not at least", x.paid(4), 0);
        is("together", x.paid(NONE), -4);
        is("due 5", x.paid(5), LOST);
        is("due -2", x.paid(-2), LOST);
        x.clears(0);
        is("less than 0 alone", x.paid(NONE), -2);
        is("refused", x.status(0), 3);
    }

    /** 20, 21, 22 */
    private static void plans() {
        SpokenClock x = new SpokenClock();
        x.person(1, 0);
        x.talk(0, 0, 240);
        is("no dues", x.best(0), 0);
        is("no dues, step", x.step(0, 0), 0);
        is("no dues, minute", x.minute(9), 0);
        x.due(5, 10, 20);
        is("one due", x.best(0), 20);
        is("one due at 3", x.best(3), 5);
        is("one due at 4: as alike, no step", x.best(4), 0);
        is("not worth it", x.best(5), 0);
        is("late steps: minute 4", x.step(3, 4), 0);
        is("late steps: minute 5", x.step(3, 5), 1);
        is("late steps: minute 9", x.step(3, 9), 1);
        is("late steps: minute 10", x.step(3, 10), 0);
        is("alike: still", x.step(4, 9), 0);
        is("a minute at 0", x.minute(0), 0);
        is("a minute at 3", x.minute(3), 3);
        is("a minute at 4", x.minute(4), 4);
        is("a minute at 5", x.minute(5), 0);
        is("a minute at 9", x.minute(9), 0);
        x.put(0, 4);
        is("fast: minute 7", x.step(3, 7), 0);
        is("fast: minute 8", x.step(3, 8), 1);
        is("fast: minute 9", x.step(3, 9), 4);
        x.due(1, 9, -30);
        is("not before", x.best(0), 0);
        x.clears(1);
        x.put(0, 1);
        x.due(2, 1, 9);
        is("out of reach", x.best(0), 0);
        is("in reach by a minute", x.minute(0), 9);
        is("in reach by a minute and a step", x.minute(7), 2);
        is("which does not pay", x.minute(9), 0);
        x.due(0, 50, -7);
        is("paid whatever", x.best(0), -7);
        x.due(1, 0, 30);
        is("at minute 0", x.best(0), -7);
        is("at minute 0 by a minute", x.minute(0), 39);
        x.clears(1);
        x.due(0, 0, -99);
        is("less than 0", x.best(9), -99);
        is("less than 0, minute", x.minute(9), 0);
        x.due(1, 99, -50);
        is("a minute may cost", x.minute(0), -50);
    }

    /** 20, 21, 22: edges, wrong arguments. */
    private static void planEdges() {
        SpokenClock x = new SpokenClock();
        x.due(99, 99, 99);
        is("all the way", x.best(0), 99);
        is("all the way at 1: alike", x.best(1), 0);
        is("all the way: step", x.step(0, 98), 1);
        is("all the way: step 0", x.step(0, 0), 1);
        is("a minute for all", x.minute(1), 1);
        x.put(0, 2);
        is("late: 48", x.step(0, 48), 0);
        is("late: 49", x.step(0, 49), 1);
        is("late: 50", x.step(0, 50), 2);
        is("best 10", x.best(10), LOST);
        is("best -1", x.best(-1), LOST);
        is("minute 10", x.minute(10), LOST);
        is("minute -1", x.minute(-1), LOST);
        is("step k", x.step(10, 0), BAD);
        is("step k -1", x.step(-1, 0), BAD);
        is("step minute 99", x.step(0, 99), BAD);
        is("step minute -1", x.step(0, -1), BAD);
        is("refused", x.status(0), 8);
        SpokenClock y = new SpokenClock();
        y.put(0, 3);
        y.due(3, 5, 10);
        y.due(6, 20, 10);
        y.due(7, 40, -5);
        is("two dues", y.best(1), 14);
        is("first: 4", y.step(1, 4), 3);
        is("then: 18", y.step(1, 18), 0);
        is("then: 19", y.step(1, 19), 3);
        is("not on", y.step(1, 39), 0);
        is("dearer", y.best(3), 2);
        is("dearer: first one", y.step(3, 4), 3);
        is("dearer: second one", y.step(3, 19), 3);
        is("dearest", y.best(4), 0);
        is("dearest by a minute: 5 more steps lose", y.minute(4), 2);
        SpokenClock z = new SpokenClock();
        z.put(0, 4);
        z.due(40, 10, 9);
        z.due(60, 15, 9);
        z.due(84, 21, 9);
        z.due(99, 99, 9);
        is("ahead of the sun", z.best(0), 36);
        is("not all at 1", z.best(1), 0);
        is("at the start", z.step(0, 0), 4);
        is("at 9", z.step(0, 9), 4);
        is("at 10", z.step(0, 10), 4);
        is("at 20", z.step(0, 20), 4);
        is("at 21", z.step(0, 21), 0);
        is("at 94", z.step(0, 94), 0);
        is("at 95", z.step(0, 95), 3);
        is("at 98", z.step(0, 98), 4);
    }

    /** 23, 24 */
    private static void silences() {
        SpokenClock x = new SpokenClock();
        is("stake", x.stake(2, 3, 10, 1, 4), 1);
        is("one minute: she talks", x.silence(1, 1, 0), 6);
        is("one minute: he has", x.silence(1, 1, 1), 1);
        is("one minute: first", x.silence(1, 1, 2), 0);
        is("one minute: gone", x.silence(1, 1, 3), 1);
        is("no minute", x.silence(0, 1, 0) + x.silence(0, 1, 1), 0);
        is("no minute: first", x.silence(0, 1, 2), NONE);
        is("no minute: gone", x.silence(0, 1, 3), 0);
        // Two are wanted in one minute: talking costs 4, being still 2.
        is("out of reach", x.silence(1, 2, 0), -2);
        is("out of reach: he loses", x.silence(1, 2, 1), -3);
        is("out of reach: first", x.silence(1, 2, 2), NONE);
        // He talks last for 1 less 4, not -3: as alike he is still, so she is still before him.
        is("as alike: still", x.silence(2, 2, 0), -4);
        is("as alike: he", x.silence(2, 2, 1), -6);
        is("as alike: gone", x.silence(2, 2, 3), 0);
        x.stake(2, 4, 10, 1, 4);
        is("he talks for -3", x.silence(2, 2, 0), 6);
        is("he has -3", x.silence(2, 2, 1), -3);
        is("both: first", x.silence(2, 2, 2), 0);
        is("both: gone", x.silence(2, 2, 3), 2);
        x.stake(0, 0, 5, 5, 5);
        is("as alike in all: still", x.silence(9, 1, 2), NONE);
        is("as alike in all: 0", x.silence(9, 1, 0), 0);
    }

    /** 23, 24: by turns, as far as they go. */
    private static void longSilences() {
        SpokenClock x = new SpokenClock();
        x.stake(20, 20, 99, 99, 5);
        is("ten minutes: she talks thrice", x.silence(10, 5, 0), 84);
        is("ten minutes: he talks twice", x.silence(10, 5, 1), 89);
        is("forty minutes", x.silence(40, 20, 0), 49);
        is("forty minutes: first", x.silence(40, 20, 2), 0);
        x.stake(0, 0, -10, 10, 0);
        is("the last minute but one is not hers", x.silence(40, 1, 2), 39);
        is("an odd last minute", x.silence(39, 1, 2), 37);
        is("a far end", x.silence(40, 20, 3), 20);
        x.stake(0, 0, 99, 99, 10);
        is("no fee for the other's talk", x.silence(2, 2, 0) + 1000 * x.silence(2, 2, 1), 89089);
    }

    /** 23, 24: edges, wrong arguments. */
    private static void silenceEdges() {
        SpokenClock x = new SpokenClock();
        is("la 20", x.stake(20, 20, 99, -99, 99), 1);
        is("other edges", x.stake(0, 0, -99, 99, 0), 1);
        is("the first again", x.stake(20, 20, 99, -99, 99), 1);
        is("la 21", x.stake(21, 0, 0, 0, 0), BAD);
        is("la -1", x.stake(-1, 0, 0, 0, 0), BAD);
        is("lb 21", x.stake(0, 21, 0, 0, 0), BAD);
        is("lb -1", x.stake(0, -1, 0, 0, 0), BAD);
        is("wa 100", x.stake(0, 0, 100, 0, 0), BAD);
        is("wa -100", x.stake(0, 0, -100, 0, 0), BAD);
        is("wb 100", x.stake(0, 0, 0, 100, 0), BAD);
        is("wb -100", x.stake(0, 0, 0, -100, 0), BAD);
        is("fee 100", x.stake(0, 0, 0, 0, 100), BAD);
        is("fee -1", x.stake(0, 0, 0, 0, -1), BAD);
        is("the first stays", x.silence(1, 20, 0), -20);
        is("the first stays, he", x.silence(1, 20, 1), -20);
        is("forty", x.silence(40, 20, 3) <= 20 ? 1 : 0, 1);
        is("n 41", x.silence(41, 1, 0), LOST);
        is("n -1", x.silence(-1, 1, 0), LOST);
        is("d 0", x.silence(1, 0, 0), LOST);
        is("d 21", x.silence(1, 21, 0), LOST);
        is("what 4", x.silence(1, 1, 4), LOST);
        is("what -1", x.silence(1, 1, -1), LOST);
        is("refused", x.status(0), 16);
        SpokenClock y = new SpokenClock();
        is("at first: as alike, still", y.silence(40, 1, 3), 0);
        y.stake(1, 0, 0, 0, 0);
        is("she talks at 0, it ends", y.silence(40, 1, 3), 1);
        is("she has 0", y.silence(40, 1, 0), 0);
        y.stake(0, 1, -1, 0, 0);
        is("she never talks: he does", y.silence(40, 1, 2), 1);
        is("she loses 1 by it", y.silence(40, 1, 0), -1);
    }

    /** 25, 27, 28 */
    private static void nights() {
        SpokenClock x = new SpokenClock();
        is("night", x.night(1, 5, 1), 1);
        is("half above", x.limb(0, 0), 1);
        is("half below", x.limb(1, 0), 2);
        is("sign", x.sign(0), 1);
        x.night(2, 3, 1);
        is("51 of 100", x.limb(0, 0) * 1000 + x.limb(1, 0), 51100);
        x.night(3, 4, 2);
        is("352 of 1000", x.limb(0, 0) * 1000 + x.limb(1, 0), 44125);
        x.night(4, 2, 4);
        is("16 of 10000", x.limb(0, 0) * 1000 + x.limb(1, 0), 1625);
        x.night(5, 7, 0);
        is("at least 0", x.limb(0, 0) * 1000 + x.limb(1, 0), 1001);
        x.night(5, 7, 6);
        is("more than can be", x.limb(0, 0) * 1000 + x.limb(1, 0), -1000 + 1);
        is("nothing above", x.sign(1), 0);
        is("sign 0", x.sign(0), 0);
        x.night(9, 0, 1);
        is("never", 10 * x.sign(0) + x.limb(1, 0), 1);
        x.night(9, 0, 0);
        is("never is 0", 10 * x.sign(0) + x.limb(1, 0), 11);
        x.night(9, 10, 9);
        is("always", 100 * x.limb(0, 0) + x.limb(1, 0), 101);
        x.night(9, 10, 10);
        is("always, too many", 10 * x.sign(0) + x.limb(1, 0), 1);
        x.night(0, 10, 0);
        is("no minute, 0", 100 * x.limb(0, 0) + x.limb(1, 0), 101);
        x.night(0, 3, 1);
        is("no minute, 1", 100 * x.sign(0) + x.limb(1, 0), 1);
        x.night(10, 1, 10);
        is("1 of 10000000000: above", x.limb(0, 0), 1);
        is("below, lowest", x.limb(1, 0), 336323584);
        is("below, next", x.limb(1, 1), 9);
        is("below, limbs", x.sign(2), 2);
        is("below, not so many", x.limb(1, 2), NONE);
    }

    /** 25, 27, 28: edges, wrong arguments. */
    private static void nightEdges() {
        SpokenClock x = new SpokenClock();
        x.night(60, 1, 60);
        is("10 to the 60th: limbs", x.sign(2), 7);
        is("10 to the 60th: lowest", x.limb(1, 0), 0);
        is("10 to the 60th: second", x.limb(1, 1), 0);
        is("10 to the 60th: seventh", x.limb(1, 6), 652530);
        x.night(60, 5, 60);
        is("2 to the 60th", 100 * x.sign(2) + x.limb(1, 2), 301);
        x.night(60, 9, 1);
        is("1 less 10 to the -60th: above", x.sign(1), 7);
        is("1 less 10 to the -60th: lowest", x.limb(0, 0), 1073741823);
        is("n 61", x.night(61, 0, 0), BAD);
        is("n -1", x.night(-1, 0, 0), BAD);
        is("w 11", x.night(0, 11, 0), BAD);
        is("w -1", x.night(0, -1, 0), BAD);
        is("c 61", x.night(0, 0, 61), BAD);
        is("c -1", x.night(0, 0, -1), BAD);
        is("the fraction stays", x.limb(0, 0), 1073741823);
        is("sign 3", x.sign(3), BAD);
        is("sign -1", x.sign(-1), BAD);
        is("limb of 2", x.limb(2, 0), BAD);
        is("limb of -1", x.limb(-1, 0), BAD);
        is("limb -1", x.limb(0, -1), BAD);
        is("limb 7", x.limb(0, 7), NONE);
        is("limb far off", x.limb(1, Integer.MAX_VALUE), NONE);
        is("refused", x.status(0), 11);
    }

    /** 26 */
    private static void whoTalked() {
        SpokenClock x = new SpokenClock();
        is("nobody, nothing seen", 10 * x.who(0) + x.who(1) + x.who(2), 10);
        x.sight(5, 1);
        is("nobody could", x.who(0), 0);
        is("nobody could: least", x.who(1), NONE);
        is("nobody could: surely", x.who(2), NONE);
        x.clears(2);
        x.person(0, 1);
        x.person(0, 0);
        x.person(1, 0);
        x.person(0, 0);
        x.put(0, 3);
        x.talk(0, 0, 240);
        x.talk(1, 0, 10);
        x.talk(2, 5, 10);
        x.talk(3, 0, 10);
        is("nothing seen", x.who(0), 8);
        is("nothing seen: least", x.who(1), 0);
        is("nothing seen: surely", x.who(2), 0);
        x.sight(5, 5);
        is("1 or 3", x.who(0), 4);
        is("1 or 3: least", x.who(1), 2);
        is("1 or 3: surely none", x.who(2), 0);
        x.sight(10, 20);
        is("and 2", x.who(0), 2);
        is("and 2: least", x.who(1), 6);
        is("and 2: surely", x.who(2), 4);
        x.sight(240, 20);
        is("stays so", x.who(0), 2);
        x.sight(5, 5);
        is("seen twice", x.who(0), 2);
        x.sight(5, 4);
        is("two clocks at once", x.who(0), 0);
        is("two clocks at once: least", x.who(1), NONE);
        x.clears(2);
        x.sight(10, 25);
        is("held to FAST", 100 * x.who(0) + x.who(1), 114);
        x.put(0, 4);
        is("not held", x.who(0), 0);
        x.clears(2);
        x.sight(0, 1);
        is("at minute 0", x.who(0), 0);
        x.clears(2);
        x.sight(0, 0);
        is("0 at minute 0", x.who(0), 8);
        x.sight(240, 999);
        is("never so late", x.who(0), 0);
        is("who 3", x.who(3), BAD);
        is("who -1", x.who(-1), BAD);
        is("refused", x.status(0), 2);
    }

    /** 26: others COUNT 0 in what the rule asks, too; a child and the clock as it would be. */
    private static void whoByRule() {
        SpokenClock x = new SpokenClock();
        x.put(0, 4);
        x.put(1, 1);
        x.person(1, 0);
        x.person(4, 0);
        x.person(5, 0);
        x.put(2, 6);
        for (int i = 0; i < 3; i++) {
            x.talk(i, 0, 10);
        }
        write(x, "o=0&p=1");
        x.sight(10, 10);
        // 1 alone goes on by 1 a minute; 2 alone to bed at 6; 1 and 2 go by 2 until 6, then by 1.
        is("1 alone", x.who(0), 1);
        is("1 alone: bits", x.who(1), 2);
        x.clears(2);
        x.sight(10, 13);
        is("1 and 2", 10 * x.who(0) + x.who(1), 16);
        x.clears(2);
        x.sight(10, 6);
        is("2 alone", 10 * x.who(0) + x.who(2), 14);
        x.clears(2);
        x.sight(10, 20);
        is("0, or 0 and 1", x.who(0), 2);
        is("0 surely", x.who(2), 1);
        x.clears(2);
        x.sight(10, 22);
        is("0 and 2, with 1 or not", 100 * x.who(0) + 10 * x.who(1) + x.who(2), 255);
        is("the clock itself is as before", x.clock(0, 10), 22);
    }

    /** 29, 30 */
    private static void images() {
        SpokenClock x = new SpokenClock();
        is("image 2", x.image(2), BAD);
        is("image -1", x.image(-1), BAD);
        is("from 2", x.from(2), BAD);
        is("from -1", x.from(-1), BAD);
        is("none kept", x.from(0), NO);
        read(x, "person 0 0;talk 0 0 50;due 1 2 3;sight 4 5;fast 2;songs 1;bed 9;");
        write(x, "c<5");
        x.stake(1, 2, 3, 4, 5);
        x.night(1, 5, 1);
        long before = x.digest();
        is("image", x.image(1), 1);
        is("the other not kept", x.from(0), NO);
        type(x, "fast 3;person 1 1;");
        x.read();
        x.erase();
        x.stake(9, 9, 9, 9, 9);
        x.night(2, 3, 1);
        x.put(2, 100);
        is("from", x.from(1), 1);
        is("people", x.count(0), 1);
        is("clock", x.clock(0, 240), 50);
        is("rule", x.count(5), 3);
        is("stake", x.silence(1, 20, 0), -1);
        is("text stays", x.count(4), 18);
        is("fraction stays", x.limb(0, 0), 51);
        is("status stays", 10 * x.status(0) + x.status(1), 42);
        x.night(1, 5, 1);
        type(x, many(" ", 64));
        is("as it was", x.digest(), before);
        x.talk(0, 60, 70);
        is("image 0", x.image(0), 1);
        x.clears(0);
        is("from 1", x.from(1), 1);
        is("clock of 1", x.clock(0, 240), 50);
        is("from 0", x.from(0), 1);
        is("clock of 0", x.clock(0, 240), 60);
        x.put(0, 1);
        x.person(5, 1);
        is("again from 0", x.from(0), 1);
        is("an image is not what goes on", x.count(0), 1);
        is("fast of 0", x.put(0, 4), 2);
        x.image(0);
        x.put(0, 1);
        x.from(0);
        is("kept anew", x.put(0, 2), 4);
    }

    /** 31 */
    private static void refusals() {
        SpokenClock x = new SpokenClock();
        is("status 3", x.status(3), -1);
        is("status -1", x.status(-1), -1);
        is("BAD", x.status(0), 2);
        x.best(99);
        x.silence(0, 0, 0);
        x.paid(7);
        x.minute(-1);
        is("BAD of worths", x.status(0), 6);
        x.turns(1);
        x.from(1);
        is("NO", x.status(1), 2);
        for (int i = 0; i < 41; i++) {
            x.write('1');
        }
        is("FULL", x.status(2), 1);
        x.person(0, 0);
        x.sun(0, 5);
        x.letter(0, 5, 0);
        x.turns(1);
        x.fault();
        x.limb(0, 9);
        x.who(1);
        type(x, "x");
        x.read();
        is("none of these is refused", x.status(0), 6);
        is("nor NO", x.status(1), 2);
        is("nor FULL", x.status(2), 1);
        x.due(0, 0, -3);
        is("a worth of -3", x.paid(NONE), -3);
        is("is not refused", x.status(1), 2);
    }

    /** 32 */
    private static void counts() {
        SpokenClock x = new SpokenClock();
        x.person(0, 0);
        for (int i = 0; i < 2; i++) {
            x.talk(0, 0, 1);
        }
        for (int i = 0; i < 3; i++) {
            x.due(0, 0, 1);
        }
        for (int i = 0; i < 4; i++) {
            x.sight(0, 0);
        }
        x.type(0, 5);
        write(x, "123456");
        for (int what = 0; what <= 5; what++) {
            is("count " + what, x.count(what), what + 1);
        }
        is("count 6", x.count(6), BAD);
        is("count -1", x.count(-1), BAD);
    }

    private static long mix(int... numbers) {
        long h = 701;
        for (int v : numbers) {
            h = 31 * h + v;
        }
        return h;
    }

    /** 33 */
    private static void digests() {
        SpokenClock x = new SpokenClock();
        is("digest at first", x.digest(), mix(0, 0, 0, 0, 0, 0, 1, 0, 60, 0, 0, 0, 0, 0, 0, 0, 1, 1));
        read(x, "fast 2;songs 1;bed 7;person 5 1;person 2 0;talk 1 3 9;talk 0 4 8;due 7 6 - 5;due 1 2 3;"
                + "sight 40 41;sight 42 43;");
        write(x, "c<9");
        x.stake(1, 2, -3, 4, 5);
        x.night(10, 1, 10);
        is("digest", x.digest(), mix(2, 2, 2, 2, 111, 3, 2, 1, 7, 5, 1, 2, 0, 1, 3, 9, 0, 4, 8, 7, 6, -5, 1, 2, 3,
                40, 41, 42, 43, 1, 2, -3, 4, 5, 'c', '<', '9', 1, 1, 2, 1, 336323584, 9));
        long before = x.digest();
        x.best(99);
        x.image(0);
        x.who(0);
        is("what is not in it", x.digest(), before);
    }

    /** What was worked out before is worked out anew, as soon as something has changed. */
    private static void staleness() {
        SpokenClock x = new SpokenClock();
        x.person(4, 0);
        x.talk(0, 0, 100);
        x.sight(100, 100);
        x.due(50, 50, 9);
        is("told nothing", x.clock(0, 100), 0);
        is("who, told nothing", x.who(0), 0);
        x.write('1');
        is("songs do not count", x.clock(0, 100), 0);
        x.put(1, 1);
        is("songs count", x.clock(0, 100), 100);
        is("who", x.who(0), 1);
        is("best", x.best(0), 9);
        x.due(10, 10, 5);
        is("best of two", x.best(0), 14);
        is("best at 1", x.best(1), 0);
        x.write('&');
        is("fault", x.fault(), 21);
        is("clock by a fault", x.clock(0, 100), 0);
        x.write('0');
        is("no fault", x.fault(), NONE);
        x.erase();
        is("erased", x.fault(), 1);
        x.write('1');
        x.image(0);
        x.clears(0);
        is("who without talks", x.who(0), 0);
        x.from(0);
        is("who again", x.who(0), 1);
        is("clock again", x.clock(0, 100), 100);
        x.put(0, 2);
        is("best faster", x.best(1), 0);
        x.person(0, 0);
        x.talk(1, 0, 100);
        is("two talk", x.clock(0, 100), 200);
        is("who of two", x.who(0), 2);
        x.clears(1);
        is("best of none", x.best(0), 0);
        is("clock before it is read", x.clock(0, 100), 200);
        is("who before it is read", x.who(1), 1);
        is("best before it is read", x.best(2), 0);
        read(x, "person 0 0;talk 0 0 7;due 3 7 8;sight 7 7;");
        is("clock read", x.clock(0, 100), 7);
        is("who read", x.who(1), 1);
        is("best read", x.best(2), 2);
    }

    /** No argument makes a call throw. */
    private static void wildArguments() {
        int[] wild = {Integer.MIN_VALUE, Integer.MIN_VALUE + 1, -10001, -100, -1, 0, 1, 5, 31, 32, 33, 241, 1000, 65536,
            Integer.MAX_VALUE - 1, Integer.MAX_VALUE};
        SpokenClock x = new SpokenClock();
        x.person(4, 0);
        for (int a : wild) {
            for (int b : wild) {
                x.put(a, b);
                x.person(a, b);
                x.sight(a, b);
                x.clock(a, b);
                x.counts(a, b);
                x.sun(a, b);
                x.step(a, b);
                x.limb(a, b);
                for (int c : wild) {
                    x.talk(a, b, c);
                    x.due(a, b, c);
                    x.letter(a, b, c);
                    x.silence(a, b, c);
                    x.night(a, b, c);
                    x.stake(a, b, c, a, b);
                    x.stake(b, a, c, c, a);
                }
                x.type(a, b);
                x.type(Long.MIN_VALUE, a);
            }
            x.clears(a);
            x.write(a);
            x.turns(a);
            x.paid(a);
            x.best(a);
            x.minute(a);
            x.who(a);
            x.sign(a);
            x.image(a);
            x.from(a);
            x.status(a);
            x.count(a);
            x.read();
            x.fault();
            x.digest();
        }
        is("it lives", x.wipe() >= 0 ? 1 : 0, 1);
    }
}
