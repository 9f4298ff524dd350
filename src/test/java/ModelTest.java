import java.util.Random;

/** Runs of calls by fixed seeds: each answer of SpokenClock against the Model's. */
public final class ModelTest {
    private static final int RUNS = 1500;
    private static final String[] WORDS = {"fast", "songs", "bed", "person", "talk", "due", "sight"};

    private final Random random;
    private final SpokenClock clock = new SpokenClock();
    private final Model model = new Model();
    private final StringBuilder told = new StringBuilder();
    private int calls;
    private boolean wrong;

    private ModelTest(long seed) {
        random = new Random(seed);
    }

    public static void main(String[] args) {
        int bad = 0;
        for (int seed = 1; seed <= RUNS && bad < 3; seed++) {
            ModelTest run = new ModelTest(seed);
            run.go();
            if (run.wrong) {
                bad++;
                System.out.println("seed " + seed + ":\n" + run.told);
            }
        }
        System.out.println(bad == 0 ? RUNS + " runs are as the model's" : "runs are not as the model's");
        if (bad != 0) {
            System.exit(1);
        }
    }

    private int upTo(int most) {
        return random.nextInt(most + 1);
    }

    /** Mostly within what is told, sometimes at the edges or just beyond them, seldom far off. */
    private int within(int least, int most) {
        int r = upTo(99);
        if (r < 86) return least + upTo(most - least);
        if (r < 90) return least;
        if (r < 94) return most;
        if (r < 96) return least - 1;
        if (r < 98) return most + 1;
        return random.nextInt();
    }

    private void same(String call, long got, long want) {
        calls++;
        told.append(call).append(" = ").append(got).append('\n');
        if (got != want && !wrong) {
            wrong = true;
            told.append("   the model answers ").append(want).append('\n');
        }
    }

    private void go() {
        int style = upTo(3);
        while (calls < 511 && !wrong) {
            int r = upTo(99);
            if (style == 0 && r < 30) typeValley();
            else if (style == 1 && r < 30) writeRule();
            else if (r < 10) typeValley();
            else if (r < 18) writeRule();
            else if (r < 50) tell();
            else ask();
        }
        if (!wrong) same("digest()", clock.digest(), model.digest());
    }

    private void tell() {
        switch (upTo(11)) {
            case 0: { int a = within(0, 2), b = within(0, a == 2 ? 240 : a == 0 ? 4 : 1);
                same("put(" + a + ", " + b + ")", clock.put(a, b), model.put(a, b)); break; }
            case 1: case 2: { int a = within(0, 5), b = within(0, 1);
                same("person(" + a + ", " + b + ")", clock.person(a, b), model.person(a, b)); break; }
            case 3: case 4: case 5: { int a = within(0, 4), b = within(0, 239), c = within(0, 240);
                if (upTo(2) != 0 && b > c) { int d = b; b = c; c = d; }
                same("talk(" + a + ", " + b + ", " + c + ")", clock.talk(a, b, c), model.talk(a, b, c)); break; }
            case 6: case 7: { int a = within(0, upTo(1) == 0 ? 20 : 99), b = within(0, 99), c = within(-99, 99);
                same("due(" + a + ", " + b + ", " + c + ")", clock.due(a, b, c), model.due(a, b, c)); break; }
            case 8: { int a = within(0, 240), b = within(0, 999);
                if (upTo(3) != 0) b = seenAt(a);
                same("sight(" + a + ", " + b + ")", clock.sight(a, b), model.sight(a, b)); break; }
            case 9: { int a = within(0, 2); if (upTo(2) != 0) break;
                same("clears(" + a + ")", clock.clears(a), model.clears(a)); break; }
            case 10: { int a = within(0, 1);
                same("image(" + a + ")", clock.image(a), model.image(a)); break; }
            default: { int a = within(0, 1); if (upTo(1) != 0) break;
                same("from(" + a + ")", clock.from(a), model.from(a)); break; }
        }
    }

    /** A clock that may well have been seen, so that some sets fit. */
    private int seenAt(int minute) {
        int had = model.clock(0, minute);
        same("clock(0, " + minute + ")", clock.clock(0, minute), had);
        return Math.max(0, upTo(1) == 0 ? had : had - upTo(9));
    }

    private void ask() {
        switch (upTo(18)) {
            case 0: { int a = within(0, 1), b = within(0, 240);
                same("clock(" + a + ", " + b + ")", clock.clock(a, b), model.clock(a, b)); break; }
            case 1: { int a = within(0, 4), b = within(0, 239);
                same("counts(" + a + ", " + b + ")", clock.counts(a, b), model.counts(a, b)); break; }
            case 2: { int a = within(0, 1), b = within(0, upTo(1) == 0 ? 999 : 60);
                same("sun(" + a + ", " + b + ")", clock.sun(a, b), model.sun(a, b)); break; }
            case 3: { int a = within(0, 1), b = within(0, upTo(1) == 0 ? 999 : 60), c = within(0, 240);
                same("letter(" + a + ", " + b + ", " + c + ")", clock.letter(a, b, c), model.letter(a, b, c)); break; }
            case 4: { int a = within(1, 60);
                same("turns(" + a + ")", clock.turns(a), model.turns(a)); break; }
            case 5: { int a = within(-1, 7);
                same("paid(" + a + ")", clock.paid(a), model.paid(a)); break; }
            case 6: { int a = within(0, 9);
                same("best(" + a + ")", clock.best(a), model.best(a)); break; }
            case 7: case 8: { int a = within(0, 9), b = within(0, 98);
                same("step(" + a + ", " + b + ")", clock.step(a, b), model.step(a, b)); break; }
            case 9: { int a = within(0, 9);
                same("minute(" + a + ")", clock.minute(a), model.minute(a)); break; }
            case 10: { int a = within(0, 20), b = within(0, 20), c = within(-99, 99), d = within(-99, 99), e = within(0, 99);
                if (upTo(1) == 0) { a = within(0, 3); b = within(0, 3); e = within(0, 3); }
                same("stake(" + a + ", " + b + ", " + c + ", " + d + ", " + e + ")",
                        clock.stake(a, b, c, d, e), model.stake(a, b, c, d, e)); break; }
            case 11: case 12: { int a = within(0, 40), b = within(1, 20), c = within(0, 3);
                same("silence(" + a + ", " + b + ", " + c + ")", clock.silence(a, b, c), model.silence(a, b, c)); break; }
            case 13: { int a = within(0, 60), b = within(0, 10), c = within(0, upTo(1) == 0 ? 60 : Math.max(0, Math.min(a, 60)));
                same("night(" + a + ", " + b + ", " + c + ")", clock.night(a, b, c), model.night(a, b, c)); break; }
            case 14: { int a = within(0, 2);
                same("who(" + a + ")", clock.who(a), model.who(a)); break; }
            case 15: { int a = within(0, 2);
                same("sign(" + a + ")", clock.sign(a), model.sign(a)); break; }
            case 16: { int a = within(0, 1), b = within(0, 7);
                same("limb(" + a + ", " + b + ")", clock.limb(a, b), model.limb(a, b)); break; }
            case 17: { int a = within(0, 2), b = within(0, 5);
                same("status(" + a + ")", clock.status(a), model.status(a));
                same("count(" + b + ")", clock.count(b), model.count(b)); break; }
            default:
                same("digest()", clock.digest(), model.digest());
        }
    }

    // THE RULE

    private void writeRule() {
        if (upTo(9) != 0) same("erase()", clock.erase(), model.erase());
        if (upTo(9) == 0) { int a = within(0, 127);
            same("write(" + a + ")", clock.write(a), model.write(a)); }
        StringBuilder rule = new StringBuilder();
        value(rule, 0);
        if (upTo(2) == 0 && rule.length() > 0) {
            String signs = "0123456789csopbf()!-+*/<>=&| aA.\t\0~";
            int at = upTo(rule.length() - 1);
            char sign = signs.charAt(upTo(signs.length() - 1));
            switch (upTo(3)) {
                case 0: rule.setCharAt(at, sign); break;
                case 1: rule.insert(at, sign); break;
                case 2: rule.setLength(at); break;
                default: rule.deleteCharAt(at);
            }
        }
        if (upTo(19) == 0) rule.insert(0, "((((((((((", 0, upTo(10));
        for (int i = 0; i < rule.length() && calls < 511; i++) {
            int c = rule.charAt(i);
            same("write(" + c + ")", clock.write(c), model.write(c));
        }
        same("fault()", clock.fault(), model.fault());
    }

    private void blanks(StringBuilder to) {
        if (upTo(14) == 0) to.append(" ");
    }

    private void value(StringBuilder to, int depth) {
        String[] joins = {"|", "&", "<", ">", "=", "+", "-", "*", "/"};
        unit(to, depth);
        for (int i = upTo(3); i > 0; i--) {
            to.append(joins[upTo(8)]);
            unit(to, depth);
        }
    }

    private void unit(StringBuilder to, int depth) {
        blanks(to);
        int r = upTo(19);
        if (r < 2) { to.append('!'); unit(to, depth); }
        else if (r < 4) { to.append('-'); unit(to, depth); }
        else if (r < 7 && depth < 9) { to.append('('); value(to, depth + 1); to.append(')'); }
        else if (r < 12) to.append(upTo(upTo(3) == 0 ? 1200000 : 12));
        else to.append("csopbf".charAt(upTo(5)));
        blanks(to);
    }

    // THE VALLEY

    private void typeValley() {
        if (upTo(9) != 0) same("wipe()", clock.wipe(), model.wipe());
        StringBuilder text = new StringBuilder();
        int people = 0;
        for (int i = upTo(14); i > 0; i--) {
            int item = upTo(6);
            if (people == 0 && upTo(1) == 0) item = 3;
            people = item(text, item, people);
        }
        if (upTo(5) == 0 && text.length() > 0) {
            String signs = "abst0123456789;;-- A\0";
            int at = upTo(text.length() - 1);
            char sign = upTo(9) == 0 ? (char) (128 + upTo(127)) : signs.charAt(upTo(signs.length() - 1));
            switch (upTo(3)) {
                case 0: text.setCharAt(at, sign); break;
                case 1: text.insert(at, sign); break;
                case 2: text.setLength(at); break;
                default: text.deleteCharAt(at);
            }
        }
        typeAll(text);
        same("read()", clock.read(), model.read());
        same("digest()", clock.digest(), model.digest());
    }

    private int item(StringBuilder text, int item, int people) {
        String gap = upTo(9) == 0 ? "  " : " ";
        text.append(WORDS[item]).append(upTo(1) == 0 ? "" : gap);
        switch (item) {
            case 0: text.append(mild(1, 4)); break;
            case 1: text.append(mild(0, 1)); break;
            case 2: text.append(mild(0, 240)); break;
            case 3: text.append(mild(0, 5)).append(gap).append(mild(0, 1)); people++; break;
            case 4: { int from = mild(0, 239);
                text.append(mild(0, Math.max(people - 1, 0))).append(gap).append(from).append(gap)
                        .append(mild(Math.min(from + 1, 240), 240)); break; }
            case 5: text.append(mild(0, 99)).append(gap).append(mild(0, 99)).append(gap);
                if (upTo(1) == 0) text.append(upTo(1) == 0 ? "-" : "- ");
                text.append(mild(0, 99)); break;
            default: text.append(mild(0, 240)).append(gap).append(mild(0, 999)); break;
        }
        text.append(upTo(9) == 0 ? " ; " : ";");
        return people;
    }

    private int mild(int least, int most) {
        int r = upTo(299);
        return r == 0 ? most + 1 : r == 1 ? Math.max(least - 1, 0) : r == 2 ? 1000 : least + upTo(most - least);
    }

    private void typeAll(StringBuilder text) {
        for (int i = 0; i < text.length() && calls < 511; ) {
            int n = Math.min(upTo(3) == 0 ? 1 + upTo(7) : 8, text.length() - i);
            long v = upTo(1) == 0 ? 0 : random.nextLong();
            for (int j = 0; j < n; j++) v = v << 8 | text.charAt(i + j);
            same("type(" + v + ", " + n + ")", clock.type(v, n), model.type(v, n));
            i += n;
        }
        if (upTo(9) == 0) { long v = random.nextLong(); int n = within(1, 8);
            same("type(" + v + ", " + n + ")", clock.type(v, n), model.type(v, n)); }
    }
}
