import java.math.BigInteger;
import java.util.ArrayList;
import java.util.HashMap;
import java.util.List;
import java.util.Map;
import java.util.regex.Matcher;
import java.util.regex.Pattern;

/** The document once more, slow and plain, with the whole Java library: what SpokenClock is compared with. */
final class Model {
    private static final int NONE = -1, BAD = -2, NO = -3, FULL = -4;

    /** What an image keeps. */
    private static final class Kept {
        List<int[]> people = new ArrayList<>();
        List<int[]> talks = new ArrayList<>();
        List<int[]> dues = new ArrayList<>();
        List<int[]> sights = new ArrayList<>();
        int fast = 1, songs = 0, bed = 60;
        int[] stake = new int[5];
        String rule = "";

        Kept twin() {
            Kept twin = new Kept();
            twin.people.addAll(people);
            twin.talks.addAll(talks);
            twin.dues.addAll(dues);
            twin.sights.addAll(sights);
            twin.fast = fast;
            twin.songs = songs;
            twin.bed = bed;
            twin.stake = stake.clone();
            twin.rule = rule;
            return twin;
        }
    }

    private static final class Fault extends RuntimeException {
        private static final long serialVersionUID = 1L;
        final int at;

        Fault(int at) {
            super(null, null, false, false);
            this.at = at;
        }
    }

    private Kept k = new Kept();
    private final Kept[] images = new Kept[2];
    private String text = "";
    private BigInteger above = BigInteger.ZERO, below = BigInteger.ONE;
    private final int[] status = new int[3];

    private int bad() { status[0]++; return BAD; }
    private int no() { status[1]++; return NO; }
    private int full() { status[2]++; return FULL; }
    private int badWorth() { status[0]++; return -10000; }
    private static boolean in(long v, long a, long b) { return a <= v && v <= b; }

    int put(int what, int v) {
        int was;
        if (what == 0 && in(v, 1, 4)) { was = k.fast; k.fast = v; return was; }
        if (what == 1 && in(v, 0, 1)) { was = k.songs; k.songs = v; return was; }
        if (what == 2 && in(v, 0, 240)) { was = k.bed; k.bed = v; return was; }
        return bad();
    }

    private int enter(List<int[]> rows, int limit, boolean told, int... row) {
        if (!told) return bad();
        if (rows.size() == limit) return full();
        rows.add(row);
        return rows.size() - 1;
    }

    int person(int kind, int valley) {
        return enter(k.people, 5, in(kind, 0, 5) && in(valley, 0, 1), kind, valley);
    }

    int talk(int person, int from, int to) {
        boolean told = in(person, 0, k.people.size() - 1) && 0 <= from && from < to && to <= 240;
        return enter(k.talks, 16, told, person, from, to);
    }

    int due(int clock, int sun, int worth) {
        return enter(k.dues, 8, in(clock, 0, 99) && in(sun, 0, 99) && in(worth, -99, 99), clock, sun, worth);
    }

    int sight(int sun, int clock) {
        return enter(k.sights, 10, in(sun, 0, 240) && in(clock, 0, 999), sun, clock);
    }

    int clears(int what) {
        if (!in(what, 0, 2)) return bad();
        List<int[]> rows = what == 0 ? k.talks : what == 1 ? k.dues : k.sights;
        int had = rows.size();
        rows.clear();
        return had;
    }

    int type(long v, int n) {
        if (!in(n, 1, 8)) return bad();
        if (text.length() + n > 250) return full();
        for (int i = n - 1; i >= 0; i--) text += (char) ((v >>> (8 * i)) & 0xff);
        return text.length();
    }

    int wipe() {
        int had = text.length();
        text = "";
        return had;
    }

    // THE VALLEY: its tokens by patterns.

    private static final Pattern TOKEN = Pattern.compile(" *([a-z]+|[0-9]+|[-;])");
    private List<String> tokens;
    private List<Integer> places;
    private int next;

    int read() {
        tokens = new ArrayList<>();
        places = new ArrayList<>();
        next = 0;
        Matcher m = TOKEN.matcher(text);
        int end = 0;
        while (m.find(end) && m.start() == end) {
            tokens.add(m.group(1));
            places.add(m.start(1));
            end = m.end();
        }
        while (end < text.length() && text.charAt(end) == ' ') end++;
        if (end < text.length()) { tokens.add("?"); places.add(end); }
        Kept before = k;
        k = new Kept();
        k.rule = before.rule;
        k.stake = before.stake;
        int items = 0;
        try {
            while (next < tokens.size()) { item(); items++; }
        } catch (Fault f) {
            k = before;
            return -10 - f.at;
        }
        return items;
    }

    private Fault here() {
        return new Fault(next < places.size() ? places.get(next) : text.length());
    }

    private String peek() { return next < tokens.size() ? tokens.get(next) : ""; }

    private int number(int least, int most) {
        String t = peek();
        if (!t.matches("[0-9]{1,3}") || !in(Integer.parseInt(t), least, most)) throw here();
        next++;
        return Integer.parseInt(t);
    }

    private void item() {
        switch (peek()) {
            case "fast": next++; k.fast = number(1, 4); break;
            case "songs": next++; k.songs = number(0, 1); break;
            case "bed": next++; k.bed = number(0, 240); break;
            case "person": {
                if (k.people.size() == 5) throw here();
                next++;
                int kind = number(0, 5), valley = number(0, 1);
                k.people.add(new int[] {kind, valley});
                break;
            }
            case "talk": {
                if (k.talks.size() == 16) throw here();
                next++;
                int p = number(0, k.people.size() - 1), from = number(0, 239), to = number(from + 1, 240);
                k.talks.add(new int[] {p, from, to});
                break;
            }
            case "due": {
                if (k.dues.size() == 8) throw here();
                next++;
                int clock = number(0, 99), sun = number(0, 99), sign = 1;
                if (peek().equals("-")) { next++; sign = -1; }
                k.dues.add(new int[] {clock, sun, sign * number(0, 99)});
                break;
            }
            case "sight": {
                if (k.sights.size() == 10) throw here();
                next++;
                int sun = number(0, 240), clock = number(0, 999);
                k.sights.add(new int[] {sun, clock});
                break;
            }
            default: throw here();
        }
        if (!peek().equals(";")) throw here();
        next++;
    }

    // THE RULE: read anew each time, worked while it is read.

    int write(int character) {
        if (!in(character, 0, 127)) return bad();
        if (k.rule.length() == 40) return full();
        k.rule += (char) character;
        return k.rule.length();
    }

    int erase() {
        int had = k.rule.length();
        k.rule = "";
        return had;
    }

    private int at, open;
    private Map<Character, Long> names;

    int fault() {
        try {
            tells(0, 0, 0, 0);
            return NONE;
        } catch (Fault f) {
            return f.at;
        }
    }

    private long tells(int c, int s, int o, int p) {
        names = Map.of('c', (long) c, 's', (long) s, 'o', (long) o, 'p', (long) p,
                'b', (long) k.bed, 'f', (long) k.fast);
        at = 0;
        open = 0;
        long v = value();
        if (look() != 0) throw stray();
        return v;
    }

    private Fault stray() { return new Fault(10 * at + 1); }

    /** 0 for the end; a 0 that is written stands for a sign that fits nowhere. */
    private char look() {
        while (at < k.rule.length() && k.rule.charAt(at) == ' ') at++;
        if (at == k.rule.length()) return 0;
        return k.rule.charAt(at) == 0 ? '?' : k.rule.charAt(at);
    }

    private long value() {
        long v = both();
        while (look() == '|') { at++; long w = both(); v = v != 0 | w != 0 ? 1 : 0; }
        return v;
    }

    private long both() {
        long v = held();
        while (look() == '&') { at++; long w = held(); v = v != 0 & w != 0 ? 1 : 0; }
        return v;
    }

    private long held() {
        long v = sum();
        char sign = look();
        if (sign != '<' && sign != '>' && sign != '=') return v;
        at++;
        long w = sum();
        return sign == '<' && v < w || sign == '>' && v > w || sign == '=' && v == w ? 1 : 0;
    }

    private long sum() {
        long v = term();
        while (look() == '+' || look() == '-') {
            char sign = look();
            at++;
            v = sign == '+' ? v + term() : v - term();
        }
        return v;
    }

    private long term() {
        long v = unit();
        while (look() == '*' || look() == '/') {
            char sign = look();
            at++;
            long w = unit();
            v = sign == '*' ? v * w : w == 0 ? 0 : v / w;
        }
        return v;
    }

    private long unit() {
        char sign = look();
        if (sign == '!') { at++; return unit() == 0 ? 1 : 0; }
        if (sign == '-') { at++; return -unit(); }
        if (names.containsKey(sign)) { at++; return names.get(sign); }
        if (sign >= '0' && sign <= '9') {
            int first = at;
            while (at < k.rule.length() && Character.isDigit(k.rule.charAt(at))) at++;
            if (at - first > 6) throw new Fault(10 * first + 2);
            return Long.parseLong(k.rule.substring(first, at));
        }
        if (sign != '(') throw stray();
        if (open == 8) throw new Fault(10 * at + 3);
        open++;
        at++;
        long v = value();
        if (look() != ')') throw stray();
        at++;
        open--;
        return v;
    }

    // The clocks, from minute 0 each time.

    private int one(int p, int minute, int clock, int others) {
        boolean may = false;
        for (int[] t : k.talks) may |= t[0] == p && t[1] <= minute && minute < t[2];
        if (!may) return 0;
        switch (k.people.get(p)[0]) {
            case 0: return 1;
            case 1: return 2;
            case 2: return k.songs;
            case 3: return minute % 3 == 0 ? 1 : 0;
            case 4:
                try {
                    return k.songs == 1 && tells(clock, minute, others, p) != 0 ? 1 : 0;
                } catch (Fault f) {
                    return 0;
                }
            default: return clock < k.bed ? 1 : 0;
        }
    }

    private int[] voices(int valley, int minute, int clock, int set) {
        int[] all = new int[5];
        int others = 0;
        for (int p = 0; p < k.people.size(); p++) {
            if (k.people.get(p)[1] != valley || (set & 1 << p) == 0) continue;
            all[p] = one(p, minute, clock, others);
            others += all[p];
        }
        return all;
    }

    private int[] row(int valley, int set) {
        int[] row = new int[241];
        for (int m = 0; m < 240; m++) {
            int sum = 0;
            for (int v : voices(valley, m, row[m], set)) sum += v;
            row[m + 1] = row[m] + Math.min(sum, k.fast);
        }
        return row;
    }

    int clock(int valley, int sun) {
        if (!in(valley, 0, 1) || !in(sun, 0, 240)) return bad();
        return row(valley, 31)[sun];
    }

    int counts(int person, int sun) {
        if (!in(person, 0, k.people.size() - 1) || !in(sun, 0, 239)) return bad();
        int valley = k.people.get(person)[1];
        return voices(valley, sun, row(valley, 31)[sun], 31)[person];
    }

    private int first(int valley, int c) {
        int[] row = row(valley, 31);
        for (int m = 0; m <= 240; m++) if (row[m] >= c) return m;
        return NONE;
    }

    int sun(int valley, int c) {
        if (!in(valley, 0, 1) || !in(c, 0, 999)) return bad();
        return first(valley, c);
    }

    int letter(int valley, int c, int l) {
        if (!in(valley, 0, 1) || !in(c, 0, 999) || !in(l, 0, 240)) return bad();
        int sent = first(valley, c);
        return sent == NONE || sent + l > 240 ? NONE : row(1 - valley, 31)[sent + l];
    }

    int turns(int h) {
        if (!in(h, 1, 60)) return bad();
        if (k.people.isEmpty()) return no();
        int end = 0;
        for (int[] t : k.talks) end = Math.max(end, t[2]);
        int[][] rows = {row(0, 31), row(1, 31)};
        int turn = 0;
        for (int m = 0; m < end; m++) {
            if (m > 0 && m % h == 0) turn = turn + 1 == k.people.size() ? 0 : turn + 1;
            int valley = k.people.get(turn)[1];
            if (voices(valley, m, rows[valley][m], 31)[turn] == 0) return m;
        }
        return NONE;
    }

    // Dues.

    int paid(int due) {
        if (!in(due, -1, k.dues.size() - 1)) return badWorth();
        int[] row = row(0, 31);
        int together = 0;
        for (int i = 0; i < k.dues.size(); i++) {
            int[] d = k.dues.get(i);
            boolean is = row[d[1]] >= d[0];
            if (i == due) return is ? 1 : 0;
            if (is) together += d[2];
        }
        return together;
    }

    /** What is to be had from a minute on, with the clock as it is, its dues included. */
    private int[][] table(int price) {
        int[][] most = new int[100][500];
        for (int m = 99; m >= 0; m--) {
            for (int c = 0; c <= 1 + 4 * m; c++) {
                int best = m == 99 ? 0 : Integer.MIN_VALUE;
                for (int s = 0; m < 99 && s <= k.fast; s++) best = Math.max(best, most[m + 1][c + s] - s * price);
                for (int[] d : k.dues) if (d[1] == m && c >= d[0]) best += d[2];
                most[m][c] = best;
            }
        }
        return most;
    }

    int best(int price) { return in(price, 0, 9) ? table(price)[0][0] : badWorth(); }

    int step(int price, int minute) {
        if (!in(price, 0, 9) || !in(minute, 0, 98)) return bad();
        int[][] most = table(price);
        int c = 0;
        for (int m = 0; ; m++) {
            int had = most[m][c];
            for (int[] d : k.dues) if (d[1] == m && c >= d[0]) had -= d[2];
            int s = 0;
            while (most[m + 1][c + s] - s * price != had) s++;
            if (m == minute) return s;
            c += s;
        }
    }

    int minute(int price) { return in(price, 0, 9) ? table(price)[0][1] - table(price)[0][0] : badWorth(); }

    int stake(int la, int lb, int wa, int wb, int fee) {
        if (!in(la, 0, 20) || !in(lb, 0, 20) || !in(wa, -99, 99) || !in(wb, -99, 99) || !in(fee, 0, 99)) return bad();
        k.stake = new int[] {la, lb, wa, wb, fee};
        return 1;
    }

    int silence(int n, int d, int what) {
        if (!in(n, 0, 40) || !in(d, 1, 20) || !in(what, 0, 3)) return badWorth();
        return play(0, 0, n, d, new HashMap<>())[what];
    }

    private int[] play(int minute, int gone, int n, int d, Map<Integer, int[]> known) {
        if (gone == d) return new int[] {k.stake[2], k.stake[3], NONE, gone};
        if (minute == n) return new int[] {0, 0, NONE, gone};
        int key = 100 * minute + gone;
        if (known.containsKey(key)) return known.get(key);
        int who = minute % 2;
        int[] still = play(minute + 1, gone, n, d, known).clone();
        still[0] -= k.stake[0];
        still[1] -= k.stake[1];
        int[] talk = play(minute + 1, gone + 1, n, d, known).clone();
        talk[who] -= k.stake[4];
        talk[2] = minute;
        int[] better = talk[who] > still[who] ? talk : still;
        known.put(key, better);
        return better;
    }

    int night(int n, int w, int c) {
        if (!in(n, 0, 60) || !in(w, 0, 10) || !in(c, 0, 60)) return bad();
        BigInteger sum = BigInteger.ZERO;
        BigInteger ways = BigInteger.ONE;
        for (int i = 0; i <= n; i++) {
            if (i >= c) {
                sum = sum.add(ways.multiply(BigInteger.valueOf(w).pow(i)).multiply(BigInteger.valueOf(10 - w).pow(n - i)));
            }
            ways = ways.multiply(BigInteger.valueOf(n - i)).divide(BigInteger.valueOf(i + 1));
        }
        BigInteger all = BigInteger.TEN.pow(n);
        BigInteger common = sum.gcd(all);
        above = sum.divide(common);
        below = all.divide(common);
        return 1;
    }

    int who(int what) {
        if (!in(what, 0, 2)) return bad();
        int there = 0;
        for (int p = 0; p < k.people.size(); p++) if (k.people.get(p)[1] == 0) there |= 1 << p;
        List<Integer> sets = new ArrayList<>();
        for (int set = 0; set < 32; set++) {
            if ((set | there) != there) continue;
            int[] row = row(0, set);
            boolean so = true;
            for (int[] s : k.sights) so &= row[s[0]] == s[1];
            if (so) sets.add(set);
        }
        if (what == 0) return sets.size();
        if (sets.isEmpty()) return NONE;
        int all = 31;
        for (int set : sets) all &= set;
        return what == 1 ? sets.get(0) : all;
    }

    // What there is.

    private static List<Integer> limbs(BigInteger v) {
        List<Integer> limbs = new ArrayList<>();
        BigInteger base = BigInteger.valueOf(1073741824);
        for (BigInteger rest = v; rest.signum() > 0; rest = rest.divide(base)) limbs.add(rest.mod(base).intValue());
        return limbs;
    }

    int sign(int what) {
        if (!in(what, 0, 2)) return bad();
        return what == 0 ? above.signum() : limbs(what == 1 ? above : below).size();
    }

    int limb(int which, int i) {
        if (!in(which, 0, 1) || i < 0) return bad();
        List<Integer> limbs = limbs(which == 0 ? above : below);
        return i < limbs.size() ? limbs.get(i) : NONE;
    }

    int image(int i) {
        if (!in(i, 0, 1)) return bad();
        images[i] = k.twin();
        return 1;
    }

    int from(int i) {
        if (!in(i, 0, 1)) return bad();
        if (images[i] == null) return no();
        k = images[i].twin();
        return 1;
    }

    int status(int what) {
        if (!in(what, 0, 2)) { bad(); return NONE; }
        return status[what];
    }

    int count(int what) {
        switch (what) {
            case 0: return k.people.size();
            case 1: return k.talks.size();
            case 2: return k.dues.size();
            case 3: return k.sights.size();
            case 4: return text.length();
            case 5: return k.rule.length();
            default: return bad();
        }
    }

    long digest() {
        List<Integer> all = new ArrayList<>();
        for (int i = 0; i <= 5; i++) all.add(count(i));
        all.add(k.fast);
        all.add(k.songs);
        all.add(k.bed);
        for (List<int[]> rows : List.of(k.people, k.talks, k.dues, k.sights)) {
            for (int[] row : rows) for (int v : row) all.add(v);
        }
        for (int v : k.stake) all.add(v);
        for (char c : k.rule.toCharArray()) all.add((int) c);
        for (int i = 0; i <= 2; i++) all.add(sign(i));
        all.addAll(limbs(above));
        all.addAll(limbs(below));
        long h = 701;
        for (int v : all) h = 31 * h + v;
        return h;
    }
}
