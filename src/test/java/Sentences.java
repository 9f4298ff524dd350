import java.io.IOException;
import java.nio.charset.StandardCharsets;
import java.nio.file.Files;
import java.nio.file.Path;
import java.util.ArrayList;
import java.util.List;
import java.util.function.IntSupplier;
import java.util.regex.Matcher;
import java.util.regex.Pattern;

/** Sentences of the document, word by word, each with a test of its own. */
abstract class Sentences {
    static final int NONE = -1, BAD = -2, NO = -3, FULL = -4, LOST = -10000;

    private static final Path PLACE = Path.of("../shared/DOC.md");

    /** What names an edge: a range, a limit, what is so at first, what is answered in its stead. */
    private static final Pattern EDGE = Pattern.compile("-?\\d+ \\.\\. \\d+|\\bat most\\b|\\bat first\\b|\\bat least\\b"
            + "|\\bBAD\\b|\\bNO\\b|\\bFULL\\b|\\bNONE\\b|\\bnone\\b|\\bbelow\\b|\\bbehind\\b|\\bahead of\\b|\\bless than\\b"
            + "|\\bas alike\\b|\\bempty\\b|\\bwrap\\b|\\btoo early\\b|\\b\\d+th\\b|\\bseventh\\b|\\ban other\\b|\\belse\\b");

    private static String doc = "";
    private static boolean[] isQuoted = new boolean[0];
    private static final List<String> failed = new ArrayList<>();
    private static String current = "";
    private static int sentences;
    private static int checks;

    static void open() throws IOException {
        String all = Files.readString(PLACE, StandardCharsets.UTF_8);
        // The face stands ahead of the Terms: SourceTest looks at it.
        doc = all.substring(all.indexOf("## Terms")).replaceAll("\\s+", " ");
        isQuoted = new boolean[doc.length()];
    }

    static void says(String quote, Runnable test) {
        sentences++;
        current = quote;
        int at = doc.indexOf(quote);
        if (at < 0) {
            fail("the document does not say so");
            return;
        }
        for (int i = at; i < at + quote.length(); i++) {
            isQuoted[i] = true;
        }
        int had = checks;
        test.run();
        if (checks == had) {
            fail("nothing was looked at");
        }
    }

    static void close() {
        current = "the whole document";
        int end = doc.indexOf("## Not promised");
        Matcher edge = EDGE.matcher(doc);
        while (edge.find() && edge.start() < end) {
            if (!isQuoted[edge.start()]) {
                fail("an edge without a test: .. " + doc.substring(Math.max(0, edge.start() - 40), edge.end() + 20));
            }
        }
        for (int i = 1; i <= 33; i++) {
            int at = doc.indexOf("## Promise " + i + ":");
            int colon = doc.indexOf("`: ", at) + 3;
            if (at < 0 || colon < 3 || !isQuoted[colon]) {
                fail("a promise without a test: " + i);
            }
        }
        System.out.println(sentences + " sentences, " + checks + " answers, " + failed.size() + " not as due");
        if (!failed.isEmpty()) {
            System.exit(1);
        }
    }

    private static void fail(String what) {
        failed.add(what);
        System.out.println("\"" + current + "\": " + what);
    }

    static void is(String what, long got, long want) {
        checks++;
        if (got != want) {
            fail(what + ": " + got + ", due is " + want);
        }
    }

    // A refused call answers as told and changes STATUS alone, by one of its reason.

    static void bad(SpokenClock x, String what, IntSupplier call) {
        refused(x, what, 0, BAD, call);
    }

    static void lost(SpokenClock x, String what, IntSupplier call) {
        refused(x, what, 0, LOST, call);
    }

    static void no(SpokenClock x, String what, IntSupplier call) {
        refused(x, what, 1, NO, call);
    }

    static void full(SpokenClock x, String what, IntSupplier call) {
        refused(x, what, 2, FULL, call);
    }

    private static void refused(SpokenClock x, String what, int reason, int answer, IntSupplier call) {
        int[] had = {x.status(0), x.status(1), x.status(2)};
        long before = looks(x);
        is(what, call.getAsInt(), answer);
        is(what + ": all else stays", looks(x) == before ? 1 : 0, 1);
        for (int i = 0; i <= 2; i++) {
            is(what + ": STATUS " + i, x.status(i) - had[i], i == reason ? 1 : 0);
        }
    }

    private static long looks(SpokenClock x) {
        return x.digest() + 1009L * x.clock(0, 240) + 1000003L * x.clock(1, 240);
    }

    // Objects to begin with.

    static void type(SpokenClock x, String text) {
        x.wipe();
        for (int i = 0; i < text.length(); i += 8) {
            int n = Math.min(8, text.length() - i);
            long v = 0;
            for (int j = 0; j < n; j++) {
                v = v << 8 | text.charAt(i + j);
            }
            x.type(v, n);
        }
    }

    static int read(SpokenClock x, String text) {
        type(x, text);
        return x.read();
    }

    static int readNew(String text) {
        return read(new SpokenClock(), text);
    }

    static SpokenClock told(String valley) {
        SpokenClock x = new SpokenClock();
        is("items of '" + valley + "'", read(x, valley), valley.length() - valley.replace(";", "").length());
        x.wipe();
        return x;
    }

    static void write(SpokenClock x, String rule) {
        x.erase();
        for (int i = 0; i < rule.length(); i++) {
            x.write(rule.charAt(i));
        }
    }

    static int fault(String rule) {
        SpokenClock x = new SpokenClock();
        write(x, rule);
        return x.fault();
    }

    /** 1, if the rule tells something but 0 for the one who is there, in valley 0, all day. */
    static int tells(String rule, int minute) {
        SpokenClock x = told("person 4 0;talk 0 0 240;songs 1;");
        write(x, rule);
        return x.counts(0, minute);
    }

    static String many(String part, int times) {
        return part.repeat(times);
    }
}
