import java.util.LinkedHashMap;
import java.util.Map;
import java.util.function.Supplier;
import java.util.function.ToLongFunction;

/**
 * What the tests by sentences share. Each test begins with sentence(promise, words): the words stand so in the document
 * under that promise (0: ahead of the first), and what is looked at from there on is what they say.
 */
abstract class Sentences {
    static final int NONE = -1, UNKNOWN = -101, OUTSIDE = -102, STATE = -103, FULL = -104;
    static final int LEAST = Integer.MIN_VALUE, MOST = Integer.MAX_VALUE;
    static final int CALLS = 512;

    private static final Map<String, ToLongFunction<SongsAgain>> LOOKS = looks();
    private static Document document = null;
    private static int promise = 0;
    private static String words = "";
    private static int number = 0;
    private static int looked = 1;
    private static int wrong = 0;

    static void begin(Document of) {
        document = of;
    }

    /** How many answers were not as due, and sentences not told or not looked at. */
    static int end() {
        closeSentence();
        for (String left : document.untold()) {
            wrong("no test holds: " + left);
        }
        System.out.println(wrong == 0 ? number + " sentences hold" : wrong + " wrong of " + number + " sentences");
        return wrong;
    }

    static void sentence(int ofPromise, String itsWords) {
        closeSentence();
        promise = ofPromise;
        words = itsWords;
        looked = 0;
        number++;
        if (!document.tells(ofPromise, itsWords)) {
            wrong("the document does not say this there");
        }
    }

    private static void closeSentence() {
        if (looked == 0) {
            wrong("nothing was looked at");
        }
    }

    private static void wrong(String what) {
        wrong++;
        System.out.println("promise " + promise + ", \"" + words + "\": " + what);
    }

    static void due(String call, long want, long got) {
        looked++;
        if (got != want) {
            wrong(call + " answered " + got + ", due is " + want);
        }
    }

    /** The call is refused so, and all that can be looked at then is as on an object on which it was not called. */
    static void refused(String call, long want, Supplier<SongsAgain> made, ToLongFunction<SongsAgain> asked) {
        due(call, want, asked.applyAsLong(made.get()));
        for (Map.Entry<String, ToLongFunction<SongsAgain>> look : LOOKS.entrySet()) {
            SongsAgain refusing = made.get();
            asked.applyAsLong(refusing);
            due(look.getKey() + " after the refused " + call, look.getValue().applyAsLong(made.get()),
                    look.getValue().applyAsLong(refusing));
        }
    }

    static void refused(String call, long want, ToLongFunction<SongsAgain> asked) {
        refused(call, want, Sentences::amid, asked);
        refused(call, want, Sentences::amidSkipped, asked);
        refused(call, want, Sentences::amidUnkept, asked);
    }

    /** The call changes nothing that can be looked at, though it is not refused. */
    static void changesNothing(String call, Supplier<SongsAgain> made, ToLongFunction<SongsAgain> asked) {
        refused(call, asked.applyAsLong(made.get()), made, asked);
    }

    static void changesNothing(String call, ToLongFunction<SongsAgain> asked) {
        changesNothing(call, Sentences::amid, asked);
        changesNothing(call, Sentences::amidSkipped, asked);
        changesNothing(call, Sentences::amidUnkept, asked);
    }

    /** Each begins with another call, as one may hide what another would show. */
    private static Map<String, ToLongFunction<SongsAgain>> looks() {
        Map<String, ToLongFunction<SongsAgain>> looks = new LinkedHashMap<>();
        looks.put("all that is told", x -> all(x));
        looks.put("skip()", x -> 31L * x.skip() + all(x));
        looks.put("restore()", x -> 31L * x.restore() + all(x));
        looks.put("restore(), skip()", x -> 31L * (31L * x.restore() + x.skip()) + all(x));
        looks.put("image(), restore()", x -> 31L * (31L * x.image() + x.restore()) + all(x));
        looks.put("forget()", x -> 31L * x.forget() + all(x));
        looks.put("hear(0), hear(1)", x -> 31L * (31L * x.hear(0) + x.hear(1)) + all(x));
        looks.put("blank()", x -> 31L * x.blank() + all(x));
        looks.put("player()", x -> 31L * x.player() + all(x));
        looks.put("rule(3)", x -> 31L * x.rule(3) + all(x));
        for (int i = 0; i < 6; i++) {
            int song = i;
            looks.put("play(" + song + ")", x -> 31L * x.play(song) + all(x));
        }
        return looks;
    }

    private static long all(SongsAgain x) {
        long all = 31L * x.digest() + x.fault();
        all = 31L * all + x.twice(3, 0);
        all = 31L * all + x.twice(3, 1);
        for (int what = 0; what < 3; what++) {
            all = 31L * all + x.evenings(17, 2026, what);
        }
        return all;
    }

    // ---- objects to look at

    static SongsAgain page(String text) {
        SongsAgain x = new SongsAgain();
        type(x, text);
        return x;
    }

    static void type(SongsAgain x, String text) {
        for (int i = 0; i < text.length(); i++) {
            long had = x.count(10);
            due("letter '" + text.charAt(i) + "'", had + 1, x.letter(text.charAt(i)));
        }
    }

    static int songsOf(String text) {
        return (text.length() - 1) / 3;
    }

    static SongsAgain read(String text) {
        SongsAgain x = page(text);
        due("player() of " + text, songsOf(text), x.player());
        return x;
    }

    /** So many songs of kind 's' by singer 0, and a rule. */
    static String alike(int songs, int rule) {
        return "s0,".repeat(songs - 1) + "s0;" + rule;
    }

    static SongsAgain playAll(SongsAgain x, int... songs) {
        for (int song : songs) {
            due("play(" + song + ") is no refusal", 1, x.play(song) > 0 ? 1 : 0);
        }
        return x;
    }

    static SongsAgain playAndSkip(SongsAgain x, int... songs) {
        for (int song : songs) {
            playAll(x, song);
            due("skip() of " + song + " is no refusal", 1, x.skip() >= 0 ? 1 : 0);
        }
        return x;
    }

    static SongsAgain hearAll(SongsAgain x, int... songs) {
        x.forget();
        for (int i = 0; i < songs.length; i++) {
            due("hear(" + songs[i] + ")", i + 1, x.hear(songs[i]));
        }
        return x;
    }

    /** A player with something of all: an image of before, another rule, songs played, one not skipped yet. */
    static SongsAgain amid() {
        SongsAgain x = begun();
        x.image();
        return goneOn(x);
    }

    /** As amid(), but without an image. */
    static SongsAgain amidUnkept() {
        return goneOn(begun());
    }

    private static SongsAgain begun() {
        return hearAll(playAndSkip(read("a0,l1,n0,h2,s1;3"), 0), 3, 0);
    }

    private static SongsAgain goneOn(SongsAgain x) {
        playAll(x, 1, 3);
        x.hear(1);
        x.rule(2);
        type(x, "h0,s1;");
        return x;
    }

    /** As amid(), but what was played last is skipped, and the page is a player. */
    static SongsAgain amidSkipped() {
        SongsAgain x = amid();
        x.skip();
        type(x, "1");
        return x;
    }

    /** No player was read; the page is one. */
    static SongsAgain unread() {
        return page("h0,s1;3");
    }

    // ---- what is looked at together

    static void dueMay(SongsAgain x, String bits) {
        for (int song = 0; song < bits.length(); song++) {
            due("song(" + song + ", 7)", bits.charAt(song) - '0', x.song(song, 7));
        }
    }

    static void dueBag(SongsAgain x, String bits) {
        int all = 0;
        for (int song = 0; song < bits.length(); song++) {
            all += bits.charAt(song) - '0';
            due("song(" + song + ", 6)", bits.charAt(song) - '0', x.song(song, 6));
        }
        due("count(6)", all, x.count(6));
    }

    static void dueChance(SongsAgain x, int song, long above, long below) {
        due("song(" + song + ", 8)", above, x.song(song, 8));
        due("song(" + song + ", 9)", below, x.song(song, 9));
    }

    static void dueChances(SongsAgain x, long below, int... above) {
        for (int song = 0; song < above.length; song++) {
            long common = java.math.BigInteger.valueOf(above[song]).gcd(java.math.BigInteger.valueOf(below))
                    .longValue();
            dueChance(x, song, above[song] / common, below / common);
        }
    }

    static void dueTwice(SongsAgain x, int songs, long above, long below) {
        due("twice(" + songs + ", 0)", above, x.twice(songs, 0));
        due("twice(" + songs + ", 1)", below, x.twice(songs, 1));
    }

    static void dueParty(SongsAgain x, int songs, int orders, int... first) {
        due("party(" + songs + ", 0)", orders, x.party(songs, 0));
        for (int place = 0; place < 6; place++) {
            int want = place < first.length ? first[place] : NONE;
            due("party(" + songs + ", " + (10 + place) + ")", want, x.party(songs, 10 + place));
        }
    }

    static void dueCounts(SongsAgain x, int... want) {
        for (int what = 0; what < want.length; what++) {
            due("count(" + what + ")", want[what], x.count(what));
        }
    }

    static void dueEvenings(SongsAgain x, int songs, int seed, int unlike, int minutes) {
        due("evenings(" + songs + ", " + seed + ", 0)", unlike, x.evenings(songs, seed, 0));
        due("evenings(" + songs + ", " + seed + ", 1)", minutes, x.evenings(songs, seed, 1));
    }
}
