import java.lang.reflect.Method;
import java.math.BigInteger;
import java.util.ArrayList;
import java.util.Collections;
import java.util.LinkedHashSet;
import java.util.List;
import java.util.Set;
import java.util.TreeSet;
import java.util.regex.Matcher;
import java.util.regex.Pattern;

/** Long runs of calls on SongsAgain and on a model of the document made in another way: they must answer alike. */
public final class ModelTest {
    private static final int RUNS = 1500, CALLS = 300;
    private static final String[] ONE = {"letter", "rule", "play", "hear", "count"};
    private static final String[] TWO = {"song", "as", "twice", "party"};
    private static final String[] NO = {"blank", "fault", "player", "skip", "forget", "rules", "likely", "image",
        "restore", "digest"};
    private static final int[] ODD = {-1, 0, 1, 2, 3, 4, 5, 6, 7, 9, 10, 15, 16, 63, 64, Integer.MIN_VALUE,
        Integer.MAX_VALUE};

    private static long state = 20261118L;
    private static final List<String> log = new ArrayList<>();

    public static void main(String[] args) throws Exception {
        for (int run = 0; run < RUNS; run++) {
            if (!agree(run)) {
                System.exit(1);
            }
        }
        System.out.println(RUNS + " runs answer as the model does");
    }

    private static int any(int bound) {
        state = state * 6364136223846793005L + 1442695040888963407L;
        return (int) ((state >>> 33) % bound);
    }

    private static int odd(int usual) {
        return any(8) == 0 ? ODD[any(ODD.length)] : any(usual);
    }

    private static boolean agree(int run) throws Exception {
        SongsAgain x = new SongsAgain();
        SongsModel model = new SongsModel();
        log.clear();
        boolean goesOn = any(6) == 0 || typed(x, model);
        for (int i = 0; goesOn && i < CALLS; i++) {
            goesOn = any(70) == 0 ? typed(x, model) : anyCall(x, model);
        }
        if (!goesOn) {
            System.out.println("run " + run + ": " + String.join(" ", log));
        }
        return goesOn;
    }

    private static boolean typed(SongsAgain x, SongsModel model) throws Exception {
        if (!same(x, model, "blank")) {
            return false;
        }
        StringBuilder text = new StringBuilder();
        int songs = 2 + any(5);
        int singers = 1 + any(4);
        for (int i = 0; i < songs; i++) {
            text.append(i == 0 ? "" : ",").append("slhna".charAt(any(5))).append(any(singers));
        }
        text.append(';').append(any(4));
        if (any(5) == 0) {
            text.setCharAt(any(text.length()), "slhna01234,;x".charAt(any(13)));
        }
        for (int i = 0; i < text.length(); i++) {
            if (!same(x, model, "letter", text.charAt(i))) {
                return false;
            }
        }
        return same(x, model, "fault") && same(x, model, "player");
    }

    private static boolean anyCall(SongsAgain x, SongsModel model) throws Exception {
        int kind = any(24);
        if (kind < 6) {
            return same(x, model, "play", odd(6));
        }
        if (kind < 8) {
            return same(x, model, "skip");
        }
        if (kind < 10) {
            return same(x, model, "hear", odd(6));
        }
        if (kind < 12) {
            return same(x, model, "evenings", any(8) == 0 ? odd(61) : 1 + any(60), any(8) == 0 ? odd(5)
                    : any(Integer.MAX_VALUE), odd(3));
        }
        if (kind < 16) {
            return same(x, model, NO[any(NO.length)]);
        }
        if (kind < 19) {
            String name = ONE[any(ONE.length)];
            return same(x, model, name, odd(name.equals("count") ? 12 : name.equals("rule") ? 4 : 7));
        }
        String name = TWO[any(TWO.length)];
        if (name.equals("party")) {
            return same(x, model, name, odd(64), any(3) == 0 ? odd(2) : 10 + any(6));
        }
        return name.equals("twice") ? same(x, model, name, 2 + odd(2), odd(2))
                : same(x, model, name, odd(6), odd(name.equals("as") ? 5 : 10));
    }

    private static boolean same(SongsAgain x, SongsModel model, String name, int... args) throws Exception {
        Class<?>[] types = new Class<?>[args.length];
        Object[] values = new Object[args.length];
        for (int i = 0; i < args.length; i++) {
            types[i] = int.class;
            values[i] = args[i];
        }
        Method asked = SongsAgain.class.getMethod(name, types);
        Method due = SongsModel.class.getDeclaredMethod(name, types);
        long got = ((Number) asked.invoke(x, values)).longValue();
        long want = ((Number) due.invoke(model, values)).longValue();
        log.add(name + java.util.Arrays.toString(args) + "=" + got);
        if (got != want) {
            log.add("due is " + want);
        }
        return got == want;
    }
}

/** The document in sets, lists and ways gone one by one. */
final class SongsModel {
    private static final Pattern PLAYER = Pattern.compile("[slhna][0-3](,[slhna][0-3]){1,5};[0-3]");

    private String page = "";
    private int read = 0;
    private List<String> songs = new ArrayList<>();
    private Now now = new Now();
    private Now kept = null;

    private static final class Now {
        int rule = 0;
        Set<Integer> bag = new TreeSet<>();
        List<Integer> played = new ArrayList<>();
        List<Integer> skipped = new ArrayList<>();
        List<Integer> heard = new ArrayList<>();
        boolean maySkip = false;

        Now copy() {
            Now to = new Now();
            to.rule = rule;
            to.bag = new TreeSet<>(bag);
            to.played = new ArrayList<>(played);
            to.skipped = new ArrayList<>(skipped);
            to.heard = new ArrayList<>(heard);
            to.maySkip = maySkip;
            return to;
        }
    }

    private boolean none() {
        return songs.isEmpty();
    }

    private Set<Integer> all() {
        Set<Integer> all = new TreeSet<>();
        for (int i = 0; i < songs.size(); i++) {
            all.add(i);
        }
        return all;
    }

    private char kind(int song) {
        return songs.get(song).charAt(0);
    }

    private char singer(int song) {
        return songs.get(song).charAt(1);
    }

    private int full(int song) {
        return kind(song) == 'a' ? 3 : kind(song) == 'h' ? 2 : 1;
    }

    private int weighs(int song) {
        return Math.max(0, full(song) - Collections.frequency(now.skipped, song));
    }

    private int lasts(int song) {
        return kind(song) == 'l' ? 7 : 3;
    }

    private Integer lastOf(List<Integer> came) {
        return came.isEmpty() ? null : came.get(came.size() - 1);
    }

    private Set<Integer> may(int rule, Set<Integer> bag, Integer last) {
        Set<Integer> else_ = rule >= 2 ? new TreeSet<>(bag) : all();
        if (rule % 2 == 0 || last == null) {
            return else_;
        }
        Set<Integer> some = new TreeSet<>();
        for (int song : else_) {
            if (kind(song) == 'n' || singer(song) != singer(last)) {
                some.add(song);
            }
        }
        return some.isEmpty() ? else_ : some;
    }

    private Set<Integer> after(Set<Integer> bag, int song) {
        Set<Integer> left = new TreeSet<>(bag);
        left.remove(song);
        return left.isEmpty() ? all() : left;
    }

    /** A song stands in the wheel as often as it weighs. */
    private List<Integer> wheel(Set<Integer> may, boolean skips) {
        List<Integer> wheel = new ArrayList<>();
        for (int song : may) {
            for (int i = 0; i < (skips ? weighs(song) : full(song)); i++) {
                wheel.add(song);
            }
        }
        return wheel.isEmpty() ? new ArrayList<>(may) : wheel;
    }

    private static BigInteger[] lowest(BigInteger above, BigInteger below) {
        BigInteger common = above.gcd(below);
        return new BigInteger[] {above.divide(common), below.divide(common)};
    }

    int letter(int code) {
        if (code <= 0 || code >= 127) {
            return -102;
        }
        if (page.length() == 22) {
            return -104;
        }
        page += (char) code;
        return page.length();
    }

    int blank() {
        int had = page.length();
        page = "";
        return had;
    }

    int fault() {
        for (int length = 1; length <= page.length(); length++) {
            Matcher matcher = PLAYER.matcher(page.substring(0, length));
            if (!matcher.matches() && !matcher.hitEnd()) {
                return length - 1;
            }
        }
        return page.length();
    }

    int player() {
        if (!PLAYER.matcher(page).matches()) {
            return -103;
        }
        String[] halves = page.split(";");
        songs = new ArrayList<>(List.of(halves[0].split(",")));
        now = new Now();
        now.rule = Integer.parseInt(halves[1]);
        now.bag = all();
        kept = null;
        read++;
        page = "";
        return songs.size();
    }

    int song(int song, int what) {
        if (!all().contains(song)) {
            return -101;
        }
        Set<Integer> may = may(now.rule, now.bag, lastOf(now.played));
        List<Integer> wheel = wheel(may, true);
        BigInteger[] chance = lowest(BigInteger.valueOf(Collections.frequency(wheel, song)),
                BigInteger.valueOf(wheel.size()));
        switch (what) {
            case 0: return "slhna".indexOf(kind(song));
            case 1: return singer(song) - '0';
            case 2: return weighs(song);
            case 3: return lasts(song);
            case 4: return Collections.frequency(now.played, song);
            case 5: return Collections.frequency(now.skipped, song);
            case 6: return now.bag.contains(song) ? 1 : 0;
            case 7: return may.contains(song) ? 1 : 0;
            case 8: return chance[0].intValueExact();
            case 9: return chance[1].intValueExact();
            default: return -102;
        }
    }

    int as(int song, int kind) {
        if (!all().contains(song)) {
            return -101;
        }
        if (kind < 0 || kind > 4) {
            return -102;
        }
        String own = kind(song) == 'a' ? "sha" : "s" + kind(song);
        return own.indexOf("slhna".charAt(kind)) >= 0 ? song : -1;
    }

    int rule(int rule) {
        if (rule < 0 || rule > 3) {
            return -102;
        }
        if (none()) {
            return -103;
        }
        int was = now.rule;
        now.rule = rule;
        return was;
    }

    int play(int song) {
        if (!all().contains(song)) {
            return -101;
        }
        if (!may(now.rule, now.bag, lastOf(now.played)).contains(song)) {
            return -103;
        }
        now.bag = after(now.bag, song);
        now.played.add(song);
        now.maySkip = true;
        return now.bag.size();
    }

    int skip() {
        if (!now.maySkip) {
            return -103;
        }
        now.maySkip = false;
        now.skipped.add(lastOf(now.played));
        return weighs(lastOf(now.played));
    }

    private BigInteger[] twiceOf(int left, Set<Integer> bag, Integer last, List<Integer> came) {
        if (left == 0) {
            boolean again = new TreeSet<>(came).size() < came.size();
            return new BigInteger[] {again ? BigInteger.ONE : BigInteger.ZERO, BigInteger.ONE};
        }
        List<Integer> wheel = wheel(may(now.rule, bag, last), true);
        BigInteger[] sum = {BigInteger.ZERO, BigInteger.ONE};
        for (int song : wheel) {
            List<Integer> then = new ArrayList<>(came);
            then.add(song);
            BigInteger[] part = twiceOf(left - 1, after(bag, song), song, then);
            sum = lowest(sum[0].multiply(part[1]).add(part[0].multiply(sum[1])), sum[1].multiply(part[1]));
        }
        return lowest(sum[0], sum[1].multiply(BigInteger.valueOf(wheel.size())));
    }

    long twice(int number, int what) {
        if (number != 2 && number != 3 || what != 0 && what != 1) {
            return -102;
        }
        return none() ? -103 : twiceOf(number, now.bag, lastOf(now.played), new ArrayList<>())[what].longValueExact();
    }

    private void orders(List<Integer> left, List<Integer> order, List<List<Integer>> found) {
        if (left.isEmpty()) {
            for (int i = 1; i < order.size(); i++) {
                if (singer(order.get(i)) == singer(order.get(i - 1))) {
                    return;
                }
            }
            found.add(order);
        }
        for (Integer song : left) {
            List<Integer> others = new ArrayList<>(left);
            others.remove(song);
            List<Integer> then = new ArrayList<>(order);
            then.add(song);
            orders(others, then, found);
        }
    }

    int party(int bits, int what) {
        if (bits < 0 || bits >= 1 << songs.size() || what != 0 && (what < 10 || what > 15)) {
            return -102;
        }
        if (none()) {
            return -103;
        }
        List<Integer> guests = new ArrayList<>();
        for (int song : all()) {
            if ((bits & 1 << song) != 0) {
                guests.add(song);
            }
        }
        List<List<Integer>> found = new ArrayList<>();
        orders(guests, new ArrayList<>(), found);
        if (what == 0) {
            return found.size();
        }
        return found.isEmpty() || what - 10 >= guests.size() ? -1 : found.get(0).get(what - 10);
    }

    int hear(int song) {
        if (!all().contains(song)) {
            return -101;
        }
        if (now.heard.size() == 8) {
            return -104;
        }
        now.heard.add(song);
        return now.heard.size();
    }

    int forget() {
        int came = now.heard.size();
        now.heard = new ArrayList<>();
        return came;
    }

    private BigInteger[] heardBy(int rule) {
        BigInteger[] chance = {BigInteger.ONE, BigInteger.ONE};
        Set<Integer> bag = all();
        Integer last = null;
        for (int song : now.heard) {
            List<Integer> wheel = wheel(may(rule, bag, last), false);
            chance = lowest(chance[0].multiply(BigInteger.valueOf(Collections.frequency(wheel, song))),
                    chance[1].multiply(BigInteger.valueOf(wheel.size())));
            bag = after(bag, song);
            last = song;
        }
        return chance;
    }

    int rules() {
        int bits = 0;
        for (int rule = 0; rule < 4; rule++) {
            bits += heardBy(rule)[0].signum() << rule;
        }
        return none() ? -103 : bits;
    }

    int likely() {
        int most = -1;
        BigInteger[] best = {BigInteger.ZERO, BigInteger.ONE};
        for (int rule = 0; rule < 4; rule++) {
            BigInteger[] chance = heardBy(rule);
            if (chance[0].multiply(best[1]).compareTo(best[0].multiply(chance[1])) > 0) {
                best = chance;
                most = rule;
            }
        }
        return none() ? -103 : most;
    }

    int evenings(int number, int seed, int what) {
        if (number < 1 || number > 60 || seed < 0 || what < 0 || what > 2) {
            return -102;
        }
        if (none()) {
            return -103;
        }
        BigInteger next = BigInteger.valueOf(seed);
        Set<Integer> bag = now.bag;
        Integer last = lastOf(now.played);
        Set<Integer> unlike = new LinkedHashSet<>();
        int minutes = 0;
        for (int i = 0; i < number; i++) {
            next = next.multiply(BigInteger.valueOf(1103515245)).add(BigInteger.valueOf(12345))
                    .mod(BigInteger.TWO.pow(31));
            List<Integer> wheel = wheel(may(now.rule, bag, last), true);
            last = wheel.get(next.intValueExact() / 65536 % wheel.size());
            bag = after(bag, last);
            unlike.add(last);
            minutes += lasts(last);
        }
        return what == 0 ? unlike.size() : what == 1 ? minutes : next.intValueExact();
    }

    int image() {
        if (none()) {
            return -103;
        }
        kept = now.copy();
        return now.played.size();
    }

    int restore() {
        if (kept == null) {
            return -103;
        }
        now = kept.copy();
        return now.played.size();
    }

    int count(int what) {
        int minutes = 0;
        for (int song : now.played) {
            minutes += lasts(song);
        }
        switch (what) {
            case 0: return songs.size();
            case 1: return now.rule;
            case 2: return now.played.size();
            case 3: return now.skipped.size();
            case 4: return minutes;
            case 5: return new TreeSet<>(now.played).size();
            case 6: return now.bag.size();
            case 7: return may(now.rule, now.bag, lastOf(now.played)).size();
            case 8: return now.played.isEmpty() ? -1 : lastOf(now.played);
            case 9: return now.heard.size();
            case 10: return page.length();
            case 11: return read;
            default: return -102;
        }
    }

    long digest() {
        List<Long> numbers = new ArrayList<>();
        for (int song : all()) {
            for (int what = 0; what < 10; what++) {
                numbers.add((long) song(song, what));
            }
        }
        if (!none()) {
            int everyone = (1 << songs.size()) - 1;
            numbers.add(twice(2, 0));
            numbers.add(twice(2, 1));
            for (int what : new int[] {0, 10, 11, 12, 13, 14, 15}) {
                numbers.add((long) party(everyone, what));
            }
            numbers.add((long) rules());
            numbers.add((long) likely());
        }
        for (char letter : page.toCharArray()) {
            numbers.add((long) letter);
        }
        for (int what = 0; what < 12; what++) {
            numbers.add((long) count(what));
        }
        long h = 997;
        for (long number : numbers) {
            h = h * 31 + number;
        }
        return h;
    }
}
