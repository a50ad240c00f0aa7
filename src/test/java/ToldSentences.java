import java.math.BigInteger;

/** The image, what refusals are and in which order, and what is told of all; promises 18 to 21. */
final class ToldSentences extends Sentences {
    private static final int COUNTS = 12;

    private ToldSentences() {
    }

    static void all() {
        imageKeeps();
        firstRefusalAsTold();
        refusalsChangeNothing();
        imageIsKept();
        imageIsTheLatest();
        howManyPlayedByImage();
        imageState();
        goesOnFromImage();
        restoreNoneKept();
        restoreAnotherPlayer();
        countSongs();
        countRule();
        countPlayed();
        countSkipped();
        countMinutes();
        countUnlike();
        countBag();
        countMay();
        countLast();
        countHeard();
        countLetters();
        countPlayers();
        countOutside();
        digestOfNumbers();
        digestOfSongs();
        digestOfPlayer();
        digestOfLetters();
        digestOfCounts();
    }

    // ---- the image, and refusals

    private static SongsAgain atImage() {
        SongsAgain x = playAll(read("a0,h1,n2,l3;3"), 0);
        x.skip();
        playAll(x, 1);
        return hearAll(x, 2, 1);
    }

    private static void imageKeeps() {
        sentence(0, "An IMAGE keeps the RULE, the BAG, the SONG played last, how often each was played, SKIPPED, HEARD.");
        SongsAgain x = atImage();
        x.image();
        x.skip();
        x.rule(0);
        playAndSkip(x, 2, 2, 0);
        hearAll(x, 3, 3, 3);
        type(x, "s0");
        due("restore()", 2, x.restore());
        due("the rule", 3, x.count(1));
        dueBag(x, "0011");
        due("the song played last", 1, x.count(8));
        int[] played = {1, 1, 0, 0};
        int[] skipped = {1, 0, 0, 0};
        for (int song = 0; song < 4; song++) {
            due("song(" + song + ", 4)", played[song], x.song(song, 4));
            due("song(" + song + ", 5)", skipped[song], x.song(song, 5));
        }
        due("count(9)", 2, x.count(9));
        due("rules() of what was heard: 2 1", 15, x.rules());
        due("the page is not of the image", 2, x.count(10));
        x.blank();
        due("digest()", atImage().digest(), x.digest());
        // that song 1 was not skipped yet is of it, too
        due("skip()", 1, x.skip());
    }

    private static void firstRefusalAsTold() {
        sentence(0, "Refusals, of several the first as told by each call: UNKNOWN (a number names nothing), OUTSIDE (it is"
                + " not as told), STATE (as told), FULL;");
        SongsAgain full = page(alike(6, 0) + "abc");
        due("letter(0) on a full page: OUTSIDE, FULL", OUTSIDE, full.letter(0));
        due("letter(127) on a full page: OUTSIDE, FULL", OUTSIDE, full.letter(127));
        due("letter(1) on a full page: FULL", FULL, full.letter(1));
        due("song(5, 10): UNKNOWN, OUTSIDE", UNKNOWN, amid().song(5, 10));
        due("song(4, 10): OUTSIDE", OUTSIDE, amid().song(4, 10));
        due("as(5, 5): UNKNOWN, OUTSIDE", UNKNOWN, amid().as(5, 5));
        due("as(4, 5): OUTSIDE", OUTSIDE, amid().as(4, 5));
        due("rule(4) of no player: OUTSIDE, STATE", OUTSIDE, unread().rule(4));
        due("rule(3) of no player: STATE", STATE, unread().rule(3));
        due("play(5): UNKNOWN", UNKNOWN, amid().play(5));
        due("play(3): STATE", STATE, amid().play(3));
        due("twice(4, 0) of no player: OUTSIDE, STATE", OUTSIDE, unread().twice(4, 0));
        due("twice(2, 2) of no player: OUTSIDE, STATE", OUTSIDE, unread().twice(2, 2));
        due("twice(2, 1) of no player: STATE", STATE, unread().twice(2, 1));
        due("party(0, 9) of no player: OUTSIDE, STATE", OUTSIDE, unread().party(0, 9));
        due("party(1, 0) of no player: OUTSIDE, STATE", OUTSIDE, unread().party(1, 0));
        due("party(0, 10) of no player: STATE", STATE, unread().party(0, 10));
        SongsAgain heard = hearAll(read("s0,s1;0"), 0, 0, 0, 0, 0, 0, 0, 0);
        due("hear(2) of a ninth: UNKNOWN, FULL", UNKNOWN, heard.hear(2));
        due("hear(1) of a ninth: FULL", FULL, heard.hear(1));
        due("evenings(61, 0, 0) of no player: OUTSIDE, STATE", OUTSIDE, unread().evenings(61, 0, 0));
        due("evenings(60, -1, 0) of no player: OUTSIDE, STATE", OUTSIDE, unread().evenings(60, -1, 0));
        due("evenings(60, 0, 3) of no player: OUTSIDE, STATE", OUTSIDE, unread().evenings(60, 0, 3));
        due("evenings(60, 0, 2) of no player: STATE", STATE, unread().evenings(60, 0, 2));
    }

    private static void refusalsChangeNothing() {
        sentence(0, "they change nothing.");
        refused("letter(0)", OUTSIDE, x -> x.letter(0));
        refused("player()", STATE, Sentences::amid, x -> x.player());
        refused("player()", STATE, () -> filled(amidSkipped()), x -> x.player());
        refused("player()", STATE, () -> filled(amidUnkept()), x -> x.player());
        refused("song(5, 0)", UNKNOWN, x -> x.song(5, 0));
        refused("song(0, 10)", OUTSIDE, x -> x.song(0, 10));
        refused("as(5, 0)", UNKNOWN, x -> x.as(5, 0));
        refused("as(0, 5)", OUTSIDE, x -> x.as(0, 5));
        refused("rule(4)", OUTSIDE, x -> x.rule(4));
        refused("play(5)", UNKNOWN, x -> x.play(5));
        refused("play(1)", STATE, x -> x.play(1));
        refused("skip()", STATE, Sentences::amidSkipped, x -> x.skip());
        refused("twice(1, 0)", OUTSIDE, x -> x.twice(1, 0));
        refused("party(32, 0)", OUTSIDE, x -> x.party(32, 0));
        refused("hear(5)", UNKNOWN, x -> x.hear(5));
        refused("evenings(0, 0, 0)", OUTSIDE, x -> x.evenings(0, 0, 0));
        refused("count(12)", OUTSIDE, x -> x.count(12));
        refused("letter('s') on a full page", FULL, () -> filled(amid()), x -> x.letter('s'));
        refused("letter('s') on a full page", FULL, () -> filled(amidUnkept()), x -> x.letter('s'));
        refused("restore()", STATE, Sentences::amidUnkept, x -> x.restore());
        refused("hear(0) of a ninth", FULL, () -> hearAll(amid(), 3, 0, 1, 2, 4, 0, 0, 1), x -> x.hear(0));
    }

    private static SongsAgain filled(SongsAgain x) {
        for (int letters = x.count(10); letters < 22; letters++) {
            x.letter('~');
        }
        return x;
    }

    // ---- image and restore

    private static void imageIsKept() {
        sentence(18, "An IMAGE is kept");
        changesNothing("image() ahead of image()", () -> atImageKept(), x -> x.image());
        SongsAgain x = atImage();
        long before = x.digest();
        x.image();
        due("digest() behind image()", before, x.digest());
        playAll(x, 2);
        due("restore()", 2, x.restore());
        due("digest() behind restore()", before, x.digest());
    }

    private static SongsAgain atImageKept() {
        SongsAgain x = atImage();
        x.image();
        return x;
    }

    private static void imageIsTheLatest() {
        sentence(18, "(one; the latest):");
        SongsAgain x = read("s0,s1;0");
        due("image() of nothing played", 0, x.image());
        playAll(x, 0, 0);
        due("image() of two", 2, x.image());
        playAll(x, 1);
        due("restore() is of two", 2, x.restore());
        due("restore() again, not of the one ahead", 2, x.restore());
        playAll(x, 1, 1, 1);
        due("image() of five", 5, x.image());
        due("restore() is of five", 5, x.restore());
        due("song(1, 4)", 3, x.song(1, 4));
    }

    private static void howManyPlayedByImage() {
        sentence(18, "how many SONGS were played.");
        SongsAgain x = read("s0,s1;0");
        for (int played = 0; played < 5; played++) {
            due("image()", played, x.image());
            playAll(x, 0);
            x.skip();
            x.hear(1);
        }
    }

    private static void imageState() {
        sentence(18, "STATE: no PLAYER.");
        refused("image()", STATE, SongsAgain::new, x -> x.image());
        refused("image()", STATE, Sentences::unread, x -> x.image());
        due("image() with a player", 0, read("h0,s1;3").image());
        SongsAgain x = unread();
        x.image();
        x.player();
        due("restore() of what was refused", STATE, x.restore());
    }

    private static void goesOnFromImage() {
        sentence(19, "It goes on from the IMAGE: how many SONGS were played.");
        SongsAgain x = atImage();
        x.image();
        playAndSkip(x, 2, 3);
        due("restore()", 2, x.restore());
        due("digest()", atImage().digest(), x.digest());
        // what goes on from there does not change the image
        playAndSkip(x, 3);
        hearAll(x, 0);
        x.rule(1);
        due("restore() again", 2, x.restore());
        due("digest() again", atImage().digest(), x.digest());
        due("play(2) from there", 1, x.play(2));
        SongsAgain skipped = atImage();
        skipped.skip();
        skipped.image();
        playAll(skipped, 2);
        due("restore() of what was skipped", 2, skipped.restore());
        due("skip() of what was skipped then", STATE, skipped.skip());
        SongsAgain none = read("s0,s1;0");
        none.image();
        playAll(none, 0);
        due("restore() of nothing played", 0, none.restore());
        due("count(8)", NONE, none.count(8));
        changesNothing("restore() at the image", ToldSentences::atImageKept, y -> y.restore());
    }

    private static void restoreNoneKept() {
        sentence(19, "STATE: none was kept,");
        refused("restore() of no player", STATE, SongsAgain::new, x -> x.restore());
        refused("restore() of no player", STATE, Sentences::unread, x -> x.restore());
        refused("restore() of none", STATE, ToldSentences::atImage, x -> x.restore());
        due("restore() of one", 2, atImageKept().restore());
    }

    private static void restoreAnotherPlayer() {
        sentence(19, "or there is another PLAYER since.");
        SongsAgain x = atImageKept();
        type(x, "s0,s0;");
        due("player() of none", STATE, x.player());
        due("restore() with no other player", 2, x.restore());
        type(x, "0");
        due("player()", 2, x.player());
        refused("restore()", STATE, ToldSentences::anotherSince, y -> y.restore());
        due("image() of the other", 0, x.image());
        due("restore() of the other's", 0, x.restore());
        SongsAgain same = atImageKept();
        type(same, "a0,h1,n2,l3;3");
        due("player() of the same text", 4, same.player());
        due("restore() behind it", STATE, same.restore());
    }

    private static SongsAgain anotherSince() {
        SongsAgain x = atImageKept();
        type(x, "s0,s0;0");
        x.player();
        return playAll(x, 1);
    }

    // ---- counts

    private static void dueCount(int what, long want, SongsAgain x) {
        due("count(" + what + ")", want, x.count(what));
        changesNothing("count(" + what + ")", y -> y.count(what));
    }

    private static void countSongs() {
        sentence(20, "How many: 0 SONGS,");
        dueCount(0, 0, new SongsAgain());
        dueCount(0, 0, unread());
        for (int songs = 2; songs <= 6; songs++) {
            dueCount(0, songs, read(alike(songs, 0)));
        }
    }

    private static void countRule() {
        sentence(20, "1 RULE (0: no PLAYER),");
        dueCount(1, 0, new SongsAgain());
        dueCount(1, 0, unread());
        for (int rule = 0; rule < 4; rule++) {
            dueCount(1, rule, read("s0,s1;" + rule));
        }
        SongsAgain x = read("s0,s1;3");
        x.rule(1);
        dueCount(1, 1, x);
    }

    private static void countPlayed() {
        sentence(20, "2 how often SONGS were played,");
        dueCount(2, 0, new SongsAgain());
        SongsAgain x = read("s0,l1;0");
        dueCount(2, 0, x);
        playAll(x, 0);
        dueCount(2, 1, x);
        playAll(x, 0, 1, 1);
        x.skip();
        x.hear(0);
        dueCount(2, 4, x);
    }

    private static void countSkipped() {
        sentence(20, "3 how often SKIPPED,");
        dueCount(3, 0, new SongsAgain());
        SongsAgain x = playAll(read("s0,l1;0"), 0);
        dueCount(3, 0, x);
        x.skip();
        dueCount(3, 1, x);
        x.skip();
        dueCount(3, 1, x);
        playAndSkip(x, 0, 0, 1);
        dueCount(3, 4, x);
    }

    private static void countMinutes() {
        sentence(20, "4 MINUTES of all that were played (each time),");
        dueCount(4, 0, new SongsAgain());
        SongsAgain x = read("l0,s1,a2;0");
        dueCount(4, 0, x);
        playAll(x, 0);
        dueCount(4, 7, x);
        playAll(x, 0, 0);
        dueCount(4, 21, x);
        playAndSkip(x, 1, 2);
        x.hear(0);
        dueCount(4, 27, x);
    }

    private static void countUnlike() {
        sentence(20, "5 unlike SONGS that were played,");
        dueCount(5, 0, new SongsAgain());
        SongsAgain x = read(alike(6, 0));
        dueCount(5, 0, x);
        for (int song = 0; song < 6; song++) {
            playAll(x, song);
            dueCount(5, song + 1, x);
            playAll(x, song);
            dueCount(5, song + 1, x);
        }
    }

    private static void countBag() {
        sentence(20, "6 in the BAG,");
        dueCount(6, 0, new SongsAgain());
        SongsAgain x = read(alike(6, 0));
        for (int song = 0; song < 5; song++) {
            dueCount(6, 6 - song, x);
            playAll(x, song);
        }
        dueCount(6, 1, x);
        playAll(x, 5);
        dueCount(6, 6, x);
    }

    private static void countMay() {
        sentence(20, "7 that MAY come next,");
        dueCount(7, 0, new SongsAgain());
        SongsAgain x = read("s0,s1,s0,n0;1");
        dueCount(7, 4, x);
        playAll(x, 0);
        dueCount(7, 2, x);
        x.rule(0);
        x.skip();
        dueCount(7, 4, x);
        x.rule(2);
        dueCount(7, 3, x);
        x.rule(3);
        playAll(x, 3, 1);
        dueCount(7, 1, x);
    }

    private static void countLast() {
        sentence(20, "8 what was played last (NONE),");
        dueCount(8, NONE, new SongsAgain());
        SongsAgain x = read("s0,s1;0");
        dueCount(8, NONE, x);
        x.hear(1);
        dueCount(8, NONE, x);
        playAll(x, 0);
        dueCount(8, 0, x);
        x.skip();
        dueCount(8, 0, x);
        playAll(x, 1);
        dueCount(8, 1, x);
    }

    private static void countHeard() {
        sentence(20, "9 that were HEARD,");
        dueCount(9, 0, new SongsAgain());
        SongsAgain x = read("s0,s1;0");
        for (int came = 0; came < 8; came++) {
            dueCount(9, came, x);
            x.hear(1);
        }
        dueCount(9, 8, x);
        x.hear(1);
        dueCount(9, 8, x);
        x.forget();
        dueCount(9, 0, x);
    }

    private static void countLetters() {
        sentence(20, "10 letters of THE PAGE,");
        SongsAgain x = new SongsAgain();
        for (int letters = 0; letters < 22; letters++) {
            dueCount(10, letters, x);
            x.letter('s');
        }
        dueCount(10, 22, x);
        x.letter('s');
        dueCount(10, 22, x);
        x.blank();
        dueCount(10, 0, x);
    }

    private static void countPlayers() {
        sentence(20, "11 how often a PLAYER was read.");
        SongsAgain x = new SongsAgain();
        dueCount(11, 0, x);
        x.player();
        dueCount(11, 0, x);
        for (int players = 1; players < 4; players++) {
            type(x, "s0,s1;0");
            x.player();
            dueCount(11, players, x);
            x.player();
            dueCount(11, players, x);
        }
        x.image();
        x.restore();
        dueCount(11, 3, x);
    }

    private static void countOutside() {
        sentence(20, "OUTSIDE.");
        due("count(0)", 5, amid().count(0));
        due("count(11)", 1, amid().count(11));
        for (int what : new int[] {-1, 12, LEAST, MOST}) {
            refused("count(" + what + ")", OUTSIDE, x -> x.count(what));
            refused("count(" + what + ")", OUTSIDE, SongsAgain::new, x -> x.count(what));
        }
    }

    // ---- the digest

    /** 997, then 31 times it and the next number, in numbers of any length; the last 64 bits are what a long keeps. */
    private static final class Sum {
        private BigInteger h = BigInteger.valueOf(997);

        Sum and(long number) {
            h = h.multiply(BigInteger.valueOf(31)).add(BigInteger.valueOf(number));
            return this;
        }

        Sum ofSongs(SongsAgain x) {
            for (int song = 0; song < x.count(0); song++) {
                for (int what = 0; what < 10; what++) {
                    and(x.song(song, what));
                }
            }
            return this;
        }

        Sum ofPlayer(SongsAgain x) {
            int all = (1 << x.count(0)) - 1;
            and(x.twice(2, 0)).and(x.twice(2, 1)).and(x.party(all, 0));
            for (int what = 10; what <= 15; what++) {
                and(x.party(all, what));
            }
            return and(x.rules()).and(x.likely());
        }

        Sum ofCounts(SongsAgain x) {
            for (int what = 0; what < COUNTS; what++) {
                and(x.count(what));
            }
            return this;
        }

        long wrapped() {
            return h.longValue();
        }
    }

    private static void digestOfNumbers() {
        sentence(21, "h is 997, then for each of these numbers, in order, 31 times h, and it (as longs, wrapping):");
        // of a new object the twelve counts alone, 0 but for the ninth, which is -1
        due("digest() of a new object", -7910199732326637562L, new SongsAgain().digest());
        due("digest() of s0,s1;0", -1149589728010148857L, read("s0,s1;0").digest());
        changesNothing("digest()", x -> x.digest());
    }

    private static void dueDigest(String of, Sum want, SongsAgain x) {
        due("digest() of " + of, want.wrapped(), x.digest());
    }

    private static void digestOfSongs() {
        sentence(21, "of each SONG what song() tells for 0 to 9;");
        for (int songs = 2; songs <= 6; songs++) {
            String text = "a0,l1,n0,h2,s1,s3".substring(0, 3 * songs - 1) + ";3";
            SongsAgain asked = playAndSkip(read(text), 1, 0);
            dueDigest(text, new Sum().ofSongs(asked).ofPlayer(asked).ofCounts(asked), playAndSkip(read(text), 1, 0));
        }
    }

    private static void digestOfPlayer() {
        sentence(21, "with a PLAYER (all up to the next semicolon) what twice() tells of 2 SONGS for 0 and 1, what party()"
                + " tells of all SONGS for 0 and 10 to 15, RULES, LIKELY;");
        SongsAgain none = new SongsAgain();
        dueDigest("no player", new Sum().ofCounts(none), new SongsAgain());
        for (String text : new String[] {"s0,s0;0", "s0,s1;2", "a0,h1,n2,l0,s3;0", "s0,s1,s2,s3,s0,s1;1"}) {
            SongsAgain asked = playAll(hearAll(read(text), 0, 1, 0), 1);
            dueDigest(text, new Sum().ofSongs(asked).ofPlayer(asked).ofCounts(asked),
                    playAll(hearAll(read(text), 0, 1, 0), 1));
        }
    }

    private static void digestOfLetters() {
        sentence(21, "letters of THE PAGE, each by its code;");
        for (String text : new String[] {"", "s", "s0,\u007e\u0001", alike(6, 3) + "abc"}) {
            Sum want = new Sum();
            for (char letter : text.toCharArray()) {
                want.and(letter);
            }
            dueDigest("\"" + text + "\"", want.ofCounts(page(text)), page(text));
        }
        SongsAgain asked = read("s0,s1;2");
        Sum want = new Sum().ofSongs(asked).ofPlayer(asked).and('h').and('3');
        type(asked, "h3");
        SongsAgain x = read("s0,s1;2");
        type(x, "h3");
        dueDigest("a player and a page", want.ofCounts(asked), x);
    }

    private static void digestOfCounts() {
        sentence(21, "what count() tells for 0 to 11.");
        SongsAgain asked = amid();
        asked.blank();
        SongsAgain x = amid();
        x.blank();
        dueDigest("amid", new Sum().ofSongs(asked).ofPlayer(asked).ofCounts(asked), x);
        type(x, "s0,s1;0");
        x.player();
        type(x, "s0,s1;0");
        x.player();
        due("digest() tells how often a player was read", read("s0,s1;0").digest() + 2, x.digest());
    }
}
