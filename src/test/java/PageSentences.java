/** What a player is as a text, and promises 1 to 5: the page, and how it is read. */
final class PageSentences extends Sentences {
    private static final String SIX = "s0,l1,h2,n3,a0,s1;3";
    private static final int MOST_CODE = 126, MOST_LETTERS = 22;

    private PageSentences() {
    }

    static void all() throws Exception {
        constants();
        callsOfAnObject();
        twoToSixSongs();
        numberedFromNothing();
        commaBetween();
        letterOfKind();
        digitOfSinger();
        semicolonAndRule();
        atFirstNone();
        kindsByLetter();
        noPlayer();
        letterComes();
        letterOutside();
        letterFull();
        blank();
        faultPlace();
        faultNone();
        readAsThePlayer();
        anotherIsGone();
        howManySongs();
        pageIsEmptyThen();
        stateItIsNone();
    }

    private static void constants() throws Exception {
        sentence(0, "NONE = -1, UNKNOWN = -101, OUTSIDE = -102, STATE = -103, FULL = -104");
        String[] names = {"NONE", "UNKNOWN", "OUTSIDE", "STATE", "FULL"};
        int[] values = {-1, -101, -102, -103, -104};
        for (int i = 0; i < names.length; i++) {
            due(names[i], values[i], SongsAgain.class.getField(names[i]).getInt(null));
        }
    }

    private static void callsOfAnObject() {
        sentence(0, "An object is used for at most 512 calls after it has been made");
        // type() asks count(10) ahead of each letter: 7 letters and player() are 15 calls
        int madeBy = 15;
        SongsAgain x = read("l0,a1;0");
        for (int i = madeBy + 1; i < CALLS; i++) {
            int song = (i - madeBy - 1) % 2;
            due("play(" + song + ") as call " + i, song == 0 ? 1 : 2, x.play(song));
        }
        due("count(2) as call 512", CALLS - 1 - madeBy, x.count(2));
        SongsAgain skips = read("l0,a1;0");
        for (int i = madeBy + 1; i + 2 < CALLS; i += 2) {
            due("play(1) as call " + i, 1, skips.play(1));
            skips.skip();
        }
        due("play(1) as call 510", 1, skips.play(1));
        due("skip() as call 511", 0, skips.skip());
        due("song(1, 5) as call 512", (CALLS - madeBy - 1) / 2, skips.song(1, 5));
        SongsAgain filled = read("l0,a1;0");
        for (int i = madeBy + 1; i < CALLS; i++) {
            due("count(0) as call " + i, 2, filled.count(0));
        }
        due("digest() as call 512", read("l0,a1;0").digest(), filled.digest());
    }

    private static void twoToSixSongs() {
        sentence(0, "two to six SONGS");
        for (int songs = 2; songs <= 6; songs++) {
            SongsAgain x = page(alike(songs, 0));
            due("fault() of " + songs + " songs", 3 * songs + 1, x.fault());
            due("player() of " + songs + " songs", songs, x.player());
        }
        due("fault() of 1 song", 2, page(alike(1, 0)).fault());
        refused("player() of 1 song", STATE, () -> page(alike(1, 0)), x -> x.player());
        due("fault() of 7 songs", 17, page(alike(7, 0)).fault());
        refused("player() of 7 songs", STATE, () -> page(alike(7, 0)), x -> x.player());
        due("player() of no songs", STATE, page(";0").player());
    }

    private static void numberedFromNothing() {
        sentence(0, "(numbered from 0)");
        int[] kinds = {0, 1, 2, 3, 4, 0};
        for (int songs = 2; songs <= 6; songs++) {
            SongsAgain x = read(SIX.substring(0, 3 * songs - 1) + ";0");
            due("song(-1, 0) of " + songs, UNKNOWN, x.song(-1, 0));
            for (int song = 0; song < songs; song++) {
                due("song(" + song + ", 0) of " + songs, kinds[song], x.song(song, 0));
            }
            due("song(" + songs + ", 0)", UNKNOWN, x.song(songs, 0));
        }
    }

    /** Of all letters just the allowed fit behind this page. */
    private static void dueFits(String ahead, String allowed) {
        for (int code = 1; code <= MOST_CODE; code++) {
            SongsAgain x = page(ahead);
            x.letter(code);
            boolean fits = allowed.indexOf(code) >= 0;
            due("fault() of \"" + ahead + "\" and code " + code, ahead.length() + (fits ? 1 : 0), x.fault());
        }
    }

    private static void commaBetween() {
        sentence(0, "with \",\" between");
        dueFits("s0", ",");
        dueFits("s0,s0", ",;");
        dueFits("s0,s0,s0,s0,s0", ",;");
        dueFits("s0,s0,s0,s0,s0,s0", ";");
        refused("player() of a ',' too many", STATE, () -> page("s0,s0,;0"), x -> x.player());
        refused("player() of a ',' too few", STATE, () -> page("s0s0;0"), x -> x.player());
    }

    private static void letterOfKind() {
        sentence(0, "each a letter, the KIND");
        dueFits("", "slhna");
        dueFits("a3,", "slhna");
        dueFits("s0,s1,s2,s3,s0,", "slhna");
    }

    private static void digitOfSinger() {
        sentence(0, "and a digit, the SINGER (0 to 3)");
        dueFits("s", "0123");
        dueFits("s0,n", "0123");
        dueFits("s0,s0,s0,s0,s0,a", "0123");
        SongsAgain x = read("s0,s1,s2,s3;0");
        for (int song = 0; song < 4; song++) {
            due("song(" + song + ", 1)", song, x.song(song, 1));
        }
        refused("player() of singer '4'", STATE, () -> page("s0,s4;0"), y -> y.player());
        refused("player() of singer '/'", STATE, () -> page("s0,s/;0"), y -> y.player());
    }

    private static void semicolonAndRule() {
        sentence(0, "then \";\" and a digit RULE (0 to 3)");
        dueFits("s0,s0;", "0123");
        dueFits("s0,s0,s0,s0,s0,s0;", "0123");
        dueFits("s0,s0;3", "");
        for (int rule = 0; rule < 4; rule++) {
            due("count(1)", rule, read("s0,s0;" + rule).count(1));
        }
        refused("player() of rule '4'", STATE, () -> page("s0,s0;4"), x -> x.player());
        refused("player() of rule '/'", STATE, () -> page("s0,s0;/"), x -> x.player());
        refused("player() of no rule", STATE, () -> page("s0,s0;"), x -> x.player());
        refused("player() of no ';'", STATE, () -> page("s0,s0"), x -> x.player());
        refused("player() of two digits", STATE, () -> page("s0,s0;00"), x -> x.player());
    }

    private static void atFirstNone() {
        sentence(0, "At first there is none.");
        due("count(0)", 0, new SongsAgain().count(0));
        SongsAgain x = unread();
        due("count(0) ahead of player()", 0, x.count(0));
        due("count(1) ahead of player()", 0, x.count(1));
        due("rule(0) ahead of player()", STATE, x.rule(0));
        due("song(0, 0) ahead of player()", UNKNOWN, x.song(0, 0));
        x.player();
        due("count(0) behind player()", 2, x.count(0));
        due("song(0, 0) behind player()", 2, x.song(0, 0));
        due("rule(0) behind player()", 3, x.rule(0));
    }

    private static void kindsByLetter() {
        sentence(0, "KINDS are told by the letter: 0 SONG \"s\", 1 LONG \"l\", 2 HIT \"h\", 3 NURSERY \"n\","
                + " 4 ANTHEM \"a\".");
        SongsAgain x = read("s0,l0,h0,n0,a0;0");
        for (int kind = 0; kind < 5; kind++) {
            due("song(" + kind + ", 0)", kind, x.song(kind, 0));
        }
    }

    private static void noPlayer() {
        sentence(1, "No PLAYER.");
        SongsAgain x = new SongsAgain();
        dueCounts(x, 0, 0, 0, 0, 0, 0, 0, 0, NONE, 0, 0, 0);
        due("fault()", 0, x.fault());
        due("blank()", 0, x.blank());
        due("forget()", 0, x.forget());
        refused("player()", STATE, SongsAgain::new, y -> y.player());
        refused("song(0, 0)", UNKNOWN, SongsAgain::new, y -> y.song(0, 0));
        refused("as(0, 0)", UNKNOWN, SongsAgain::new, y -> y.as(0, 0));
        refused("rule(0)", STATE, SongsAgain::new, y -> y.rule(0));
        refused("play(0)", UNKNOWN, SongsAgain::new, y -> y.play(0));
        refused("skip()", STATE, SongsAgain::new, y -> y.skip());
        refused("twice(2, 0)", STATE, SongsAgain::new, y -> y.twice(2, 0));
        refused("party(0, 0)", STATE, SongsAgain::new, y -> y.party(0, 0));
        refused("hear(0)", UNKNOWN, SongsAgain::new, y -> y.hear(0));
        refused("rules()", STATE, SongsAgain::new, y -> y.rules());
        refused("likely()", STATE, SongsAgain::new, y -> y.likely());
        refused("evenings(1, 0, 0)", STATE, SongsAgain::new, y -> y.evenings(1, 0, 0));
        refused("image()", STATE, SongsAgain::new, y -> y.image());
        refused("restore()", STATE, SongsAgain::new, y -> y.restore());
    }

    private static void letterComes() {
        sentence(2, "A letter comes behind THE PAGE, by its code: how many THE PAGE has.");
        SongsAgain x = new SongsAgain();
        due("letter('s')", 1, x.letter('s'));
        due("fault() of s", 1, x.fault());
        due("letter('3')", 2, x.letter('3'));
        due("fault() of s3", 2, x.fault());
        due("letter('s')", 3, x.letter('s'));
        due("fault() of s3s", 2, x.fault());
        due("count(10)", 3, x.count(10));
        SongsAgain other = page("3s");
        due("fault() of 3s", 0, other.fault());
        due("digest() tells s3s from s33", 1, page("s3s").digest() != page("s33").digest() ? 1 : 0);
    }

    private static void letterOutside() {
        sentence(2, "OUTSIDE: code (1 to 126)");
        due("letter(1)", 1, new SongsAgain().letter(1));
        due("letter(126)", 1, new SongsAgain().letter(MOST_CODE));
        // 256 and 65536 above or below: a letter whose last bits alone are a code
        for (int code : new int[] {0, 127, -1, 128, 256 + 's', 's' - 256, 65536 + 's', 's' - 65536, LEAST, MOST}) {
            refused("letter(" + code + ")", OUTSIDE, SongsAgain::new, x -> x.letter(code));
            refused("letter(" + code + ")", OUTSIDE, x -> x.letter(code));
        }
    }

    private static SongsAgain fullPage() {
        return page(alike(6, 0) + "abc");
    }

    private static void letterFull() {
        sentence(2, "FULL: above 22");
        SongsAgain x = new SongsAgain();
        for (int letters = 1; letters <= MOST_LETTERS; letters++) {
            due("letter " + letters, letters, x.letter(MOST_CODE));
        }
        refused("letter 23", FULL, PageSentences::fullPage, y -> y.letter('s'));
        refused("letter 23, twice", FULL, PageSentences::fullPage, y -> Math.min(y.letter(1), y.letter(MOST_CODE)));
        SongsAgain again = fullPage();
        again.blank();
        due("letter('s') behind blank()", 1, again.letter('s'));
    }

    private static void blank() {
        sentence(3, "THE PAGE is empty: how many letters it had.");
        changesNothing("blank() of none", SongsAgain::new, x -> x.blank());
        due("blank() of none", 0, new SongsAgain().blank());
        due("blank() of 1", 1, page("s").blank());
        SongsAgain x = fullPage();
        due("blank() of 22", MOST_LETTERS, x.blank());
        due("count(10)", 0, x.count(10));
        due("fault()", 0, x.fault());
        due("blank() again", 0, x.blank());
        due("player() of what was there", STATE, x.player());
        SongsAgain other = amid();
        due("blank() with a player", 6, other.blank());
        dueCounts(other, 5, 2, 3, 1, 13, 3, 2, 2, 3, 3, 0, 1);
    }

    private static void faultPlace() {
        sentence(4, "The place (from 0) of the first letter of THE PAGE that no PLAYER has there, behind those ahead of"
                + " it;");
        for (int place = 0; place < SIX.length(); place++) {
            String wrongThere = SIX.substring(0, place) + "~" + SIX.substring(place + 1);
            due("fault() of " + wrongThere, place, page(wrongThere).fault());
            String wrongLater = wrongThere.substring(0, place + 1) + "~".repeat(MOST_LETTERS - place - 1);
            due("fault() of " + wrongLater, place, page(wrongLater).fault());
        }
        due("fault() of one letter behind the rule", 19, page(SIX + "3").fault());
        due("fault() of a full page", 19, page(SIX + "abc").fault());
        due("fault() of ';' behind one song", 2, page("s0;0").fault());
        due("fault() of ';' behind two", 7, page("s0,s0;0;").fault());
        due("fault() of ',' behind six", 17, page(SIX.substring(0, 17) + ",").fault());
        due("fault() of ',' behind five", 15, page(SIX.substring(0, 14) + ",").fault());
        changesNothing("fault()", () -> page(SIX + "abc"), x -> x.fault());
        changesNothing("fault()", x -> x.fault());
    }

    private static void faultNone() {
        sentence(4, "how many letters it has, if there is none.");
        for (int length = 0; length <= SIX.length(); length++) {
            due("fault() of " + SIX.substring(0, length), length, page(SIX.substring(0, length)).fault());
        }
        due("fault() of two songs", 7, page("s0,s0;0").fault());
    }

    private static void readAsThePlayer() {
        sentence(5, "THE PAGE is read as THE PLAYER");
        SongsAgain x = read(SIX);
        int[][] facts = {{0, 0}, {1, 1}, {2, 2}, {3, 3}, {4, 0}, {0, 1}};
        for (int song = 0; song < facts.length; song++) {
            due("song(" + song + ", 0)", facts[song][0], x.song(song, 0));
            due("song(" + song + ", 1)", facts[song][1], x.song(song, 1));
        }
        due("count(1)", 3, x.count(1));
        due("count(11)", 1, x.count(11));
    }

    private static void anotherIsGone() {
        sentence(5, "(another one is gone, with all that was)");
        SongsAgain x = amidSkipped();
        due("player() of another", 2, x.player());
        dueCounts(x, 2, 1, 0, 0, 0, 0, 2, 2, NONE, 0, 0, 2);
        for (int song = 0; song < 2; song++) {
            due("played", 0, x.song(song, 4));
            due("skipped", 0, x.song(song, 5));
            due("in the bag", 1, x.song(song, 6));
        }
        for (int song = 2; song < 6; song++) {
            due("song(" + song + ", 0)", UNKNOWN, x.song(song, 0));
        }
        due("song(0, 2)", 2, x.song(0, 2));
        due("skip()", STATE, x.skip());
        due("restore()", STATE, x.restore());
        due("rules()", 15, x.rules());
        due("forget()", 0, x.forget());
        type(x, SIX);
        due("player() of six again", 6, x.player());
        dueCounts(x, 6, 3, 0, 0, 0, 0, 6, 6, NONE, 0, 0, 3);
        SongsAgain same = playAndSkip(read("s0,s1;3"), 0);
        type(same, "s0,s1;3");
        due("player() of the same", 2, same.player());
        dueCounts(same, 2, 3, 0, 0, 0, 0, 2, 2, NONE, 0, 0, 2);
    }

    private static void howManySongs() {
        sentence(5, ": how many SONGS;");
        for (int songs = 2; songs <= 6; songs++) {
            SongsAgain x = page(alike(songs, 1));
            due("player()", songs, x.player());
            due("count(0)", songs, x.count(0));
        }
    }

    private static void pageIsEmptyThen() {
        sentence(5, "THE PAGE is empty then.");
        SongsAgain x = read(SIX);
        due("count(10)", 0, x.count(10));
        due("fault()", 0, x.fault());
        due("blank()", 0, x.blank());
        due("player() again", STATE, x.player());
        due("letter('s')", 1, x.letter('s'));
    }

    private static void stateItIsNone() {
        sentence(5, "STATE: it is none.");
        for (int length = 0; length < SIX.length(); length++) {
            String begun = SIX.substring(0, length);
            refused("player() of \"" + begun + "\"", STATE, () -> page(begun), x -> x.player());
        }
        due("player() of all of it", 6, page(SIX).player());
        for (String none : new String[] {SIX + "3", SIX + ";3", "x0,s0;0", "s0,s4;0", "s0,s0,;0", "s0s0;0", "s0;0",
            ";0", "s0,s0;4", "s0,s0; ", "s0,s0,s0,s0,s0,s0,s0;0"}) {
            refused("player() of \"" + none + "\"", STATE, () -> page(none), x -> x.player());
        }
        refused("player() of a letter less, with another player", STATE, Sentences::amid, x -> x.player());
        due("player() with all letters, with another player", 2, amidSkipped().player());
    }
}
