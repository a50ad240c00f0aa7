/** Each promise of ../shared/DOC.md: ordinary calls, the edges that it names, and wrong calls. */
public final class PromiseTest {
    private static final int NONE = -1, UNKNOWN = -101, OUTSIDE = -102, STATE = -103, FULL = -104;
    private static final int LEAST = Integer.MIN_VALUE, MOST = Integer.MAX_VALUE;
    private static int promise = 0;
    private static int wrong = 0;

    public static void main(String[] args) {
        newObject();
        letter();
        blank();
        fault();
        player();
        songFacts();
        songChances();
        songThatMayCome();
        as();
        rule();
        play();
        skip();
        twice();
        party();
        hear();
        forget();
        rules();
        likely();
        evenings();
        eveningsByHand();
        image();
        restore();
        count();
        digest();
        System.out.println(wrong == 0 ? "every promise holds" : wrong + " answers are not as due");
        if (wrong != 0) {
            System.exit(1);
        }
    }

    private static void due(String what, long want, long got) {
        if (got != want) {
            wrong++;
            System.out.println("promise " + promise + ": " + what + " answered " + got + ", due is " + want);
        }
    }

    private static SongsAgain page(String text) {
        SongsAgain x = new SongsAgain();
        type(x, text);
        return x;
    }

    private static void type(SongsAgain x, String text) {
        for (int i = 0; i < text.length(); i++) {
            due("letter of " + text, i + 1, x.letter(text.charAt(i)));
        }
    }

    private static SongsAgain read(String text) {
        SongsAgain x = page(text);
        due("player() of " + text, (text.length() - 1) / 3, x.player());
        return x;
    }

    private static void playAll(SongsAgain x, int... songs) {
        for (int song : songs) {
            due("play(" + song + ") is no refusal", 1, x.play(song) > 0 ? 1 : 0);
        }
    }

    private static void hearAll(SongsAgain x, int... songs) {
        x.forget();
        for (int i = 0; i < songs.length; i++) {
            due("hear(" + songs[i] + ")", i + 1, x.hear(songs[i]));
        }
    }

    private static void dueChance(SongsAgain x, int song, long above, long below) {
        due("song(" + song + ", 8)", above, x.song(song, 8));
        due("song(" + song + ", 9)", below, x.song(song, 9));
    }

    private static void dueTwice(SongsAgain x, int songs, long above, long below) {
        due("twice(" + songs + ", 0)", above, x.twice(songs, 0));
        due("twice(" + songs + ", 1)", below, x.twice(songs, 1));
    }

    private static void dueMay(SongsAgain x, String bits) {
        int number = 0;
        for (int song = 0; song < bits.length(); song++) {
            int may = bits.charAt(song) - '0';
            number += may;
            due("song(" + song + ", 7)", may, x.song(song, 7));
        }
        due("count(7)", number, x.count(7));
    }

    private static void dueCounts(SongsAgain x, int... want) {
        for (int what = 0; what < want.length; what++) {
            due("count(" + what + ")", want[what], x.count(what));
        }
    }

    private static void newObject() {
        promise = 1;
        SongsAgain x = new SongsAgain();
        dueCounts(x, 0, 0, 0, 0, 0, 0, 0, 0, NONE, 0, 0, 0);
        due("fault()", 0, x.fault());
        due("blank()", 0, x.blank());
        due("forget()", 0, x.forget());
        due("player()", STATE, x.player());
        due("song(0, 0)", UNKNOWN, x.song(0, 0));
        due("as(0, 0)", UNKNOWN, x.as(0, 0));
        due("play(0)", UNKNOWN, x.play(0));
        due("hear(0)", UNKNOWN, x.hear(0));
        due("skip()", STATE, x.skip());
        due("rule(0)", STATE, x.rule(0));
        due("rules()", STATE, x.rules());
        due("likely()", STATE, x.likely());
        due("twice(2, 0)", STATE, x.twice(2, 0));
        due("party(0, 0)", STATE, x.party(0, 0));
        due("evenings(1, 0, 0)", STATE, x.evenings(1, 0, 0));
        due("image()", STATE, x.image());
        due("restore()", STATE, x.restore());
        due("the constants", 1, SongsAgain.NONE == NONE && SongsAgain.UNKNOWN == UNKNOWN
                && SongsAgain.OUTSIDE == OUTSIDE && SongsAgain.STATE == STATE && SongsAgain.FULL == FULL ? 1 : 0);
    }

    private static void letter() {
        promise = 2;
        SongsAgain x = new SongsAgain();
        for (int code : new int[] {0, 127, -1, 128, LEAST, MOST}) {
            due("letter(" + code + ")", OUTSIDE, x.letter(code));
        }
        due("letter(1)", 1, x.letter(1));
        due("letter(126)", 2, x.letter(126));
        for (int i = 3; i <= 22; i++) {
            due("letter " + i, i, x.letter('s'));
        }
        due("letter 23", FULL, x.letter('s'));
        due("letter(0) on a full page", OUTSIDE, x.letter(0));
        due("count(10)", 22, x.count(10));
    }

    private static void blank() {
        promise = 3;
        SongsAgain x = page("s0,s");
        due("blank()", 4, x.blank());
        due("blank() again", 0, x.blank());
        due("count(10)", 0, x.count(10));
        due("fault()", 0, x.fault());
        type(x, "h0,h1;2");
        due("player()", 2, x.player());
        due("blank()", 0, x.blank());
        due("count(0)", 2, x.count(0));
    }

    private static void dueFault(String text, int place) {
        SongsAgain x = page(text);
        due("fault() of " + text, place, x.fault());
        due("count(10) of " + text, text.length(), x.count(10));
    }

    private static void fault() {
        promise = 4;
        for (String whole : new String[] {"s0,s0;0", "s0,l1,h2,n3,a0;3", "s0,s0,s0,s0,s0,s0;1"}) {
            for (int length = 0; length <= whole.length(); length++) {
                dueFault(whole.substring(0, length), length);
            }
            dueFault(whole + "0", whole.length());
            dueFault(whole + ";0", whole.length());
        }
        dueFault("x", 0);
        dueFault("S0", 0);
        dueFault("0s", 0);
        dueFault(",s0", 0);
        dueFault("s4", 1);
        dueFault("s/", 1);
        dueFault("ss", 1);
        dueFault("s0;", 2);
        dueFault("s0s", 2);
        dueFault("s0,,", 3);
        dueFault("s0,s0:", 5);
        dueFault("s0,s0;4", 6);
        dueFault("s0,s0;s", 6);
        dueFault("s0,s0;0,s0;0", 7);
        dueFault("s0,s0,s0,s0,s0,s0,", 17);
        dueFault("s0,s0,s0,s0,s0,s0,s0;0", 17);
        dueFault("s0,b0,x9", 3);
    }

    private static void player() {
        promise = 5;
        for (String none : new String[] {"", "s", "s0", "s0;0", "s0,s0", "s0,s0;", "s0,s0;00", "s0,s0;4", "s0,x0;0",
                "s0,s0,;0", "s0,s0,s0,s0,s0,s0,s0;0"}) {
            SongsAgain x = page(none);
            due("player() of " + none, STATE, x.player());
            dueCounts(x, 0, 0, 0, 0, 0, 0, 0, 0, NONE, 0, none.length(), 0);
        }
        SongsAgain x = read("s0,s1,s2,s3,l0,n1;3");
        dueCounts(x, 6, 3, 0, 0, 0, 0, 6, 6, NONE, 0, 0, 1);
        playAll(x, 0, 1, 4);
        x.skip();
        x.hear(2);
        x.image();
        type(x, "h0,h1,a2;4");
        due("player() of a wrong page", STATE, x.player());
        dueCounts(x, 6, 3, 3, 1, 13, 3, 3, 3, 4, 1, 10, 1);
        due("blank()", 10, x.blank());
        type(x, "h0,h1,a2;1");
        due("player() of another", 3, x.player());
        dueCounts(x, 3, 1, 0, 0, 0, 0, 3, 3, NONE, 0, 0, 2);
        due("skip() after another", STATE, x.skip());
        due("restore() after another", STATE, x.restore());
        for (int song = 0; song < 3; song++) {
            due("song(" + song + ", 4)", 0, x.song(song, 4));
            due("song(" + song + ", 5)", 0, x.song(song, 5));
        }
        due("song(3, 0)", UNKNOWN, x.song(3, 0));
        due("likely() after another", 0, x.likely());
    }

    private static void songFacts() {
        promise = 6;
        SongsAgain x = read("s0,l1,h2,n3,a0;0");
        int[][] facts = {{0, 0, 1, 3}, {1, 1, 1, 7}, {2, 2, 2, 3}, {3, 3, 1, 3}, {4, 0, 3, 3}};
        for (int song = 0; song < facts.length; song++) {
            for (int what = 0; what < 4; what++) {
                due("song(" + song + ", " + what + ")", facts[song][what], x.song(song, what));
            }
            due("in the bag", 1, x.song(song, 6));
        }
        for (int what : new int[] {-1, 10, LEAST, MOST}) {
            due("song(0, " + what + ")", OUTSIDE, x.song(0, what));
            due("song(5, " + what + ")", UNKNOWN, x.song(5, what));
        }
        for (int song : new int[] {-1, 5, 6, LEAST, MOST}) {
            due("song(" + song + ", 0)", UNKNOWN, x.song(song, 0));
        }
        playAll(x, 4, 4);
        due("song(4, 4)", 2, x.song(4, 4));
        due("song(4, 5)", 0, x.song(4, 5));
        due("song(4, 6) by rule 0", 0, x.song(4, 6));
        due("song(4, 7) by rule 0", 1, x.song(4, 7));
        for (int weight = 2; weight >= -2; weight--) {
            due("skip()", Math.max(0, weight), x.skip());
            due("song(4, 2)", Math.max(0, weight), x.song(4, 2));
            due("song(4, 5)", 3 - weight, x.song(4, 5));
            playAll(x, 4);
        }
        due("song(0, 2)", 1, x.song(0, 2));
    }

    private static void songChances() {
        promise = 6;
        SongsAgain x = read("h0,a1,s0,l1,n2;3");
        dueChance(x, 0, 1, 4);
        dueChance(x, 1, 3, 8);
        dueChance(x, 4, 1, 8);
        playAll(x, 1);
        dueChance(x, 0, 1, 2);
        dueChance(x, 1, 0, 1);
        dueChance(x, 2, 1, 4);
        dueChance(x, 3, 0, 1);
        x.rule(0);
        x.skip();
        playAll(x, 1);
        x.skip();
        dueChance(x, 1, 1, 6);
        playAll(x, 1);
        x.skip();
        dueChance(x, 1, 0, 1);
        due("a song of no weight may come", 1, x.song(1, 7));
        SongsAgain light = read("s0,s1,h2;0");
        playAll(light, 0);
        light.skip();
        playAll(light, 1);
        light.skip();
        dueChance(light, 2, 1, 1);
        dueChance(light, 0, 0, 1);
        playAll(light, 2);
        light.skip();
        playAll(light, 2);
        light.skip();
        for (int song = 0; song < 3; song++) {
            dueChance(light, song, 1, 3);
        }
    }

    private static void songThatMayCome() {
        promise = 6;
        SongsAgain any = read("s0,s0,n0,s1;0");
        playAll(any, 0);
        dueMay(any, "1111");
        SongsAgain unlike = read("s0,s0,n0,s1;1");
        dueMay(unlike, "1111");
        playAll(unlike, 0);
        dueMay(unlike, "0011");
        playAll(unlike, 2);
        dueMay(unlike, "0011");
        playAll(unlike, 3);
        dueMay(unlike, "1110");
        SongsAgain bag = read("s0,s0,n0,s1;2");
        playAll(bag, 0);
        dueMay(bag, "0111");
        playAll(bag, 3, 1);
        dueMay(bag, "0010");
        playAll(bag, 2);
        dueMay(bag, "1111");
        SongsAgain both = read("s0,s0,n0,s1;3");
        playAll(both, 0);
        dueMay(both, "0011");
        playAll(both, 3);
        dueMay(both, "0110");
        playAll(both, 2);
        dueMay(both, "0100");
        playAll(both, 1);
        dueMay(both, "0011");
        SongsAgain one = read("s2,h2;1");
        playAll(one, 0);
        dueMay(one, "11");
    }

    private static void as() {
        promise = 7;
        SongsAgain x = read("s0,l0,h0,n0,a0;0");
        String[] kinds = {"10000", "11000", "10100", "10010", "10101"};
        for (int song = 0; song < 5; song++) {
            for (int kind = 0; kind < 5; kind++) {
                int want = kinds[song].charAt(kind) == '1' ? song : NONE;
                due("as(" + song + ", " + kind + ")", want, x.as(song, kind));
            }
        }
        for (int wrongOne : new int[] {-1, 5, LEAST, MOST}) {
            due("as(0, " + wrongOne + ")", OUTSIDE, x.as(0, wrongOne));
            due("as(" + wrongOne + ", 0)", UNKNOWN, x.as(wrongOne, 0));
            due("as of both wrong", UNKNOWN, x.as(wrongOne, wrongOne));
        }
    }

    private static void rule() {
        promise = 8;
        SongsAgain x = read("s0,s1,s2;2");
        playAll(x, 1);
        due("rule(3)", 2, x.rule(3));
        due("rule(0)", 3, x.rule(0));
        due("count(1)", 0, x.count(1));
        due("the bag stays", 2, x.count(6));
        dueMay(x, "111");
        due("rule(2)", 0, x.rule(2));
        dueMay(x, "101");
        for (int wrongOne : new int[] {-1, 4, LEAST, MOST}) {
            due("rule(" + wrongOne + ")", OUTSIDE, x.rule(wrongOne));
            due("rule(" + wrongOne + ") of no player", OUTSIDE, new SongsAgain().rule(wrongOne));
        }
        due("count(1)", 2, x.count(1));
        due("rule(3) of no player", STATE, new SongsAgain().rule(3));
    }

    private static void play() {
        promise = 9;
        SongsAgain x = read("s0,s1,s0;3");
        due("play(0)", 2, x.play(0));
        due("play(0) again", STATE, x.play(0));
        due("play(2) of one singer", STATE, x.play(2));
        due("count(2) is as before", 1, x.count(2));
        due("play(1)", 1, x.play(1));
        due("play(2), the last in the bag", 3, x.play(2));
        due("play(2), in the bag again, but of one singer", STATE, x.play(2));
        due("play(1)", 2, x.play(1));
        for (int wrongOne : new int[] {-1, 3, 6, LEAST, MOST}) {
            due("play(" + wrongOne + ")", UNKNOWN, x.play(wrongOne));
        }
        due("count(2)", 4, x.count(2));
        SongsAgain any = read("s0,s0;0");
        due("play(1) by rule 0", 1, any.play(1));
        due("play(1) by rule 0 again", 1, any.play(1));
        due("play(0) empties the bag", 2, any.play(0));
        any.skip();
        due("play(0), which weighs nothing", 1, any.play(0));
    }

    private static void skip() {
        promise = 10;
        SongsAgain x = read("a0,s1;0");
        due("skip() of nothing", STATE, x.skip());
        playAll(x, 0);
        due("skip()", 2, x.skip());
        due("skip() again", STATE, x.skip());
        due("song(0, 5)", 1, x.song(0, 5));
        playAll(x, 1);
        due("skip() of another", 0, x.skip());
        playAll(x, 0);
        due("skip() once more", 1, x.skip());
        playAll(x, 1);
        due("skip() below nothing", 0, x.skip());
        due("song(1, 5)", 2, x.song(1, 5));
        due("count(3)", 4, x.count(3));
        due("count(8)", 1, x.count(8));
    }

    private static void twice() {
        promise = 11;
        dueTwice(read("s0,s0,s1;0"), 2, 1, 3);
        dueTwice(read("s0,s0,s1;0"), 3, 7, 9);
        dueTwice(read("s0,s1,s2;2"), 3, 0, 1);
        dueTwice(read("s0,h1;0"), 2, 5, 9);
        dueTwice(read("s0,h1;0"), 3, 1, 1);
        dueTwice(read("s0,h1;1"), 2, 0, 1);
        dueTwice(read("n0,s1;1"), 2, 1, 4);
        SongsAgain bag = read("s0,s1,s2;2");
        playAll(bag, 2);
        dueTwice(bag, 2, 0, 1);
        dueTwice(bag, 3, 2, 3);
        playAll(bag, 1);
        dueTwice(bag, 2, 1, 3);
        SongsAgain skipped = read("s0,s1,h2;0");
        playAll(skipped, 0);
        skipped.skip();
        dueTwice(skipped, 2, 5, 9);
        dueTwice(skipped, 3, 1, 1);
        int[][] wrongOnes = {{1, 0}, {4, 0}, {LEAST, 0}, {MOST, 1}, {2, -1}, {3, 2}, {2, MOST}, {0, 5}};
        for (int[] wrongOne : wrongOnes) {
            due("twice of a wrong one", OUTSIDE, bag.twice(wrongOne[0], wrongOne[1]));
            due("twice of a wrong one, no player", OUTSIDE, new SongsAgain().twice(wrongOne[0], wrongOne[1]));
        }
        due("twice(3, 1) of no player", STATE, new SongsAgain().twice(3, 1));
    }

    private static void dueParty(SongsAgain x, int songs, int number, int... first) {
        due("party(" + songs + ", 0)", number, x.party(songs, 0));
        for (int place = 0; place < 6; place++) {
            int want = place < first.length ? first[place] : NONE;
            due("party(" + songs + ", " + (10 + place) + ")", want, x.party(songs, 10 + place));
        }
    }

    private static void party() {
        promise = 12;
        SongsAgain x = read("s0,s0,s1,n0;2");
        dueParty(x, 0, 1);
        dueParty(x, 8, 1, 3);
        dueParty(x, 3, 0);
        dueParty(x, 9, 0);
        dueParty(x, 5, 2, 0, 2);
        dueParty(x, 7, 2, 0, 2, 1);
        dueParty(x, 15, 0);
        SongsAgain all = read("s0,s1,s2,s3,s0,s1;0");
        playAll(all, 0);
        dueParty(all, 15, 24, 0, 1, 2, 3);
        // 720 orders less 240 and 240 with the two of 0, of 1 together, and 96 with both counted twice
        dueParty(all, 63, 336, 0, 1, 2, 3, 4, 5);
        dueParty(all, 49, 2, 0, 5, 4);
        for (int wrongOne : new int[] {-1, 16, 64, LEAST, MOST}) {
            due("party(" + wrongOne + ", 0)", OUTSIDE, x.party(wrongOne, 0));
        }
        for (int wrongOne : new int[] {-1, 1, 9, 16, LEAST, MOST}) {
            due("party(1, " + wrongOne + ")", OUTSIDE, x.party(1, wrongOne));
            due("party(0, " + wrongOne + ") of no player", OUTSIDE, new SongsAgain().party(0, wrongOne));
        }
        due("party(1, 0) of no player", OUTSIDE, new SongsAgain().party(1, 0));
        due("party(0, 15) of no player", STATE, new SongsAgain().party(0, 15));
    }

    private static void hear() {
        promise = 13;
        SongsAgain x = read("s0,s0;0");
        for (int wrongOne : new int[] {-1, 2, 6, LEAST, MOST}) {
            due("hear(" + wrongOne + ")", UNKNOWN, x.hear(wrongOne));
        }
        for (int i = 1; i <= 8; i++) {
            due("hear(" + i % 2 + ")", i, x.hear(i % 2));
        }
        due("hear of a ninth", FULL, x.hear(0));
        due("hear(2) when full", UNKNOWN, x.hear(2));
        due("count(9)", 8, x.count(9));
        due("count(2), nothing is played", 0, x.count(2));
    }

    private static void forget() {
        promise = 14;
        SongsAgain x = read("s0,s1;0");
        due("forget() of nothing", 0, x.forget());
        hearAll(x, 0, 0, 1);
        due("forget()", 3, x.forget());
        due("count(9)", 0, x.count(9));
        due("rules()", 15, x.rules());
        due("hear(0)", 1, x.hear(0));
    }

    private static void rules() {
        promise = 15;
        SongsAgain x = read("s0,s0,s1,n0;0");
        due("rules() of nothing", 15, x.rules());
        hearAll(x, 0, 2);
        due("rules() of 0 2", 15, x.rules());
        hearAll(x, 0, 3);
        due("rules() of 0 3, a nursery one", 15, x.rules());
        hearAll(x, 0, 1);
        due("rules() of 0 1, of one singer", 5, x.rules());
        hearAll(x, 0, 2, 0);
        due("rules() of 0 2 0, not from a bag", 3, x.rules());
        hearAll(x, 0, 0);
        due("rules() of 0 0", 1, x.rules());
        hearAll(x, 3, 2, 0, 1, 2);
        due("rules() of 3 2 0 1 2: only 1 is left in the bag", 13, x.rules());
        hearAll(x, 3, 2, 0, 1, 3, 2);
        due("rules() of a bag that is full again", 13, x.rules());
        playAll(x, 0, 0);
        x.skip();
        due("rules() whatever is played, skipped", 13, x.rules());
        SongsAgain one = read("s0,s0;3");
        hearAll(one, 0, 0);
        due("rules() of 0 0, all of one singer", 3, one.rules());
        due("rules() of no player", STATE, new SongsAgain().rules());
    }

    private static void likely() {
        promise = 16;
        SongsAgain x = read("s0,s0,s1,n0;3");
        due("likely() of nothing", 0, x.likely());
        hearAll(x, 0);
        due("likely() of one", 0, x.likely());
        hearAll(x, 0, 2);
        due("likely() of 0 2: 1/4, 1/2, 1/3, 1/2", 1, x.likely());
        hearAll(x, 0, 1);
        due("likely() of 0 1: 1/4, none, 1/3, none", 2, x.likely());
        hearAll(x, 0, 2, 1);
        due("likely() of 0 2 1: by rule 3 2 may come", 3, x.likely());
        hearAll(x, 0, 0);
        due("likely() of 0 0", 0, x.likely());
        SongsAgain weighed = read("a0,s0,s1,h1;0");
        hearAll(weighed, 0, 3);
        due("likely() of 0 3: 2/7, 2/3, 2/4, 2/3", 1, weighed.likely());
        playAll(weighed, 3);
        weighed.skip();
        due("likely() whatever is skipped", 1, weighed.likely());
        hearAll(weighed, 0, 3, 0);
        due("likely() of 0 3 0, not from a bag", 1, weighed.likely());
        due("likely() of no player", STATE, new SongsAgain().likely());
    }

    private static void evenings() {
        promise = 17;
        SongsAgain x = read("s0,l1;2");
        due("unlike ones of 1", 1, x.evenings(1, 7, 0));
        due("unlike ones of 2 from a bag", 2, x.evenings(2, 7, 0));
        due("minutes of 2 from a bag", 10, x.evenings(2, 7, 1));
        due("minutes of 60 from a bag", 300, x.evenings(60, 7, 1));
        due("the seed after 1 draw", 12345, x.evenings(1, 0, 2));
        due("the seed after 1 draw", 1103527590, x.evenings(1, 1, 2));
        due("the seed after 1 draw", 1043980748, x.evenings(1, MOST, 2));
        due("nothing is played", 0, x.count(2));
        SongsAgain turns = read("s0,l1;1");
        for (int seed = 0; seed < 20; seed++) {
            due("minutes of 2 by turns, seed " + seed, 10, turns.evenings(2, seed, 1));
            due("unlike ones of 2 by turns, seed " + seed, 2, turns.evenings(2, seed, 0));
            due("unlike ones of 1, seed " + seed, 1, turns.evenings(1, seed, 0));
        }
        int[][] wrongOnes = {{0, 1, 0}, {61, 1, 0}, {LEAST, 1, 0}, {MOST, 1, 0}, {1, -1, 0}, {1, LEAST, 0},
            {1, 1, -1}, {1, 1, 3}, {1, 1, MOST}};
        for (int[] wrongOne : wrongOnes) {
            due("evenings of a wrong one", OUTSIDE, x.evenings(wrongOne[0], wrongOne[1], wrongOne[2]));
            due("evenings of a wrong one, no player", OUTSIDE,
                    new SongsAgain().evenings(wrongOne[0], wrongOne[1], wrongOne[2]));
        }
        due("evenings of no player", STATE, new SongsAgain().evenings(60, MOST, 2));
        playAll(x, 0);
        due("1 from a bag with the long one left", 7, x.evenings(1, 7, 1));
        due("3 from a bag with the long one left", 17, x.evenings(3, 7, 1));
    }

    /** Every share is told from its neighbours by the minutes: of h0,l1 two draws of three are of the first. */
    private static void eveningsByHand() {
        promise = 17;
        SongsAgain x = read("h0,l1;0");
        SongsAgain weightless = read("s0,l1;0");
        playAll(weightless, 0);
        weightless.skip();
        playAll(weightless, 1);
        weightless.skip();
        for (int seed = 0; seed < 12; seed++) {
            long next = (1103515245L * seed + 12345L) % 2147483648L;
            due("evenings(1, " + seed + ", 1)", next / 65536L % 3L < 2L ? 3 : 7, x.evenings(1, seed, 1));
            due("evenings(1, " + seed + ", 1), all weigh 0", next / 65536L % 2L < 1L ? 3 : 7,
                    weightless.evenings(1, seed, 1));
        }
    }

    private static void image() {
        promise = 18;
        due("image() of no player", STATE, new SongsAgain().image());
        SongsAgain x = read("s0,s1;0");
        due("image()", 0, x.image());
        playAll(x, 0, 1, 1);
        due("restore()", 0, x.restore());
        playAll(x, 0, 1, 1);
        due("image() of later", 3, x.image());
        playAll(x, 0);
        due("restore() is of the latest", 3, x.restore());
    }

    private static void restore() {
        promise = 19;
        due("restore() of no player", STATE, new SongsAgain().restore());
        SongsAgain x = read("a0,h1,n2;3");
        due("restore() of none", STATE, x.restore());
        playAll(x, 0);
        x.skip();
        playAll(x, 1);
        hearAll(x, 2, 1);
        x.image();
        long before = x.digest();
        x.skip();
        playAll(x, 2, 0);
        x.skip();
        x.rule(0);
        hearAll(x, 0, 0, 0);
        due("restore()", 2, x.restore());
        due("digest()", before, x.digest());
        due("skip() of what was not skipped then", 1, x.skip());
        x.image();
        playAll(x, 2);
        due("restore()", 2, x.restore());
        due("skip() of what was skipped then", STATE, x.skip());
        due("restore() again", 2, x.restore());
        x.letter('s');
        x.restore();
        due("the page is as it was", 1, x.count(10));
        x.blank();
        type(x, "s0,s0;");
        due("player() of none", STATE, x.player());
        due("restore() with no other player since", 2, x.restore());
        x.letter('0');
        x.player();
        due("restore() with another player since", STATE, x.restore());
    }

    private static void count() {
        promise = 20;
        SongsAgain x = read("l0,s1,s2,h0;1");
        dueCounts(x, 4, 1, 0, 0, 0, 0, 4, 4, NONE, 0, 0, 1);
        playAll(x, 0, 1, 0);
        x.skip();
        x.hear(3);
        x.letter('s');
        dueCounts(x, 4, 1, 3, 1, 17, 2, 2, 2, 0, 1, 1, 1);
        for (int wrongOne : new int[] {-1, 12, LEAST, MOST}) {
            due("count(" + wrongOne + ")", OUTSIDE, x.count(wrongOne));
        }
    }

    /** The digest as the document tells it, from what the other calls answer. */
    private static long digestOf(SongsAgain x, String page) {
        long h = 997L;
        for (int song = 0; song < x.count(0); song++) {
            for (int what = 0; what <= 9; what++) {
                h = 31L * h + x.song(song, what);
            }
        }
        if (x.count(0) > 0) {
            int all = (1 << x.count(0)) - 1;
            h = 31L * h + x.twice(2, 0);
            h = 31L * h + x.twice(2, 1);
            h = 31L * h + x.party(all, 0);
            for (int what = 10; what <= 15; what++) {
                h = 31L * h + x.party(all, what);
            }
            h = 31L * h + x.rules();
            h = 31L * h + x.likely();
        }
        for (int i = 0; i < page.length(); i++) {
            h = 31L * h + page.charAt(i);
        }
        for (int what = 0; what <= 11; what++) {
            h = 31L * h + x.count(what);
        }
        return h;
    }

    private static void digest() {
        promise = 21;
        due("digest() of no player", digestOf(new SongsAgain(), ""), new SongsAgain().digest());
        due("digest() of a page", digestOf(page("s0,x"), "s0,x"), page("s0,x").digest());
        for (String text : new String[] {"a0,h1,n2,l0,s3;3", "a0,h1,n2,l0,s3;0", "s0,n0;1", "h3,a3,h2;2"}) {
            // of another object, so that what one call reckons can't help the other
            due("digest() of " + text, digestOf(read(text), ""), read(text).digest());
        }
        SongsAgain x = read("a0,h1,n2,l0,s3;3");
        playAll(x, 0);
        x.skip();
        playAll(x, 1);
        hearAll(x, 0, 3);
        type(x, "h0,");
        due("digest() later", digestOf(x, "h0,"), x.digest());
        due("digest() changes nothing", x.digest(), x.digest());
    }
}
