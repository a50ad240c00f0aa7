/** Kinds, weights, minutes, what may come next and its chance; promises 6 to 10. */
final class SongSentences extends Sentences {
    private static final String FIVE = "s0,l1,h2,n3,a0;0";

    private SongSentences() {
    }

    static void all() {
        allAreSongs();
        weighs();
        lessForSkips();
        minutes();
        ruleAny();
        ruleBag();
        bagAtFirst();
        bagTakenOut();
        bagEmpty();
        ruleSinger();
        ruleSingerOfThose();
        nurseryMay();
        noneSuch();
        asLikelyAsItWeighs();
        allWeighNothing();
        chance();
        songKind();
        songSinger();
        songWeighs();
        songMinutes();
        songPlayed();
        songSkipped();
        songInBag();
        songMay();
        songChance();
        songRefusals();
        asKind();
        asNone();
        asRefusals();
        anotherRule();
        ruleLeavesBag();
        ruleOutside();
        ruleState();
        played();
        playUnknown();
        playState();
        skipped();
        skipNothingPlayed();
        skipAlready();
    }

    private static void allAreSongs() {
        sentence(0, "All are SONGS; an ANTHEM is a HIT, too.");
        SongsAgain x = read(FIVE);
        for (int song = 0; song < 5; song++) {
            due("as(" + song + ", 0)", song, x.as(song, 0));
        }
        due("as(4, 2), an anthem as a hit", 4, x.as(4, 2));
        due("as(2, 4), a hit as an anthem", NONE, x.as(2, 4));
        due("as(0, 2), a song as a hit", NONE, x.as(0, 2));
        due("as(1, 2), a long one as a hit", NONE, x.as(1, 2));
        due("as(3, 2), a nursery one as a hit", NONE, x.as(3, 2));
    }

    private static void weighs() {
        sentence(0, "A SONG WEIGHS 1, a HIT 2, an ANTHEM 3, others 1;");
        SongsAgain x = read(FIVE);
        int[] weights = {1, 1, 2, 1, 3};
        for (int song = 0; song < weights.length; song++) {
            due("song(" + song + ", 2)", weights[song], x.song(song, 2));
        }
        dueChances(x, 8, weights);
    }

    private static void lessForSkips() {
        sentence(0, "less 1 for each time it was SKIPPED (0 at least).");
        int[] weights = {1, 1, 2, 1, 3};
        for (int song = 0; song < weights.length; song++) {
            SongsAgain x = read(FIVE);
            for (int skips = 1; skips <= 5; skips++) {
                playAll(x, song);
                int want = Math.max(0, weights[song] - skips);
                due("skip() " + skips + " of " + song, want, x.skip());
                due("song(" + song + ", 2)", want, x.song(song, 2));
            }
            for (int other = 0; other < weights.length; other++) {
                due("song(" + other + ", 2)", other == song ? 0 : weights[other], x.song(other, 2));
            }
        }
        SongsAgain unskipped = playAll(read(FIVE), 4, 4, 4);
        due("song(4, 2), played but not skipped", 3, unskipped.song(4, 2));
    }

    private static void minutes() {
        sentence(0, "A SONG lasts 3 MINUTES, a LONG one 7, others 3.");
        SongsAgain x = read(FIVE);
        int[] minutes = {3, 7, 3, 3, 3};
        for (int song = 0; song < minutes.length; song++) {
            due("song(" + song + ", 3)", minutes[song], x.song(song, 3));
        }
    }

    private static void ruleAny() {
        sentence(0, "What MAY come next: by RULE 0 any;");
        SongsAgain x = read("s0,s0,s1;0");
        dueMay(x, "111");
        playAll(x, 0);
        dueMay(x, "111");
        playAll(x, 0, 1);
        dueMay(x, "111");
        x.rule(1);
        dueMay(x, "001");
    }

    private static void ruleBag() {
        sentence(0, "by RULE 2, 3 only what is in the BAG");
        SongsAgain x = playAll(read("s0,s1,s2;2"), 0);
        dueMay(x, "011");
        due("play(0) by rule 2, out of the bag", STATE, x.play(0));
        playAll(x, 1);
        dueMay(x, "001");
        x.rule(3);
        dueMay(x, "001");
        due("play(0) by rule 3, out of the bag", STATE, x.play(0));
        x.rule(0);
        dueMay(x, "111");
        x.rule(1);
        dueMay(x, "101");
    }

    private static void bagAtFirst() {
        sentence(0, "(all at first;");
        for (int songs = 2; songs <= 6; songs++) {
            for (int rule = 0; rule < 4; rule++) {
                SongsAgain x = read(alike(songs, rule));
                dueBag(x, "1".repeat(songs));
                dueMay(x, "1".repeat(songs));
            }
        }
    }

    private static void bagTakenOut() {
        sentence(0, "what is played is taken out;");
        for (int rule = 0; rule < 4; rule++) {
            SongsAgain x = playAll(read("s0,s1,s2,s3;" + rule), 2);
            dueBag(x, "1101");
            playAll(x, 0);
            dueBag(x, "0101");
            x.skip();
            dueBag(x, "0101");
        }
        SongsAgain again = playAll(read("s0,s1,s2,s3;0"), 2, 2);
        dueBag(again, "1101");
        playAll(again, 2);
        dueBag(again, "1101");
        SongsAgain heard = hearAll(read("s0,s1;2"), 0, 1);
        dueBag(heard, "11");
    }

    private static void bagEmpty() {
        sentence(0, "when it is empty, all are in it again);");
        for (int rule = 0; rule < 4; rule++) {
            for (int songs = 2; songs <= 6; songs++) {
                SongsAgain x = read("s0,s1,s2,s3,s1,s2".substring(0, 3 * songs - 1) + ";" + rule);
                for (int song = 0; song < songs - 1; song++) {
                    due("play(" + song + ")", songs - 1 - song, x.play(song));
                    due("song(" + song + ", 6)", 0, x.song(song, 6));
                }
                due("play() of the last in the bag", songs, x.play(songs - 1));
                dueBag(x, "1".repeat(songs));
                due("play(0) of the bag that is full again", songs - 1, x.play(0));
            }
        }
    }

    private static void ruleSinger() {
        sentence(0, "by RULE 1, 3 (of those that else MAY) none of the SINGER of the SONG that was played last,");
        for (int rule = 0; rule < 4; rule++) {
            SongsAgain x = read("s0,l0,h1,a1,s3,s3;" + rule);
            dueMay(x, "111111");
            playAll(x, 0);
            dueMay(x, rule == 0 ? "111111" : rule == 1 ? "001111" : rule == 2 ? "011111" : "001111");
            playAll(x, 2);
            dueMay(x, rule == 0 ? "111111" : rule == 1 ? "110011" : rule == 2 ? "010111" : "010011");
            due("play(3) of one singer", rule % 2 == 1 ? STATE : 3, x.play(3));
        }
        SongsAgain before = playAll(read("s0,s1,s0;1"), 0, 1);
        dueMay(before, "101");
    }

    private static void ruleSingerOfThose() {
        sentence(0, "(of those that else MAY)");
        SongsAgain x = playAll(read("s0,s1,s0,s1;3"), 0);
        dueMay(x, "0101");
        playAll(x, 1);
        dueMay(x, "0010");
        x.rule(1);
        dueMay(x, "1010");
    }

    private static void nurseryMay() {
        sentence(0, "but a NURSERY one may;");
        SongsAgain x = playAll(read("s0,n0,s0,s1,n0;1"), 0);
        dueMay(x, "01011");
        playAll(x, 1);
        dueMay(x, "01011");
        playAll(x, 1, 4);
        due("play(0) of the nursery one's singer", STATE, x.play(0));
        SongsAgain bag = playAll(read("s0,n0,s0,s1,n0;3"), 1);
        dueMay(bag, "00011");
        playAll(bag, 4);
        dueMay(bag, "00010");
        for (char kind : "slha".toCharArray()) {
            SongsAgain other = playAll(read("s0," + kind + "0,s1;1"), 0);
            dueMay(other, "001");
        }
    }

    private static void noneSuch() {
        sentence(0, "if there is none such, all that else MAY.");
        for (int songs = 2; songs <= 6; songs++) {
            SongsAgain x = playAll(read(alike(songs, 1)), 0);
            dueMay(x, "1".repeat(songs));
            SongsAgain bag = playAll(read(alike(songs, 3)), 0);
            dueMay(bag, "0" + "1".repeat(songs - 1));
        }
        SongsAgain one = playAll(read("s0,s0,s0,s1;3"), 0);
        dueMay(one, "0001");
        playAll(one, 3, 1);
        dueMay(one, "0010");
        SongsAgain nursery = playAll(read("s0,s0,n0;1"), 0);
        dueMay(nursery, "001");
        SongsAgain taken = playAll(read("s0,s0,s0,n0;3"), 3);
        dueMay(taken, "1110");
    }

    private static void asLikelyAsItWeighs() {
        sentence(0, "Of those that MAY come each is as likely as it WEIGHS;");
        SongsAgain x = read("s0,l0,h1,n1,a2,a3;3");
        dueChances(x, 11, 1, 1, 2, 1, 3, 3);
        playAll(x, 0);
        dueChances(x, 9, 0, 0, 2, 1, 3, 3);
        playAll(x, 5);
        dueChances(x, 7, 0, 1, 2, 1, 3, 0);
        x.skip();
        x.rule(0);
        dueChances(x, 10, 1, 1, 2, 1, 3, 2);
    }

    private static void allWeighNothing() {
        sentence(0, "if all of these WEIGH 0, each as likely as the others.");
        SongsAgain x = playAndSkip(read("s0,s1,l2;0"), 0, 1);
        dueChances(x, 1, 0, 0, 1);
        playAndSkip(x, 2);
        dueChances(x, 3, 1, 1, 1);
        playAndSkip(x, 2, 2);
        dueChances(x, 3, 1, 1, 1);
        SongsAgain some = playAndSkip(read("a0,s1,s1,s0;1"), 1, 3, 2, 0);
        // of singer 1 alone may come, and these weigh nothing, while song 0 still does
        due("song(0, 2)", 2, some.song(0, 2));
        dueChances(some, 2, 0, 1, 1, 0);
        some.rule(0);
        dueChances(some, 1, 1, 0, 0, 0);
    }

    private static void chance() {
        sentence(0, "So it has a CHANCE.");
        SongsAgain x = read("h0,s1,s2;0");
        dueChances(x, 4, 2, 1, 1);
        x.rule(2);
        playAll(x, 0);
        dueChances(x, 2, 0, 1, 1);
    }

    private static void songKind() {
        sentence(6, "Of a SONG: what = 0 KIND,");
        SongsAgain x = read("a0,n0,h0,l0,s0,a0;0");
        int[] kinds = {4, 3, 2, 1, 0, 4};
        for (int song = 0; song < kinds.length; song++) {
            due("song(" + song + ", 0)", kinds[song], x.song(song, 0));
        }
    }

    private static void songSinger() {
        sentence(6, "1 SINGER,");
        SongsAgain x = read("a3,n2,h1,l0,s3,a0;0");
        int[] singers = {3, 2, 1, 0, 3, 0};
        for (int song = 0; song < singers.length; song++) {
            due("song(" + song + ", 1)", singers[song], x.song(song, 1));
        }
    }

    private static void songWeighs() {
        sentence(6, "2 what it WEIGHS,");
        SongsAgain x = playAndSkip(read("a0,h1;0"), 0, 0);
        due("song(0, 2)", 1, x.song(0, 2));
        due("song(1, 2)", 2, x.song(1, 2));
        playAndSkip(x, 0, 0, 1);
        due("song(0, 2)", 0, x.song(0, 2));
        due("song(1, 2)", 1, x.song(1, 2));
    }

    private static void songMinutes() {
        sentence(6, "3 how many MINUTES it lasts,");
        SongsAgain x = read("l0,s1;0");
        due("song(0, 3)", 7, x.song(0, 3));
        due("song(1, 3)", 3, x.song(1, 3));
        playAndSkip(x, 0);
        due("song(0, 3), played and skipped", 7, x.song(0, 3));
    }

    private static void songPlayed() {
        sentence(6, "4 how often it was played,");
        SongsAgain x = read("s0,s1;0");
        due("song(0, 4)", 0, x.song(0, 4));
        playAndSkip(x, 0);
        playAll(x, 0, 0);
        due("song(0, 4)", 3, x.song(0, 4));
        due("song(1, 4)", 0, x.song(1, 4));
        hearAll(x, 1, 1);
        due("song(1, 4), only heard", 0, x.song(1, 4));
    }

    private static void songSkipped() {
        sentence(6, "5 how often SKIPPED,");
        SongsAgain x = read("s0,s1;0");
        due("song(0, 5)", 0, x.song(0, 5));
        playAll(x, 0);
        due("song(0, 5), played but not skipped", 0, x.song(0, 5));
        playAndSkip(x, 0, 1, 0, 0);
        due("song(0, 5), more often than it weighed", 3, x.song(0, 5));
        due("song(1, 5)", 1, x.song(1, 5));
    }

    private static void songInBag() {
        sentence(6, "6 whether it is in the BAG (1, 0; also if the RULE does not ask for it),");
        for (int rule = 0; rule < 4; rule++) {
            SongsAgain x = read("s0,s1,s2;" + rule);
            dueBag(x, "111");
            playAll(x, 1);
            dueBag(x, "101");
            playAll(x, 0);
            dueBag(x, "001");
            playAll(x, 2);
            dueBag(x, "111");
        }
    }

    private static void songMay() {
        sentence(6, "7 whether it MAY come next (1, 0),");
        SongsAgain x = read("s0,s1,s0;1");
        dueMay(x, "111");
        playAll(x, 0);
        dueMay(x, "010");
        playAll(x, 1);
        x.rule(0);
        x.skip();
        dueMay(x, "111");
        due("song(1, 8), that weighs 0 but may come", 0, x.song(1, 8));
        due("play(1)", 1, x.play(1) > 0 ? 1 : 0);
    }

    private static void songChance() {
        sentence(6, "8, 9 its CHANCE, above and below, in lowest terms (0 of 1).");
        SongsAgain x = read("a0,h1,s2;2");
        dueChance(x, 0, 1, 2);
        dueChance(x, 1, 1, 3);
        dueChance(x, 2, 1, 6);
        playAll(x, 0);
        dueChance(x, 0, 0, 1);
        dueChance(x, 1, 2, 3);
        dueChance(x, 2, 1, 3);
        playAll(x, 1);
        dueChance(x, 1, 0, 1);
        dueChance(x, 2, 1, 1);
        SongsAgain weightless = playAndSkip(read("s0,h1,h2;0"), 0);
        dueChance(weightless, 0, 0, 1);
        dueChance(weightless, 1, 1, 2);
    }

    private static void songRefusals() {
        sentence(6, "UNKNOWN; OUTSIDE.");
        SongsAgain x = amid();
        due("song(0, 0)", 4, x.song(0, 0));
        due("song(4, 0)", 0, x.song(4, 0));
        due("song(0, 9) is no refusal", 1, x.song(0, 9) > 0 ? 1 : 0);
        for (int song : new int[] {-1, 5, 6, 7, LEAST, MOST}) {
            refused("song(" + song + ", 0)", UNKNOWN, y -> y.song(song, 0));
            refused("song(" + song + ", 10)", UNKNOWN, y -> y.song(song, 10));
            refused("song(" + song + ", -1)", UNKNOWN, Sentences::unread, y -> y.song(song, -1));
        }
        for (int what : new int[] {-1, 10, LEAST, MOST}) {
            refused("song(0, " + what + ")", OUTSIDE, y -> y.song(0, what));
            refused("song(4, " + what + ")", OUTSIDE, y -> y.song(4, what));
        }
        for (int what = 0; what < 10; what++) {
            int told = what;
            changesNothing("song(1, " + what + ")", y -> y.song(1, told));
        }
    }

    private static void asKind() {
        sentence(7, "A SONG taken as a KIND: its number;");
        SongsAgain x = read("a0,n1,h2,l3,s0,a1;0");
        int[] kinds = {4, 3, 2, 1, 0, 4};
        for (int song = 0; song < kinds.length; song++) {
            due("as(" + song + ", " + kinds[song] + ")", song, x.as(song, kinds[song]));
            due("as(" + song + ", 0)", song, x.as(song, 0));
        }
        due("as(0, 2)", 0, x.as(0, 2));
        due("as(5, 2)", 5, x.as(5, 2));
        changesNothing("as(0, 4)", y -> y.as(0, 4));
    }

    private static void asNone() {
        sentence(7, "NONE: it is none such (the cast fails).");
        SongsAgain x = read(FIVE);
        String[] kinds = {"10000", "11000", "10100", "10010", "10101"};
        for (int song = 0; song < 5; song++) {
            for (int kind = 0; kind < 5; kind++) {
                int want = kinds[song].charAt(kind) == '1' ? song : NONE;
                due("as(" + song + ", " + kind + ")", want, x.as(song, kind));
            }
        }
        changesNothing("as(4, 4)", y -> y.as(4, 4));
    }

    private static void asRefusals() {
        sentence(7, "UNKNOWN; OUTSIDE.");
        SongsAgain x = amid();
        due("as(4, 0)", 4, x.as(4, 0));
        due("as(4, 4)", NONE, x.as(4, 4));
        for (int song : new int[] {-1, 5, 6, LEAST, MOST}) {
            refused("as(" + song + ", 0)", UNKNOWN, y -> y.as(song, 0));
            refused("as(" + song + ", 5)", UNKNOWN, y -> y.as(song, 5));
            refused("as(" + song + ", 4)", UNKNOWN, Sentences::unread, y -> y.as(song, 4));
        }
        for (int kind : new int[] {-1, 5, LEAST, MOST}) {
            refused("as(0, " + kind + ")", OUTSIDE, y -> y.as(0, kind));
        }
    }

    private static void anotherRule() {
        sentence(8, "Another RULE: which it was");
        SongsAgain x = read("s0,s1,s2;2");
        due("rule(3)", 2, x.rule(3));
        due("rule(0)", 3, x.rule(0));
        due("rule(1)", 0, x.rule(1));
        due("rule(1) again", 1, x.rule(1));
        due("count(1)", 1, x.count(1));
    }

    private static void ruleLeavesBag() {
        sentence(8, "(the BAG stays as it is).");
        for (int from = 0; from < 4; from++) {
            for (int to = 0; to < 4; to++) {
                SongsAgain x = playAll(read("s0,s1,s2;" + from), 1);
                x.rule(to);
                dueBag(x, "101");
                due("play(0)", 1, x.play(0));
            }
        }
    }

    private static void ruleOutside() {
        sentence(8, "OUTSIDE: rule (0 to 3);");
        due("rule(0)", 2, amid().rule(0));
        due("rule(3)", 2, amid().rule(3));
        for (int rule : new int[] {-1, 4, LEAST, MOST}) {
            refused("rule(" + rule + ")", OUTSIDE, x -> x.rule(rule));
            refused("rule(" + rule + ") of no player", OUTSIDE, Sentences::unread, x -> x.rule(rule));
        }
    }

    private static void ruleState() {
        sentence(8, "STATE: no PLAYER.");
        for (int rule = 0; rule < 4; rule++) {
            int another = rule;
            refused("rule(" + rule + ")", STATE, SongsAgain::new, x -> x.rule(another));
            refused("rule(" + rule + ")", STATE, Sentences::unread, x -> x.rule(another));
        }
    }

    private static void played() {
        sentence(9, "It is played: how many are in the BAG then.");
        SongsAgain x = read("s0,s1,s2;0");
        due("play(1)", 2, x.play(1));
        due("play(1) again, not in the bag", 2, x.play(1));
        due("play(0)", 1, x.play(0));
        due("play(2), the bag's last", 3, x.play(2));
        due("count(2)", 4, x.count(2));
        due("count(8)", 2, x.count(8));
        due("song(1, 4)", 2, x.song(1, 4));
        SongsAgain two = read("s0,s1;2");
        due("play(0) of two", 1, two.play(0));
        due("play(1) of two", 2, two.play(1));
        SongsAgain six = read(alike(6, 2));
        due("play(5) of six", 5, six.play(5));
    }

    private static void playUnknown() {
        sentence(9, "UNKNOWN;");
        due("play(4) is no refusal", 1, amid().play(4) > 0 ? 1 : 0);
        due("play(0) is no refusal", 1, read("s0,s1;0").play(0));
        for (int song : new int[] {-1, 5, 6, 32, LEAST, MOST}) {
            refused("play(" + song + ")", UNKNOWN, x -> x.play(song));
        }
        refused("play(0) of no player", UNKNOWN, Sentences::unread, x -> x.play(0));
    }

    private static void playState() {
        sentence(9, "STATE: it MAY not come next.");
        due("play(2) of the bag by rule 2", 1, amid().play(2) > 0 ? 1 : 0);
        refused("play(3), out of the bag by rule 2", STATE, x -> x.play(3));
        refused("play(0), out of the bag by rule 2", STATE, Sentences::amidSkipped, x -> x.play(0));
        refused("play(1) of one singer", STATE, () -> playAll(read("s0,h0,s1;1"), 0), x -> x.play(1));
        refused("play(0) again", STATE, () -> playAll(read("s0,h0,s1;1"), 0), x -> x.play(0));
        due("play(2) of another singer", 1, playAll(read("s0,h0,s1;1"), 0).play(2));
        due("play(1) by rule 0", 1, playAll(read("s0,h0,s1;0"), 0).play(1));
        due("play(0) again by rule 0", 2, playAll(read("s0,h0,s1;0"), 0).play(0));
    }

    private static void skipped() {
        sentence(10, "What was played last is SKIPPED: what it WEIGHS then.");
        SongsAgain x = playAll(read("a0,h1;0"), 0, 1);
        due("skip()", 1, x.skip());
        due("song(0, 5)", 0, x.song(0, 5));
        due("song(1, 5)", 1, x.song(1, 5));
        due("count(3)", 1, x.count(3));
        due("count(2)", 2, x.count(2));
        due("count(8)", 1, x.count(8));
        playAll(x, 0);
        due("skip()", 2, x.skip());
        due("song(0, 5)", 1, x.song(0, 5));
        due("song(1, 5)", 1, x.song(1, 5));
        SongsAgain light = playAll(read("s0,s1;0"), 0);
        due("skip() of what weighs 1", 0, light.skip());
        playAll(light, 0);
        due("skip() of what weighs 0", 0, light.skip());
        due("song(0, 5)", 2, light.song(0, 5));
    }

    private static void skipNothingPlayed() {
        sentence(10, "STATE: nothing was played,");
        refused("skip() of nothing", STATE, () -> read("a0,h1;0"), x -> x.skip());
        refused("skip() of what was heard only", STATE, () -> hearAll(read("a0,h1;0"), 0), x -> x.skip());
        refused("skip() of no player", STATE, SongsAgain::new, x -> x.skip());
        refused("skip() of no player", STATE, Sentences::unread, x -> x.skip());
        SongsAgain x = playAll(read("a0,h1;0"), 0);
        due("skip() of the first", 2, x.skip());
        type(x, "a0,h1;0");
        x.player();
        due("skip() with another player", STATE, x.skip());
        SongsAgain image = read("a0,h1;0");
        image.image();
        playAll(image, 0);
        image.restore();
        due("skip() of an image of nothing played", STATE, image.skip());
    }

    private static void skipAlready() {
        sentence(10, "or that was SKIPPED already since it was played.");
        refused("skip() again", STATE, Sentences::amidSkipped, x -> x.skip());
        refused("skip() of what weighs 0 again", STATE, () -> playAndSkip(read("s0,s1;0"), 0), x -> x.skip());
        SongsAgain x = playAll(read("a0,h1;0"), 0);
        due("skip()", 2, x.skip());
        due("skip() again", STATE, x.skip());
        due("play(0) of the same", 1, x.play(0));
        due("skip() since it was played", 1, x.skip());
        due("skip() again", STATE, x.skip());
        x.rule(1);
        x.hear(1);
        due("skip() whatever else is asked", STATE, x.skip());
        due("play(1)", 2, x.play(1));
        due("skip() of another", 1, x.skip());
    }
}
