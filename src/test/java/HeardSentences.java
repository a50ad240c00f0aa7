/** What is heard, by which rule it came, and evenings by a seed; promises 13 to 17. */
final class HeardSentences extends Sentences {
    private static final String FOUR = "s0,s0,s1,n0;0";
    private static final int MOST_HEARD = 8, MOST_EVENING = 60;

    /** BEFORE[k] is the seed whose next is 65536 * k, so that its draw is from k; BEHIND[k] of 65536 * k + 65535. */
    private static final int[] BEFORE = {2088216195, 1742513795, 1396811395, 1051108995, 705406595, 359704195};
    private static final int[] BEHIND = {2032319262, 1686616862, 1340914462, 995212062, 649509662, 303807262};

    private HeardSentences() {
    }

    static void all() {
        heardAtMostEight();
        oneBehindTheOther();
        fromWhenAllWere();
        rulesAsBits();
        mostLikely();
        leastOfLikeOnes();
        asTheyWouldBe();
        fromNow();
        drawOfWeights();
        drawOfHowMany();
        inWhoseShare();
        unlikeSongs();
        minutesTogether();
        nextSeed();
        byThatRoundedDown();
        hear();
        hearRefusals();
        forget();
        rules();
        rulesState();
        likely();
        likelyState();
        eveningsTold();
        eveningsOutside();
        eveningsState();
    }

    private static SongsAgain heardAll() {
        return hearAll(read(FOUR), 0, 1, 2, 3, 3, 2, 1, 0);
    }

    private static void heardAtMostEight() {
        sentence(0, "HEARD (8 at most):");
        SongsAgain x = read(FOUR);
        for (int came = 1; came <= MOST_HEARD; came++) {
            due("hear(1)", came, x.hear(1));
        }
        refused("hear(1) of a ninth", FULL, HeardSentences::heardAll, y -> y.hear(1));
        due("count(9)", MOST_HEARD, heardAll().count(9));
        // the eighth counts: of these eight songs just the last can't come otherwise than by rule 0
        due("rules() of eight", 1, hearAll(read("s0,s1,s2;0"), 0, 1, 2, 0, 1, 2, 0, 0).rules());
        due("rules() of seven", 15, hearAll(read("s0,s1,s2;0"), 0, 1, 2, 0, 1, 2, 0).rules());
    }

    private static void oneBehindTheOther() {
        sentence(0, "the SONGS that came one behind the other,");
        due("rules() of 0 2 1", 15, hearAll(read("s0,s0,s1;0"), 0, 2, 1).rules());
        due("rules() of 0 1 2", 5, hearAll(read("s0,s0,s1;0"), 0, 1, 2).rules());
        due("rules() of 2 0 1, the bag's last", 13, hearAll(read("s0,s0,s1;0"), 2, 0, 1).rules());
    }

    private static void fromWhenAllWere() {
        sentence(0, "from when all were in the BAG, nothing was played, and nothing SKIPPED, of one whose RULE is not"
                + " known.");
        for (int rule = 0; rule < 4; rule++) {
            SongsAgain x = hearAll(read("a0,s0,s1,h1;" + rule), 0, 3);
            due("likely() by rule " + rule, 1, x.likely());
            due("rules() by rule " + rule, 15, x.rules());
            playAndSkip(x, 0);
            due("likely() of what is out of the bag", 1, x.likely());
            due("rules() of what is out of the bag", 15, x.rules());
            playAndSkip(x, 3);
            playAll(x, 1);
            due("likely(), whatever is played", 1, x.likely());
            due("rules(), whatever is played", 15, x.rules());
        }
        // if the skips counted, song 0 could not come
        SongsAgain x = hearAll(playAndSkip(read("s0,s1;0"), 0), 0);
        due("rules() of what weighs nothing now", 15, x.rules());
        due("likely() of what weighs nothing now", 0, x.likely());
    }

    private static void rulesAsBits() {
        sentence(0, "RULES by which just these can come (with a CHANCE above nothing): as bits.");
        SongsAgain x = read(FOUR);
        due("rules() of nothing", 15, x.rules());
        due("rules() of 0", 15, hearAll(x, 0).rules());
        due("rules() of 0 2, of two singers", 15, hearAll(x, 0, 2).rules());
        due("rules() of 0 3, a nursery one", 15, hearAll(x, 0, 3).rules());
        due("rules() of 0 1, of one singer", 5, hearAll(x, 0, 1).rules());
        due("rules() of 3 1, behind a nursery one", 5, hearAll(x, 3, 1).rules());
        due("rules() of 0 2 0, out of the bag", 3, hearAll(x, 0, 2, 0).rules());
        due("rules() of 3 3, nursery ones out of the bag", 3, hearAll(x, 3, 3).rules());
        due("rules() of 0 0", 1, hearAll(x, 0, 0).rules());
        due("rules() of 3 2 0 1, the bag's last", 13, hearAll(x, 3, 2, 0, 1).rules());
        due("rules() of 3 2 0 1 2, of a bag full again", 13, hearAll(x, 3, 2, 0, 1, 2).rules());
        due("rules() of 3 2 0 1 1, of a bag full again", 5, hearAll(x, 3, 2, 0, 1, 1).rules());
        due("rules() of one singer alone", 15, hearAll(read("s0,s0;0"), 0, 1).rules());
        due("rules() of one singer's one", 3, hearAll(read("s0,s0;0"), 0, 0).rules());
    }

    private static void mostLikely() {
        sentence(0, "LIKELY: the RULE by which it is most likely that just these come:");
        SongsAgain x = read(FOUR);
        due("likely() of 0 0: by 0 alone", 0, hearAll(x, 0, 0).likely());
        due("likely() of 0 2 0: 1/64, 1/24", 1, hearAll(x, 0, 2, 0).likely());
        due("likely() of 0 1: 1/16, none, 1/12, none", 2, hearAll(x, 0, 1).likely());
        due("likely() of 0 2 1: 1/64, 1/24, 1/24, 1/16", 3, hearAll(x, 0, 2, 1).likely());
        due("likely() of 3 2 0 1 2: 1/1024, none, 1/96, 1/16", 3, hearAll(x, 3, 2, 0, 1, 2).likely());
        due("likely() of eight: 1/6561, 1/384, 1/216, 1/96", 3,
                hearAll(read("s0,s1,s2;0"), 0, 1, 2, 0, 1, 2, 0, 1).likely());
        due("likely() of 1 0 1 in a2,n1: 3/64, 3/16, 1/16, 1/4", 3, hearAll(read("a2,n1;0"), 1, 0, 1).likely());
        due("likely() of 1 0 0 in a2,h0: 18/125, none, 6/25, none", 2, hearAll(read("a2,h0;0"), 1, 0, 0).likely());
        due("likely() of 2 1 0 0 in n1,a0,h1: 1/216, 1/48, 1/24, 1/16", 3,
                hearAll(read("n1,a0,h1;0"), 2, 1, 0, 0).likely());
        due("likely() of 0 1, the bag's last behind it: 2/9, 2/9, 2/3, 2/3", 2, hearAll(read("h0,s0;0"), 0, 1).likely());
    }

    private static void leastOfLikeOnes() {
        sentence(0, "of like ones the least; none.");
        due("likely() of nothing: all alike", 0, read("s0,s1;3").likely());
        due("likely() of one: all alike", 0, hearAll(read("s0,s1;3"), 1).likely());
        due("likely() of 0 2: 1 and 3 alike", 1, hearAll(read(FOUR), 0, 2).likely());
        due("likely() of 0 1: 1, 2, 3 alike", 1, hearAll(read("s0,s1;0"), 0, 1).likely());
        due("likely() of nursery ones: 2 and 3 alike", 2, hearAll(read("n0,n1,n2;0"), 0, 1, 2).likely());
        due("likely() of a nursery one twice: 0 and 1 alike", 0, hearAll(read("n0,n1,n2;0"), 0, 0).likely());
        // by rule 0 all can come, so there is always one
        for (int one = 0; one < 4; one++) {
            for (int other = 0; other < 4; other++) {
                SongsAgain x = hearAll(read(FOUR), one, other, one);
                due("likely() is one", 1, x.likely() >= 0 && x.likely() <= 3 ? 1 : 0);
                due("rule 0 among rules()", 1, x.rules() & 1);
            }
        }
    }

    private static void asTheyWouldBe() {
        sentence(0, "EVENINGS by a SEED, as they would be:");
        for (int what = 0; what < 3; what++) {
            int told = what;
            changesNothing("evenings(60, 7, " + what + ")", x -> x.evenings(MOST_EVENING, 7, told));
            changesNothing("evenings(1, 5, " + what + ")", x -> x.evenings(1, 5, told));
            changesNothing("evenings(2, 5, " + what + ")", x -> x.evenings(2, 5, told));
            SongsAgain x = amid();
            due("evenings again", x.evenings(9, 4, what), x.evenings(9, 4, what));
        }
    }

    private static void fromNow() {
        sentence(0, "so many SONGS from now (nothing is SKIPPED),");
        SongsAgain x = read("s0,l1;2");
        dueEvenings(x, 2, 7, 2, 10);
        playAll(x, 0);
        dueEvenings(x, 1, 7, 1, 7);
        dueEvenings(x, 3, 7, 2, 17);
        playAll(x, 1);
        dueEvenings(x, 2, 7, 2, 10);
        SongsAgain turns = playAll(read("s0,l1;1"), 1);
        for (int seed = 0; seed < 20; seed++) {
            dueEvenings(turns, 1, seed, 1, 3);
            dueEvenings(turns, 2, seed, 2, 10);
            dueEvenings(turns, 3, seed, 2, 13);
        }
        SongsAgain skipped = playAndSkip(read("s0,l1;0"), 1);
        dueEvenings(skipped, MOST_EVENING, 7, 1, 3 * MOST_EVENING);
        // from amid: 4 2 3 1 0 2 4 0
        dueEvenings(amid(), 8, 5, 5, 28);
    }

    private static void drawOfWeights() {
        sentence(0, "each by a DRAW of how much all that MAY come WEIGH together");
        // song 1 is the only long one; by the seed the draw's rest is of 4, 5, 6 and 3
        SongsAgain x = read("a0,l1;0");
        int[] minutes = {3, 3, 3, 7, 3, 3};
        for (int k = 0; k < 6; k++) {
            due("evenings by " + k + " of 4", minutes[k], x.evenings(1, BEFORE[k], 1));
        }
        SongsAgain five = read("h0,h2,l1;0");
        int[] ofFive = {3, 3, 3, 3, 7, 3};
        for (int k = 0; k < 6; k++) {
            due("evenings by " + k + " of 5", ofFive[k], five.evenings(1, BEFORE[k], 1));
        }
        SongsAgain bag = playAll(read("a0,h2,l1;2"), 0);
        int[] ofThree = {3, 3, 7, 3, 3, 7};
        for (int k = 0; k < 6; k++) {
            due("evenings by " + k + " of 3, those in the bag", ofThree[k], bag.evenings(1, BEFORE[k], 1));
        }
        SongsAgain skipped = playAndSkip(read("a0,l1;0"), 0);
        for (int k = 0; k < 6; k++) {
            due("evenings by " + k + " of 3, one skipped", ofThree[k], skipped.evenings(1, BEFORE[k], 1));
        }
    }

    private static void drawOfHowMany() {
        sentence(0, "(if all WEIGH 0: of how many they are):");
        SongsAgain x = playAndSkip(read("s0,s1,l2;0"), 0, 1);
        for (int k = 0; k < 6; k++) {
            due("evenings by " + k + " of 1, one weighs still", 7, x.evenings(1, BEFORE[k], 1));
        }
        playAndSkip(x, 2);
        int[] ofThree = {3, 3, 7, 3, 3, 7};
        for (int k = 0; k < 6; k++) {
            due("evenings by " + k + " of 3 that weigh 0", ofThree[k], x.evenings(1, BEFORE[k], 1));
        }
        // of singer 1 alone may come, and these weigh nothing, while song 0 still does
        SongsAgain some = playAndSkip(read("a0,s1,l1,s0;1"), 1, 3, 2, 0);
        for (int k = 0; k < 6; k++) {
            due("evenings by " + k + " of 2 that weigh 0", k % 2 == 0 ? 3 : 7, some.evenings(1, BEFORE[k], 1));
        }
    }

    private static void inWhoseShare() {
        sentence(0, "the one by number in whose share it falls:");
        int[] middle = {3, 3, 7, 3, 3, 3};
        int[] first = {7, 7, 3, 3, 3, 7};
        for (int k = 0; k < 6; k++) {
            due("evenings by " + k + " of 2 1 2", middle[k], read("h0,l1,h2;0").evenings(1, BEFORE[k], 1));
        }
        // a long one weighs 1: two of them are a share of 2
        for (int k = 0; k < 6; k++) {
            due("evenings by " + k + " of 1 1 3", first[k], read("l0,l1,a2;0").evenings(1, BEFORE[k], 1));
        }
        SongsAgain noShare = playAndSkip(read("s0,l1,s2;0"), 0);
        for (int k = 0; k < 6; k++) {
            due("evenings by " + k + " of 0 1 1", k % 2 == 0 ? 7 : 3, noShare.evenings(1, BEFORE[k], 1));
        }
        SongsAgain mayNot = playAll(read("s0,s1,l2,s3;1"), 1);
        int[] ofThree = {3, 7, 3, 3, 7, 3};
        for (int k = 0; k < 6; k++) {
            due("evenings by " + k + " of 1 - 1 1", ofThree[k], mayNot.evenings(1, BEFORE[k], 1));
        }
    }

    private static void unlikeSongs() {
        sentence(0, "how many unlike SONGS come;");
        for (int songs = 2; songs <= 6; songs++) {
            SongsAgain x = read(alike(songs, 2));
            for (int length = 1; length <= songs + 1; length++) {
                due("evenings(" + length + ", 3, 0) from a bag of " + songs, Math.min(length, songs),
                        x.evenings(length, 3, 0));
            }
        }
        SongsAgain any = read("l0,l0,l0,l0,l0,l0;0");
        due("evenings(2, 0, 0), one twice", 1, any.evenings(2, 0, 0));
        due("evenings(3, 0, 0)", 2, any.evenings(3, 0, 0));
        due("evenings(6, 0, 0)", 3, any.evenings(6, 0, 0));
        due("evenings(60, 0, 0)", 6, any.evenings(MOST_EVENING, 0, 0));
    }

    private static void minutesTogether() {
        sentence(0, "how many MINUTES all that come last together (each time that it comes).");
        SongsAgain any = read("l0,l0,l0,l0,l0,l0;0");
        due("evenings(1, 0, 1)", 7, any.evenings(1, 0, 1));
        due("evenings(2, 0, 1), one twice", 14, any.evenings(2, 0, 1));
        due("evenings(60, 0, 1)", 420, any.evenings(MOST_EVENING, 0, 1));
        due("evenings(60, 0, 1) of the short ones", 180, read(alike(6, 0)).evenings(MOST_EVENING, 0, 1));
        SongsAgain x = read("a0,l1,n0,h2,s1;3");
        int[][] want = {{1, 0, 3}, {6, 0, 22}, {59, 0, 225}, {60, 0, 228}, {3, 7, 13}, {59, 7, 221}, {60, 7, 228},
            {60, MOST, 228}};
        for (int[] one : want) {
            due("evenings(" + one[0] + ", " + one[1] + ", 1)", one[2], x.evenings(one[0], one[1], 1));
        }
        SongsAgain turns = read("s0,l0,s1,l1,h2,n3;1");
        due("evenings(6, 0, 1) by turns", 26, turns.evenings(6, 0, 1));
        due("evenings(60, 0, 1) by turns", 260, turns.evenings(MOST_EVENING, 0, 1));
        due("evenings(60, 7, 1) by turns", 224, turns.evenings(MOST_EVENING, 7, 1));
    }

    private static void nextSeed() {
        sentence(0, "DRAWS: the next SEED each time: 1103515245 times it and 12345, its rest by 2 to the 31;");
        SongsAgain x = read("s0,l1;0");
        due("the seed behind 0", 12345, x.evenings(1, 0, 2));
        due("the seed behind 12345", 1406932606, x.evenings(1, 12345, 2));
        due("the second behind 0", 1406932606, x.evenings(2, 0, 2));
        due("the third behind 0", 654583775, x.evenings(3, 0, 2));
        due("the 60th behind 0", 321843028, x.evenings(MOST_EVENING, 0, 2));
        due("the seed behind 1, below 2 to the 31", 1103527590, x.evenings(1, 1, 2));
        due("the seed behind 2, above it", 59559187, x.evenings(1, 2, 2));
        due("the seed behind the greatest", 1043980748, x.evenings(1, MOST, 2));
        due("the greatest rest", MOST, x.evenings(1, 230538014, 2));
        due("no rest", 0, x.evenings(1, BEFORE[0], 2));
    }

    private static void byThatRoundedDown() {
        sentence(0, "then that by 65536 (rounded down), its rest.");
        SongsAgain x = read("s0,l1;0");
        for (int k = 0; k < 6; k++) {
            due("the seed that makes " + k, 65536 * k, x.evenings(1, BEFORE[k], 2));
            due("the seed that makes all but " + (k + 1), 65536 * k + 65535, x.evenings(1, BEHIND[k], 2));
            due("evenings by " + k, k % 2 == 0 ? 3 : 7, x.evenings(1, BEFORE[k], 1));
            due("evenings by all but " + (k + 1), k % 2 == 0 ? 3 : 7, x.evenings(1, BEHIND[k], 1));
        }
        // 2147483647 by 65536 is 32767
        due("evenings by the greatest", 7, x.evenings(1, 230538014, 1));
        due("evenings by the greatest of three", 7, read("s0,l1,s2;0").evenings(1, 230538014, 1));
    }

    private static void hear() {
        sentence(13, "It came: how many did.");
        SongsAgain x = read("s0,s0,s1;2");
        due("hear(0)", 1, x.hear(0));
        due("hear(2)", 2, x.hear(2));
        due("hear(1)", 3, x.hear(1));
        due("rules() of 0 2 1", 15, x.rules());
        due("hear(1) again", 4, x.hear(1));
        due("rules() of 0 2 1 1", 5, x.rules());
        due("count(9)", 4, x.count(9));
        due("count(2), nothing is played", 0, x.count(2));
        dueBag(x, "111");
    }

    private static void hearRefusals() {
        sentence(13, "UNKNOWN; FULL.");
        due("hear(0)", 4, amid().hear(0));
        due("hear(4)", 4, amid().hear(4));
        for (int song : new int[] {-1, 5, 6, LEAST, MOST}) {
            refused("hear(" + song + ")", UNKNOWN, x -> x.hear(song));
            refused("hear(" + song + ") when full", UNKNOWN, HeardSentences::heardAll, x -> x.hear(song));
        }
        refused("hear(0) of no player", UNKNOWN, Sentences::unread, x -> x.hear(0));
        SongsAgain seven = hearAll(read(FOUR), 0, 0, 0, 0, 0, 0, 0);
        due("hear(3) of an eighth", MOST_HEARD, seven.hear(3));
        due("hear(3) of a ninth", FULL, seven.hear(3));
        for (int song = 0; song < 4; song++) {
            int one = song;
            refused("hear(" + song + ") of a ninth", FULL, HeardSentences::heardAll, x -> x.hear(one));
        }
    }

    private static void forget() {
        sentence(14, "Nothing came: how many did.");
        due("forget() of no player", 0, new SongsAgain().forget());
        changesNothing("forget() of nothing", () -> read(FOUR), x -> x.forget());
        changesNothing("forget() of no player", Sentences::unread, x -> x.forget());
        for (int came = 0; came <= MOST_HEARD; came++) {
            SongsAgain x = read(FOUR);
            for (int i = 0; i < came; i++) {
                x.hear(0);
            }
            due("forget()", came, x.forget());
            due("count(9)", 0, x.count(9));
            due("rules()", 15, x.rules());
            due("forget() again", 0, x.forget());
            due("hear(1)", 1, x.hear(1));
        }
        SongsAgain x = amid();
        x.forget();
        dueCounts(x, 5, 2, 3, 1, 13, 3, 2, 2, 3, 0, 6, 1);
    }

    private static void rules() {
        sentence(15, "RULES, as bits.");
        SongsAgain x = read("s0,s0,s1,n0;3");
        due("rules()", 15, x.rules());
        due("rules() of 0 1", 5, hearAll(x, 0, 1).rules());
        due("rules() of 0 2 0", 3, hearAll(x, 0, 2, 0).rules());
        due("rules() of 0 0", 1, hearAll(x, 0, 0).rules());
        changesNothing("rules()", y -> y.rules());
    }

    private static void rulesState() {
        sentence(15, "STATE: no PLAYER.");
        refused("rules()", STATE, SongsAgain::new, x -> x.rules());
        refused("rules()", STATE, Sentences::unread, x -> x.rules());
        due("rules() with a player", 15, read("h0,s1;3").rules());
    }

    private static void likely() {
        sentence(16, "LIKELY; NONE.");
        SongsAgain x = read("s0,s0,s1,n0;2");
        due("likely()", 0, x.likely());
        due("likely() of 0 2", 1, hearAll(x, 0, 2).likely());
        due("likely() of 0 1", 2, hearAll(x, 0, 1).likely());
        due("likely() of 0 2 1", 3, hearAll(x, 0, 2, 1).likely());
        due("likely() of 0 0, that can come by rule 0 alone", 0, hearAll(x, 0, 0).likely());
        changesNothing("likely()", y -> y.likely());
    }

    private static void likelyState() {
        sentence(16, "STATE: no PLAYER.");
        refused("likely()", STATE, SongsAgain::new, x -> x.likely());
        refused("likely()", STATE, Sentences::unread, x -> x.likely());
        due("likely() with a player", 0, read("h0,s1;3").likely());
    }

    private static void eveningsTold() {
        sentence(17, "EVENINGS: what = 0 how many unlike SONGS, 1 how many MINUTES, 2 the SEED then.");
        SongsAgain x = read("a0,l1,n0,h2,s1;3");
        int[][] want = {{1, 0, 1, 3, 12345}, {2, 0, 2, 6, 1406932606}, {6, 0, 5, 22, 1109335178},
            {59, 7, 5, 221, 27550522}, {60, 7, 5, 228, 1108745195}, {60, MOST, 5, 228, 516211811}};
        for (int[] one : want) {
            for (int what = 0; what < 3; what++) {
                due("evenings(" + one[0] + ", " + one[1] + ", " + what + ")", one[2 + what],
                        x.evenings(one[0], one[1], what));
            }
        }
    }

    private static void eveningsOutside() {
        sentence(17, "OUTSIDE: songs (1 to 60), seed (0 at least), what;");
        SongsAgain x = amid();
        due("evenings(1, 5, 2)", 1222621274, x.evenings(1, 5, 2));
        due("evenings(60, 5, 2)", 1497482761, x.evenings(MOST_EVENING, 5, 2));
        due("evenings(1, 0, 2)", 12345, x.evenings(1, 0, 2));
        due("evenings(1, 2147483647, 2)", 1043980748, x.evenings(1, MOST, 2));
        due("evenings(1, 5, 0)", 1, x.evenings(1, 5, 0));
        for (int songs : new int[] {0, 61, -1, LEAST, MOST}) {
            refused("evenings(" + songs + ", 5, 0)", OUTSIDE, y -> y.evenings(songs, 5, 0));
            refused("evenings(" + songs + ", 5, 2)", OUTSIDE, Sentences::unread, y -> y.evenings(songs, 5, 2));
        }
        for (int seed : new int[] {-1, -2, LEAST}) {
            refused("evenings(1, " + seed + ", 1)", OUTSIDE, y -> y.evenings(1, seed, 1));
            refused("evenings(1, " + seed + ", 1)", OUTSIDE, Sentences::unread, y -> y.evenings(1, seed, 1));
        }
        for (int what : new int[] {-1, 3, LEAST, MOST}) {
            refused("evenings(1, 5, " + what + ")", OUTSIDE, y -> y.evenings(1, 5, what));
            refused("evenings(1, 5, " + what + ")", OUTSIDE, Sentences::unread, y -> y.evenings(1, 5, what));
        }
    }

    private static void eveningsState() {
        sentence(17, "STATE: no PLAYER.");
        for (int what = 0; what < 3; what++) {
            int told = what;
            refused("evenings(1, 0, " + what + ")", STATE, SongsAgain::new, x -> x.evenings(1, 0, told));
            refused("evenings(60, 2147483647, " + what + ")", STATE, Sentences::unread,
                    x -> x.evenings(MOST_EVENING, MOST, told));
        }
        due("evenings(1, 0, 0) with a player", 1, read("h0,s1;3").evenings(1, 0, 0));
    }
}
