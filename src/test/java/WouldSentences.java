/** What would be: how likely a song comes twice, and the orders for a party; promises 11 and 12. */
final class WouldSentences extends Sentences {
    private static final String SIX = "s0,s1,s2,s3,s0,s1;0";

    private WouldSentences() {
    }

    static void all() {
        twiceFromNow();
        twiceAmongThem();
        twiceNothingSkipped();
        twiceInWholeParts();
        twiceAboveBelow();
        twiceOutside();
        twiceState();
        noTwoOfOneSinger();
        nurseryOnesToo();
        firstByNumbers();
        noneOfThem();
        howManyOrders();
        noSongsOneOrder();
        partyTold();
        partyOutside();
        partyState();
    }

    private static void twiceFromNow() {
        sentence(0, "TWICE in so many SONGS (2, 3) from now:");
        SongsAgain x = read("s0,s1,s2;2");
        dueTwice(x, 2, 0, 1);
        dueTwice(x, 3, 0, 1);
        playAll(x, 2);
        // of three the third comes from the bag that is full again: two of its three came
        dueTwice(x, 2, 0, 1);
        dueTwice(x, 3, 2, 3);
        playAll(x, 1);
        // the first is 0, then all may come: 1/3 and 2/3 * 1/2
        dueTwice(x, 2, 1, 3);
        dueTwice(x, 3, 2, 3);
        x.rule(0);
        dueTwice(x, 2, 1, 3);
        dueTwice(x, 3, 7, 9);
        SongsAgain last = playAll(read("s0,s0,s1;1"), 2);
        // 2 was last: 0 or 1, then 2, then 0 or 1
        dueTwice(last, 2, 0, 1);
        dueTwice(last, 3, 1, 2);
    }

    private static void twiceAmongThem() {
        sentence(0, "how likely one of these comes that came before among them");
        dueTwice(read("s0,s1;0"), 2, 1, 2);
        dueTwice(read("s0,s1;0"), 3, 1, 1);
        dueTwice(read("s0,s1;1"), 2, 0, 1);
        dueTwice(read("s0,s1;1"), 3, 1, 1);
        dueTwice(read("s0,s1,s2;0"), 3, 7, 9);
        dueTwice(read("s0,s1,s2;1"), 3, 1, 2);
        SongsAgain x = playAll(read("s0,s1,s2;0"), 0, 1, 2, 0);
        // what was played ahead of now is not among them
        dueTwice(x, 2, 1, 3);
        dueTwice(x, 3, 7, 9);
        dueTwice(read("n0,s1;1"), 2, 1, 4);
        dueTwice(read("n0,s1;1"), 3, 1, 1);
    }

    private static void twiceNothingSkipped() {
        sentence(0, "(nothing is SKIPPED), in whole parts.");
        SongsAgain x = read("h0,s1;0");
        dueTwice(x, 2, 5, 9);
        playAndSkip(x, 0);
        dueTwice(x, 2, 1, 2);
        playAndSkip(x, 0);
        dueTwice(x, 2, 1, 1);
        playAndSkip(x, 1);
        // all weigh nothing
        dueTwice(x, 2, 1, 2);
        changesNothing("twice(3, 1)", y -> y.twice(3, 1));
    }

    private static void twiceInWholeParts() {
        sentence(0, "in whole parts.");
        dueTwice(read("a0,a1,a2,a3,a0,h1;0"), 2, 49, 289);
        dueTwice(read("a0,a1,a2,a3,a0,h1;0"), 3, 2213, 4913);
        dueTwice(read("a0,h1,n2,l0,s3;1"), 2, 1, 64);
        dueTwice(read("a0,h1,n2,l0,s3;1"), 3, 1025, 2688);
    }

    private static void twiceAboveBelow() {
        sentence(11, "TWICE: what = 0 above, 1 below, in lowest terms.");
        SongsAgain x = read("a0,a1,a2,a3,a0,a1;0");
        due("twice(2, 0)", 1, x.twice(2, 0));
        due("twice(2, 1)", 6, x.twice(2, 1));
        due("twice(3, 0)", 4, x.twice(3, 0));
        due("twice(3, 1)", 9, x.twice(3, 1));
        SongsAgain never = read("s0,s1,s2;2");
        due("twice(2, 0) of none", 0, never.twice(2, 0));
        due("twice(2, 1) of none", 1, never.twice(2, 1));
        SongsAgain always = read("s0,s1;0");
        due("twice(3, 0) of all", 1, always.twice(3, 0));
        due("twice(3, 1) of all", 1, always.twice(3, 1));
    }

    private static void twiceOutside() {
        sentence(11, "OUTSIDE: songs (2, 3), what;");
        SongsAgain x = amid();
        for (int songs = 2; songs <= 3; songs++) {
            due("twice(" + songs + ", 0) is no refusal", 1, x.twice(songs, 0) >= 0 ? 1 : 0);
            due("twice(" + songs + ", 1) is no refusal", 1, x.twice(songs, 1) > 0 ? 1 : 0);
        }
        for (int songs : new int[] {1, 4, 0, -1, LEAST, MOST}) {
            refused("twice(" + songs + ", 0)", OUTSIDE, y -> y.twice(songs, 0));
            refused("twice(" + songs + ", 1)", OUTSIDE, Sentences::amidSkipped, y -> y.twice(songs, 1));
            refused("twice(" + songs + ", 1) of no player", OUTSIDE, Sentences::unread, y -> y.twice(songs, 1));
        }
        for (int what : new int[] {-1, 2, LEAST, MOST}) {
            refused("twice(2, " + what + ")", OUTSIDE, y -> y.twice(2, what));
            refused("twice(3, " + what + ")", OUTSIDE, y -> y.twice(3, what));
            refused("twice(3, " + what + ") of no player", OUTSIDE, Sentences::unread, y -> y.twice(3, what));
        }
    }

    private static void twiceState() {
        sentence(11, "STATE: no PLAYER.");
        for (int songs = 2; songs <= 3; songs++) {
            int so = songs;
            refused("twice(" + songs + ", 0)", STATE, SongsAgain::new, x -> x.twice(so, 0));
            refused("twice(" + songs + ", 1)", STATE, Sentences::unread, x -> x.twice(so, 1));
        }
        due("twice(2, 1) with a player", 9, read("h0,s1;0").twice(2, 1));
    }

    private static void noTwoOfOneSinger() {
        sentence(0, "PARTY for some SONGS (as bits): in which order these can be played so that no two of one SINGER come"
                + " one behind the other");
        SongsAgain x = read("s0,s0,s1,s1;0");
        dueParty(x, 15, 8, 0, 2, 1, 3);
        dueParty(x, 7, 2, 0, 2, 1);
        dueParty(x, 14, 2, 2, 1, 3);
        dueParty(x, 5, 2, 0, 2);
        dueParty(x, 10, 2, 1, 3);
        dueParty(x, 3, 0);
        dueParty(x, 12, 0);
        playAndSkip(x, 0, 1, 2);
        x.rule(3);
        // neither what was played nor the rule is asked
        dueParty(x, 15, 8, 0, 2, 1, 3);
        changesNothing("party(7, 0)", y -> y.party(7, 0));
    }

    private static void nurseryOnesToo() {
        sentence(0, "(NURSERY ones, too):");
        dueParty(read("n0,n0;1"), 3, 0);
        dueParty(read("n0,s0;1"), 3, 0);
        dueParty(read("s0,n0;1"), 3, 0);
        dueParty(read("n0,n1;1"), 3, 2, 0, 1);
        dueParty(read("n0,n0,s1;0"), 7, 2, 0, 2, 1);
    }

    private static void firstByNumbers() {
        sentence(0, "the first by numbers;");
        dueParty(read("s0,s0,s0,s1,s1;0"), 31, 12, 0, 3, 1, 4, 2);
        dueParty(read("s1,s0,s0,s0,s1;0"), 31, 12, 1, 0, 2, 4, 3);
        dueParty(read("s3,s2,s1,s0,s3,s2;0"), 63, 336, 0, 1, 2, 3, 4, 5);
        dueParty(read("s0,s0,s1,s2;0"), 15, 12, 0, 2, 1, 3);
        dueParty(read("s0,s1,s0,s1;0"), 15, 8, 0, 1, 2, 3);
        dueParty(read(SIX), 1 << 5, 1, 5);
    }

    private static void noneOfThem() {
        sentence(0, "none; how many such orders there are");
        // three of one singer among five can stand apart, among four they can't
        SongsAgain x = read("s0,s0,s0,s1,s2;0");
        dueParty(x, 31, 12, 0, 3, 1, 4, 2);
        dueParty(x, 15, 0);
        dueParty(x, 24, 2, 3, 4);
        dueParty(x, 3, 0);
        dueParty(read(alike(2, 0)), 3, 0);
        dueParty(read(alike(6, 0)), 63, 0);
        dueParty(read(alike(6, 0)), 32, 1, 5);
    }

    private static void howManyOrders() {
        sentence(0, "how many such orders there are");
        SongsAgain x = read(SIX);
        dueParty(x, 1, 1, 0);
        dueParty(x, 3, 2, 0, 1);
        dueParty(x, 7, 6, 0, 1, 2);
        dueParty(x, 15, 24, 0, 1, 2, 3);
        // 120 less the 48 with 0 and 4 together
        dueParty(x, 31, 72, 0, 1, 2, 3, 4);
        // 720 less 240 and 240, and 96 that were taken away twice
        dueParty(x, 63, 336, 0, 1, 2, 3, 4, 5);
    }

    private static void noSongsOneOrder() {
        sentence(0, "(of no SONGS one).");
        for (int songs = 2; songs <= 6; songs++) {
            dueParty(read(alike(songs, 3)), 0, 1);
            dueParty(read(alike(songs, 3)), 1, 1, 0);
        }
    }

    private static void partyTold() {
        sentence(12, "PARTY: what = 0 how many orders, 10 to 15 the so-manieth SONG of the first one (NONE: there is none)."
        );
        SongsAgain x = read(SIX);
        due("party(63, 0)", 336, x.party(63, 0));
        for (int place = 0; place < 6; place++) {
            due("party(63, " + (10 + place) + ")", place, x.party(63, 10 + place));
            due("party(17, " + (10 + place) + ") of no order", NONE, x.party(17, 10 + place));
        }
        due("party(52, 10)", 2, x.party(52, 10));
        due("party(52, 11)", 4, x.party(52, 11));
        due("party(52, 12)", 5, x.party(52, 12));
        due("party(52, 13), of three", NONE, x.party(52, 13));
        due("party(52, 15), of three", NONE, x.party(52, 15));
        due("party(0, 10), of none", NONE, x.party(0, 10));
    }

    private static void partyOutside() {
        sentence(12, "OUTSIDE: songs (bits of SONGS that there are), what;");
        for (int songs = 2; songs <= 6; songs++) {
            String text = alike(songs, 0);
            int all = (1 << songs) - 1;
            due("party(" + all + ", 0) of " + songs, 0, read(text).party(all, 0));
            due("party(0, 0) of " + songs, 1, read(text).party(0, 0));
            for (int bits : new int[] {-1, all + 1, all + 2, 1 << 6, LEAST, MOST}) {
                refused("party(" + bits + ", 0) of " + songs, OUTSIDE, () -> read(text), x -> x.party(bits, 0));
            }
        }
        refused("party(32, 0)", OUTSIDE, x -> x.party(32, 0));
        refused("party(-1, 10)", OUTSIDE, Sentences::amidSkipped, x -> x.party(-1, 10));
        for (int what : new int[] {-1, 1, 2, 9, 16, 17, LEAST, MOST}) {
            refused("party(1, " + what + ")", OUTSIDE, x -> x.party(1, what));
            refused("party(0, " + what + ") of no player", OUTSIDE, Sentences::unread, x -> x.party(0, what));
        }
        due("party(5, 10)", NONE, amid().party(5, 10));
        due("party(5, 15)", NONE, amid().party(5, 15));
        refused("party(1, 0) of no player, that has no songs", OUTSIDE, Sentences::unread, x -> x.party(1, 0));
        refused("party(-1, 0) of no player", OUTSIDE, Sentences::unread, x -> x.party(-1, 0));
    }

    private static void partyState() {
        sentence(12, "STATE: no PLAYER.");
        refused("party(0, 0)", STATE, SongsAgain::new, x -> x.party(0, 0));
        for (int what : new int[] {0, 10, 15}) {
            refused("party(0, " + what + ")", STATE, Sentences::unread, x -> x.party(0, what));
        }
        due("party(0, 0) with a player", 1, read("h0,s1;3").party(0, 0));
    }
}
