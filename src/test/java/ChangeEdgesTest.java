/** The edges of promises 28, 30 to 33, 37 and 38, and of section 6: each sentence that names one, with its neighbours. */
public final class ChangeEdgesTest {
    private static final Check check = new Check();
    private static final Edges edges = new Edges(check);

    private static final int NONE = WhistlePosts.NONE;
    private static final String NO_ROOF = "Throws IndexOutOfBoundsException if there is no such ROOF";
    private static final String FIRST_LISTED = "If several exceptions apply to a call, the one that is listed first is thrown";
    private static final String IS_CHANGE = "Changes are the methods whose description says so, if they succeed, also if nothing is different then";

    private ChangeEdgesTest() {
    }

    public static void main(String[] args) {
        promise28();
        promises30And31();
        promises32And33();
        promises37And38();
        fiveHundredAndTwelveCalls();
        for (int promise : new int[] {28, 30, 31, 32, 33, 37, 38}) {
            edges.coverPromises(promise, promise);
        }
        check.end();
    }

    private static void promise28() {
        edges.of(28, NO_ROOF, ChangeEdgesTest::p28NoRoof);
        edges.of(28, "Throws IllegalArgumentException if both are the same", ChangeEdgesTest::p28Same);
        edges.of(28, "or notes is out of range", ChangeEdgesTest::p28NotesOut);
        edges.of(28, "or has a digit above 7", ChangeEdgesTest::p28Digits);
        edges.of(28, "0 to 77777777: in decimal digits, each 0 to 7 (0 is one NOTE 0)", ChangeEdgesTest::p28Notes);
        edges.of(28, "Throws IllegalStateException if there are 30 TUNES", ChangeEdgesTest::p28ThirtyTunes);
        edges.of(28, "There are at most 30 TUNES since the load, numbered from 0", ChangeEdgesTest::p28SinceTheLoad);
        edges.of(28, FIRST_LISTED, ChangeEdgesTest::p28First);
        edges.of(28, IS_CHANGE, () -> isChange(post -> post.send(0, 1, 0, false), post -> post.send(0, 0, 0, false)));
        edges.of(28, "A TUNE that is sent waits at its sender; HEARD is as SENT", ChangeEdgesTest::p28Waits);
    }

    private static void promises30And31() {
        edges.of(30, NO_ROOF, ChangeEdgesTest::p30NoRoof);
        edges.of(30, "Throws IllegalArgumentException if coins is out of range", ChangeEdgesTest::p30CoinsOut);
        edges.of(30, "Throws IllegalStateException if PURSE would be above 9999", ChangeEdgesTest::p30PurseAbove);
        edges.of(30, "PURSE would be above 9999", ChangeEdgesTest::p30PurseByFees);
        edges.of(30, FIRST_LISTED, ChangeEdgesTest::p30First);
        edges.of(30, IS_CHANGE, () -> isChange(post -> post.give(0, 1), post -> post.give(0, 0)));
        edges.of(31, NO_ROOF, ChangeEdgesTest::p31NoRoof);
        edges.of(31, "Throws IllegalStateException if there is no WAY between them", ChangeEdgesTest::p31NoWay);
        edges.of(31, "Returns WAYS that are left", ChangeEdgesTest::p31Left);
        edges.of(31, "(what is in the AIR comes all the same, with FAR as it was)", ChangeEdgesTest::p31Air);
        edges.of(31, FIRST_LISTED, ChangeEdgesTest::p31First);
        edges.of(31, IS_CHANGE, () -> isChange(post -> post.cut(0, 1), post -> post.cut(0, 3)));
    }

    private static void promises32And33() {
        edges.of(32, "Throws IllegalArgumentException if what or value is out of range", ChangeEdgesTest::p32WhatOut);
        edges.of(32, "a number within its range", ChangeEdgesTest::p32ValueOut);
        edges.of(32, "Returns the setting before", ChangeEdgesTest::p32Before);
        edges.of(32, IS_CHANGE, () -> isChange(post -> post.set(8, post.count(8)), post -> post.set(8, 10)));
        edges.of(33, "Throws NoSuchElementException if there is none", ChangeEdgesTest::p33None);
        edges.of(33, "At most 8 changes are kept to be undone: a further one puts the oldest of them away for good",
            ChangeEdgesTest::p33AtMostEight);
        edges.of(33, "one that was undone is kept no more", ChangeEdgesTest::p33KeptNoMore);
        edges.of(33, "Undoes the latest change that was not undone", ChangeEdgesTest::p33EachChange);
        edges.of(33, "The input buffer, the error and the output stay", ChangeEdgesTest::p33Stay);
        edges.of(33, "Returns the number of changes that can still be undone", ChangeEdgesTest::p33StillUndone);
    }

    private static void promises37And38() {
        edges.of(37, "Returns TUNES.", ChangeEdgesTest::p37Tunes);
        edges.of(37, "in place of an earlier saved state", ChangeEdgesTest::p37InPlace);
        edges.of(37, "Saves everything but the input buffer, the error, the output and the changes that can be undone",
            ChangeEdgesTest::p37Everything);
        edges.of(37, IS_CHANGE, ChangeEdgesTest::p37IsNoChange);
        edges.of(38, "Throws NoSuchElementException if no state is saved", ChangeEdgesTest::p38NoneSaved);
        edges.of(38, "Restores the saved state, which stays saved", ChangeEdgesTest::p38StaysSaved);
        edges.of(38, "Nothing can be undone then", ChangeEdgesTest::p38NothingToUndo);
        edges.of(38, "Returns TUNES then", ChangeEdgesTest::p38Tunes);
        edges.of(38, "Restores the saved state", ChangeEdgesTest::p38Stay);
    }

    private static void fiveHundredAndTwelveCalls() {
        String most = "An object is used for at most 512 calls after it has been made";
        edges.of(30, most, ChangeEdgesTest::lastCallOfGive);
        edges.of(33, most, ChangeEdgesTest::lastCallOfUndo);
        edges.of(38, most, ChangeEdgesTest::lastCallOfRestoreState);
    }

    private static void lastCallOfGive() {
        CountedPost post = Check.loaded("roof a 1 0 0 0;roof b 1 0 0 0;");
        int given = 0;
        while (post.callsLeft() > 1) {
            given++;
            check.is("purse", post.give(1, 1), given);
        }
        check.is("the last call", post.count(12), given);
    }

    private static void lastCallOfUndo() {
        CountedPost post = Check.loaded(Check.PAIR);
        while (post.callsLeft() > 3) {
            post.tick(200 - post.callsLeft() % 7);
            post.undo();
        }
        post.tick(1);
        check.is("one more", post.undo(), 0);
        check.is("the last call", post.count(7), 0);
    }

    private static void lastCallOfRestoreState() {
        CountedPost post = Check.loaded(Check.PAIR);
        post.saveState();
        while (post.callsLeft() > 3) {
            post.give(0, 1);
        }
        check.is("purse", post.roof(0, 3) > 400, true);
        check.is("restored", post.restoreState(), 0);
        check.is("the last call", post.count(12), 30);
    }

    /** The one call is a change and can be undone; the other one throws and is none. */
    private static void isChange(Twins.Treatment change, Twins.Treatment refused) {
        CountedPost post = Check.loaded(Check.ROW);
        for (int changes = 1; changes <= 2; changes++) {
            post.give(3, 1);
        }
        change.on(post);
        check.is("one more", post.count(13), 3);
        Check.thrownBy(() -> refused.on(post));
        check.is("no more", post.count(13), 3);
        check.is("undone", post.undo(), 2);
        Twins.areAlike(check, "undone", Twins.KEPT, Check::lively, other -> {
            Check.lively(other);
            change.on(other);
            check.is("still 8", other.count(13), 8);
            other.undo();
        });
    }

    private static void p28NoRoof() {
        for (int roof : Check.outside(0, 3)) {
            check.isRefused("from " + roof, Check.NO_SUCH, post -> post.send(roof, 0, 1, false));
            check.isRefused("to " + roof, Check.NO_SUCH, post -> post.send(0, roof, 1, true));
        }
        CountedPost post = new CountedPost();
        Check.lively(post);
        check.is("from the first to the last", post.send(0, 3, 1, false), 5);
        check.is("from the last to the first", post.send(3, 0, 1, false), 6);
    }

    private static void p28Same() {
        for (int roof = 0; roof < 4; roof++) {
            int same = roof;
            check.isRefused("from and to " + roof, Check.OUT, post -> post.send(same, same, 1, false));
        }
        CountedPost post = new CountedPost();
        int tunes = 0;
        for (int roof = 0; roof < 4; roof++) {
            for (int goal = 0; goal < 4; goal++) {
                if (roof != goal) {
                    check.is("from " + roof + " to " + goal, post.send(roof, goal, 1, false), tunes);
                    tunes++;
                }
            }
        }
    }

    private static void p28NotesOut() {
        for (int notes : new int[] {-1, -7, -77777777, Check.MIN, 77777778, 77777779, 77777780, 100000000, 111111111, 777777777,
            2000000000, Check.MAX}) {
            check.isRefused("notes " + notes, Check.OUT, post -> post.send(0, 1, notes, false));
        }
        CountedPost post = new CountedPost();
        check.is("0", post.send(0, 1, 0, false), 0);
        check.is("1", post.send(0, 1, 1, false), 1);
        check.is("77777776", post.send(0, 1, 77777776, false), 2);
        check.is("77777777", post.send(0, 1, 77777777, false), 3);
    }

    private static void p28Digits() {
        for (int place = 1; place <= 10000000; place *= 10) {
            for (int digit = 0; digit <= 9; digit++) {
                int notes = 11111111 - place + digit * place;
                if (digit <= 7) {
                    CountedPost post = new CountedPost();
                    check.is("notes " + notes, post.send(0, 1, notes, false), 0);
                } else {
                    check.isThrown("notes " + notes, Check.OUT, () -> new CountedPost().send(0, 1, notes, false));
                }
            }
            int eight = 8 * place;
            int nine = 9 * place;
            check.isRefused("notes " + eight, Check.OUT, post -> post.send(0, 1, eight, false));
            check.isRefused("notes " + nine, Check.OUT, post -> post.send(0, 1, nine, false));
        }
    }

    private static void areNotes(CountedPost post, int tune, String due) {
        check.is("notes of " + due, post.tune(tune, 2), due.length());
        for (int index = 0; index < due.length(); index++) {
            check.is("sent", post.note(tune, index, false), due.charAt(index) - '0');
            check.is("heard", post.note(tune, index, true), due.charAt(index) - '0');
        }
        check.is("no more", post.note(tune, due.length(), false), NONE);
    }

    private static void p28Notes() {
        CountedPost post = new CountedPost();
        int[] notes = {0, 7, 10, 70, 77, 100, 1000, 7654, 10000, 12345, 100000, 1000000, 7777777, 10000000, 70000000, 77777777};
        for (int tune = 0; tune < notes.length; tune++) {
            check.is("number", post.send(0, 1, notes[tune], false), tune);
            areNotes(post, tune, "" + notes[tune]);
        }
    }

    private static void p28ThirtyTunes() {
        CountedPost post = Check.loaded(Check.PAIR);
        for (int tune = 0; tune < 30; tune++) {
            check.is("number", post.send(tune % 2, 1 - tune % 2, 7, true), tune);
        }
        check.isThrown("a 31st", Check.STATE, () -> post.send(0, 1, 1, false));
        check.isThrown("or another", Check.STATE, () -> post.send(1, 0, 77777777, true));
        check.is("tunes", post.count(2), 30);
        post.undo();
        check.is("29 again", post.send(0, 1, 1, false), 29);
        Twins.areAlike(check, "refused", Twins.ALL, other -> fullOfTunes(other, false), other -> fullOfTunes(other, true));
        // tunes that arrived or are lost are tunes, too
        CountedPost old = Check.loaded(Check.PAIR + "roof c 1 0 0 0;");
        Check.play(old, "send a b 1;".repeat(28) + "send a c 1;".repeat(2));
        old.tick(45);
        check.areCounts(old, 3, 1, 30, 0, 0, 28, 2);
        check.isThrown("a 31st", Check.STATE, () -> old.send(0, 1, 1, false));
    }

    private static void fullOfTunes(CountedPost post, boolean tryMore) {
        Check.load(post, Check.PAIR);
        Check.play(post, "send a b 1;".repeat(30));
        if (tryMore) {
            Check.thrownBy(() -> post.send(0, 1, 1, false));
            Check.thrownBy(() -> post.send(1, 0, 2, true));
        }
    }

    private static void p28SinceTheLoad() {
        CountedPost post = new CountedPost();
        fullOfTunes(post, false);
        check.isThrown("a 31st", Check.STATE, () -> post.send(0, 1, 1, false));
        check.is("an error changes nothing", Check.load(post, "roof"), -1);
        check.isThrown("still a 31st", Check.STATE, () -> post.send(0, 1, 1, false));
        Check.load(post, Check.PAIR);
        check.is("the first one since", post.send(0, 1, 1, false), 0);
        check.is("the second one", post.send(0, 1, 1, false), 1);
    }

    private static void p28First() {
        CountedPost post = new CountedPost();
        fullOfTunes(post, false);
        check.isThrown("no such roof, and all else", Check.NO_SUCH, () -> post.send(2, 2, 8, false));
        check.isThrown("no such goal, and notes", Check.NO_SUCH, () -> post.send(0, 2, 8, false));
        check.isThrown("no such goal, and 30 tunes", Check.NO_SUCH, () -> post.send(0, -1, 1, false));
        check.isThrown("the same, and 30 tunes", Check.OUT, () -> post.send(1, 1, 1, false));
        check.isThrown("notes, and 30 tunes", Check.OUT, () -> post.send(0, 1, 8, false));
        check.isThrown("notes out of range, and 30 tunes", Check.OUT, () -> post.send(0, 1, -1, false));
        check.isThrown("30 tunes alone", Check.STATE, () -> post.send(0, 1, 1, false));
        check.isRefused("no such roof, and notes", Check.NO_SUCH, other -> other.send(4, 4, -1, false));
        check.isRefused("no such goal, and a digit", Check.NO_SUCH, other -> other.send(0, -1, 9, false));
    }

    private static void p28Waits() {
        CountedPost post = Check.loaded(Check.PAIR);
        post.tick(7);
        post.send(1, 0, 7070, true);
        check.isTune(post, 0, 1, 0, 4, 0, 1, NONE, 0, 1, 0, 1, 0, 0);
        areNotes(post, 0, "7070");
        check.is("it waits", post.waiting(1, 0), 0);
        post.send(0, 1, 0, false);
        check.isTune(post, 1, 0, 1, 1, 0, 0, NONE, 0, 0, 0, 1, 0, 0);
    }

    private static void p30NoRoof() {
        for (int roof : Check.outside(0, 3)) {
            check.isRefused("roof " + roof, Check.NO_SUCH, post -> post.give(roof, 1));
        }
        CountedPost post = new CountedPost();
        check.is("the first", post.give(0, 1), 31);
        check.is("the last", post.give(3, 1), 41);
    }

    private static void p30CoinsOut() {
        for (int coins : new int[] {0, -1, -99, 100, 101, 255, 256, 257, Check.MIN, Check.MAX}) {
            check.isRefused("coins " + coins, Check.OUT, post -> post.give(1, coins));
        }
        for (int coins = 1; coins <= 99; coins++) {
            CountedPost post = new CountedPost();
            check.is("coins " + coins, post.give(2, coins), 9 + coins);
            check.is("purse", post.roof(2, 3), 9 + coins);
            check.is("account", post.account(10), coins);
            check.is("all purses", post.count(12), 99 + coins);
        }
    }

    private static void purseOf(CountedPost post, int purse) {
        Check.load(post, "roof a 1 0 9 999;roof b 1 0 0 999;way a b 1;");
        for (int rest = purse - 999; rest > 0; rest -= 99) {
            post.give(0, Math.min(rest, 99));
        }
    }

    private static void p30PurseAbove() {
        for (int purse : new int[] {9899, 9900, 9901, 9950, 9998, 9999}) {
            for (int coins : new int[] {1, 2, 49, 50, 98, 99}) {
                CountedPost post = new CountedPost();
                purseOf(post, purse);
                if (purse + coins <= 9999) {
                    check.is(coins + " to " + purse, post.give(0, coins), purse + coins);
                } else {
                    check.isThrown(coins + " to " + purse, Check.STATE, () -> post.give(0, coins));
                    check.is("purse", post.roof(0, 3), purse);
                    Twins.areAlike(check, "refused", Twins.ALL, other -> purseOf(other, purse), other -> {
                        purseOf(other, purse);
                        Check.thrownBy(() -> other.give(0, coins));
                    });
                }
                check.is("the other one", post.give(1, coins), 999 + coins);
            }
        }
    }

    /** A fee has no such limit; no coin can be given to the purse that it made. */
    private static void p30PurseByFees() {
        for (int purse = 9989; purse <= 9999; purse++) {
            CountedPost post = Check.loaded("roof a 8 9 9 999;roof b 8 9 0 9;roof c 8 9 0 0;way b a 1;way a c 1;");
            for (int rest = purse - 999; rest > 0; rest -= 99) {
                post.give(0, Math.min(rest, 99));
            }
            post.send(1, 2, 1, false);
            post.tick(3);
            check.is("b has paid", post.roof(1, 3), 0);
            check.is("a has it", post.roof(0, 3), purse + 9);
            if (purse + 10 <= 9999) {
                check.is("one more", post.give(0, 1), purse + 10);
            } else {
                check.isThrown("one more", Check.STATE, () -> post.give(0, 1));
                check.is("purse", post.roof(0, 3), purse + 9);
            }
        }
    }

    private static void p30First() {
        CountedPost post = new CountedPost();
        purseOf(post, 9999);
        check.isThrown("no such roof, and coins", Check.NO_SUCH, () -> post.give(2, 0));
        check.isThrown("no such roof, and coins", Check.NO_SUCH, () -> post.give(-1, 100));
        check.isThrown("coins, and the purse", Check.OUT, () -> post.give(0, 100));
        check.isThrown("the purse alone", Check.STATE, () -> post.give(0, 99));
        check.is("purse", post.roof(0, 3), 9999);
    }

    private static void p31NoRoof() {
        for (int roof : Check.outside(0, 3)) {
            check.isRefused("from " + roof, Check.NO_SUCH, post -> post.cut(roof, 0));
            check.isRefused("to " + roof, Check.NO_SUCH, post -> post.cut(0, roof));
            check.isRefused("from and to " + roof, Check.NO_SUCH, post -> post.cut(roof, roof));
        }
    }

    private static void p31NoWay() {
        int[][] pairs = {{0, 2}, {2, 0}, {0, 3}, {3, 0}, {1, 3}, {3, 2}, {0, 0}, {1, 1}, {3, 3}};
        for (int[] pair : pairs) {
            check.isRefused("from " + pair[0] + " to " + pair[1], Check.STATE, post -> post.cut(pair[0], pair[1]));
        }
        CountedPost post = new CountedPost();
        Check.lively(post);
        check.is("from ann to bob", post.cut(0, 1), 1);
        check.isThrown("again", Check.STATE, () -> post.cut(0, 1));
        check.isThrown("turned", Check.STATE, () -> post.cut(1, 0));
        check.is("from cid to bob", post.cut(2, 1), 0);
        check.isThrown("no way is left", Check.STATE, () -> post.cut(1, 2));
    }

    private static void p31Left() {
        CountedPost post = Check.loaded(Check.tenRoofs() + Check.ways(20));
        for (int left = 19; left >= 0; left--) {
            int one = post.way(left / 2, 0);
            int other = post.way(left / 2, 1);
            check.is("left", left % 2 == 0 ? post.cut(one, other) : post.cut(other, one), left);
            check.is("ways", post.count(1), left);
        }
        check.is("no way", post.dearestWay(), NONE);
    }

    private static void p31Air() {
        for (int far = 1; far <= 9; far++) {
            String text = "roof a 8 0 0 0;roof b 8 0 0 0;roof c 8 0 0 0;way a b " + far + ";wind 9;again 0;";
            CountedPost post = Check.loaded(text);
            post.send(0, 1, 11111111, false);
            post.send(0, 1, 11111111, false);
            post.tick(1);
            post.cut(1, 0);
            check.is("it stays in the air", post.tune(0, 5), 2 + far);
            check.is("one waits", post.tune(1, 3), 0);
            check.is("it will come", post.arrivesIn(0), 1 + far);
            check.is("not yet", post.tick(far), 0);
            check.is("it comes all the same", post.tick(1), 1);
            check.is("by FAR as it was", post.tune(0, 10), 9 * far / 10);
            check.is("the other one is lost", post.tune(1, 3), 3);
        }
        // the way behind the cut one takes its number, but not its FAR
        CountedPost two = Check.loaded("roof a 8 0 0 0;roof b 8 0 0 0;roof c 8 0 0 0;way a b 9;way a c 1;wind 9;again 0;");
        two.send(0, 1, 11111111, false);
        two.tick(1);
        two.cut(0, 1);
        two.tick(10);
        check.is("by FAR 9", two.tune(0, 10), 8);
    }

    private static void p31First() {
        check.isRefused("no such roof, and no way", Check.NO_SUCH, post -> post.cut(4, 3));
        check.isRefused("no such roof, and no way", Check.NO_SUCH, post -> post.cut(3, 4));
        check.isRefused("no way alone", Check.STATE, post -> post.cut(3, 0));
    }

    private static void p32WhatOut() {
        for (int what : new int[] {7, 11, 0, 1, 2, 3, 6, 12, 13, -1, Check.MIN, Check.MAX}) {
            check.isRefused("what " + what, Check.OUT, post -> post.set(what, 1));
        }
        CountedPost post = new CountedPost();
        for (int what = 8; what <= 10; what++) {
            post.set(what, 1);
            check.is("setting " + what, post.count(what), 1);
        }
    }

    private static void p32ValueOut() {
        int[] least = {0, 1, 0};
        int[] most = {9, 60, 3};
        for (int setting = 0; setting < 3; setting++) {
            int what = 8 + setting;
            for (int value : Check.outside(least[setting], most[setting])) {
                check.isRefused("setting " + what + " to " + value, Check.OUT, post -> post.set(what, value));
            }
            CountedPost post = new CountedPost();
            for (int value = least[setting]; value <= most[setting]; value++) {
                post.set(what, value);
                check.is("setting " + what, post.count(what), value);
            }
        }
        check.areCounts(new CountedPost(), 4, 4, 0, 0, 0, 0, 0, 0, 3, 50, 1);
    }

    private static void p32Before() {
        CountedPost post = new CountedPost();
        int[] first = {3, 50, 1};
        int[] least = {0, 1, 0};
        int[] most = {9, 60, 3};
        for (int setting = 0; setting < 3; setting++) {
            int what = 8 + setting;
            check.is("at first", post.set(what, most[setting]), first[setting]);
            check.is("the most", post.set(what, least[setting]), most[setting]);
            check.is("the least", post.set(what, least[setting]), least[setting]);
            check.is("the same", post.set(what, first[setting]), least[setting]);
        }
    }

    private static void p33None() {
        CountedPost post = new CountedPost();
        check.isThrown("a new post", Check.NOTHING, post::undo);
        post.give(0, 1);
        check.is("one", post.undo(), 0);
        check.isThrown("no more", Check.NOTHING, post::undo);
        check.is("purse", post.roof(0, 3), 30);
        Twins.areAlike(check, "refused", Twins.ALL, ChangeEdgesTest::restored, other -> {
            restored(other);
            check.isThrown("behind restoreState", Check.NOTHING, other::undo);
        });
        Twins.areAlike(check, "refused", Twins.ALL, other -> Check.load(other, Check.PAIR), other -> {
            Check.load(other, Check.PAIR);
            check.isThrown("behind a load", Check.NOTHING, other::undo);
        });
    }

    private static void restored(CountedPost post) {
        Check.lively(post);
        post.restoreState();
    }

    private static void p33AtMostEight() {
        for (int changes = 0; changes <= 20; changes++) {
            CountedPost post = Check.loaded(Check.PAIR);
            for (int i = 0; i < changes; i++) {
                post.give(0, 1);
            }
            int kept = Math.min(8, changes);
            check.is("kept", post.count(13), kept);
            for (int left = kept - 1; left >= 0; left--) {
                check.is("left", post.undo(), left);
                check.is("purse", post.roof(0, 3), 10 + changes - kept + left);
            }
            check.isThrown("no more", Check.NOTHING, post::undo);
            check.is("put away for good", post.roof(0, 3), 10 + changes - kept);
        }
    }

    private static void p33KeptNoMore() {
        CountedPost post = Check.loaded(Check.PAIR);
        for (int i = 0; i < 10; i++) {
            post.give(0, 1);
        }
        for (int i = 0; i < 3; i++) {
            post.undo();
        }
        check.is("five are left", post.count(13), 5);
        post.give(1, 5);
        check.is("six", post.count(13), 6);
        check.is("that one is undone", post.undo(), 5);
        check.is("purse of b", post.roof(1, 3), 20);
        check.is("purse of a", post.roof(0, 3), 17);
        for (int left = 4; left >= 0; left--) {
            check.is("left", post.undo(), left);
        }
        check.is("the first two were put away", post.roof(0, 3), 12);
        check.isThrown("no more", Check.NOTHING, post::undo);
    }

    /** Each kind of change, alone behind a lively post, is undone as if it had not been. */
    private static void p33EachChange() {
        Twins.Treatment[] changes = {post -> post.send(0, 1, 7, true), post -> post.tick(1), post -> post.tick(200),
            post -> post.give(3, 99), post -> post.cut(1, 2), post -> post.set(8, 9), post -> post.set(9, 1),
            post -> post.set(10, 0), post -> playAll(post)};
        for (int i = 0; i < changes.length; i++) {
            Twins.Treatment change = changes[i];
            Twins.areAlike(check, "change " + i + ", undone", Twins.KEPT, Check::lively, post -> {
                Check.lively(post);
                post.truncateInput(0);
                change.on(post);
                check.is("left", post.undo(), 7);
            });
        }
    }

    private static void playAll(CountedPost post) {
        check.is("play", Check.play(post, "tick 3;send ann bob 1;ask cid bob 2;give dot 9;cut ann bob;wind 0;dusk 9;again 0;tick 99;"), 9);
    }

    private static void p33Stay() {
        CountedPost post = new CountedPost();
        Check.lively(post);
        String output = Check.output(post);
        check.is("bytes", output.length() > 20, true);
        for (int left = 7; left >= 0; left--) {
            check.is("undo", post.undo(), left);
            check.isText("the output stays", Check.output(post), output);
            check.is("the error stays", post.errorCode(), WhistlePosts.OUT_OF_RANGE);
            check.is("its offset, too", post.errorOffset(), 5);
        }
        check.is("the input stays", Check.lengthOfInput(post), 7);
        check.is("as it was", post.playScript(), 1);
        check.is("wind 1", post.count(8), 1);
        Twins.areAlike(check, "the saved state stays", java.util.EnumSet.of(Twins.Part.SAVED), Check::lively, other -> {
            Check.lively(other);
            for (int i = 0; i < 8; i++) {
                other.undo();
            }
        });
    }

    private static void p33StillUndone() {
        CountedPost post = Check.loaded(Check.PAIR);
        for (int changes = 1; changes <= 8; changes++) {
            post.give(0, 1);
            check.is("one less", post.undo(), changes - 1);
            post.give(0, 1);
        }
        check.is("eight", post.count(13), 8);
        post.give(0, 1);
        check.is("of nine, one is away", post.undo(), 7);
    }

    private static void p37Tunes() {
        CountedPost post = Check.loaded(Check.PAIR);
        check.is("none", post.saveState(), 0);
        for (int tunes = 1; tunes <= 30; tunes++) {
            post.send(0, 1, 1, false);
            check.is("tunes", post.saveState(), tunes);
        }
    }

    private static void p37InPlace() {
        CountedPost post = Check.loaded(Check.PAIR);
        post.saveState();
        post.give(0, 1);
        post.saveState();
        post.give(0, 2);
        check.is("the later one", post.restoreState(), 0);
        check.is("purse", post.roof(0, 3), 11);
        post.restoreState();
        check.is("the earlier one is gone", post.roof(0, 3), 11);
    }

    /** What saveState saves is all of a lively post, whatever is done in between. */
    private static void p37Everything() {
        Twins.areAlike(check, "saved and restored", Twins.KEPT, Check::lively, post -> {
            Check.lively(post);
            post.saveState();
            post.truncateInput(0);
            playAll(post);
            post.tick(100);
            post.restoreState();
        });
        Twins.areAlike(check, "saved and restored in the end", Twins.KEPT, ChangeEdgesTest::ended, post -> {
            ended(post);
            post.saveState();
            post.give(0, 1);
            Check.load(post, "roof");
            for (int i = 0; i < 8; i++) {
                post.undo();
            }
            post.restoreState();
        });
    }

    /** A post with the most of all: ten roofs, twenty ways, thirty tunes. */
    private static void ended(CountedPost post) {
        Check.load(post, Check.tenRoofs().replace("0 0 0;", "0 1 99;") + Check.ways(20) + "dusk 60;");
        Check.play(post, "ask a j 1 2 3 4 5;send j b 7;".repeat(15));
        for (int i = 0; i < 9; i++) {
            post.tick(1);
        }
    }

    private static void p37IsNoChange() {
        for (int changes = 0; changes <= 8; changes++) {
            CountedPost post = Check.loaded(Check.PAIR);
            for (int i = 0; i < changes; i++) {
                post.give(0, 1);
            }
            post.saveState();
            check.is("changes", post.count(13), changes);
        }
        Twins.areAlike(check, "saveState", java.util.EnumSet.range(Twins.Part.COUNTS, Twins.Part.CHANGES), Check::lively, post -> {
            Check.lively(post);
            post.saveState();
        });
    }

    private static void p38NoneSaved() {
        CountedPost post = new CountedPost();
        check.isThrown("a new post", Check.NOTHING, post::restoreState);
        post.give(0, 1);
        check.isThrown("behind a change", Check.NOTHING, post::restoreState);
        check.is("it can still be undone", post.count(13), 1);
        check.is("purse", post.roof(0, 3), 31);
        post.saveState();
        check.is("one is saved", post.restoreState(), 0);
        check.is("a load that fails", Check.load(post, "roof a"), -1);
        check.is("leaves it", post.restoreState(), 0);
        check.is("a load", Check.load(post, Check.PAIR), 1);
        check.isThrown("puts it away", Check.NOTHING, post::restoreState);
        Twins.areAlike(check, "refused", Twins.ALL, ChangeEdgesTest::unsaved, other -> {
            unsaved(other);
            check.isThrown("none is saved", Check.NOTHING, other::restoreState);
        });
    }

    private static void unsaved(CountedPost post) {
        Check.load(post, Check.PAIR);
        Check.play(post, "send a b 1;give a 7;tick 1;");
        post.set(8, 9);
        post.printRoofs();
        Check.appendBlanks(post);
    }

    private static void p38StaysSaved() {
        CountedPost post = Check.loaded(Check.PAIR);
        post.send(0, 1, 1, false);
        post.saveState();
        for (int i = 0; i < 10; i++) {
            post.send(0, 1, 1, false);
            post.tick(i + 1);
            post.cut(0, 1);
            post.give(1, 9);
            check.is("restored", post.restoreState(), 1);
            check.is("time", post.count(7), 0);
            check.is("ways", post.count(1), 1);
            check.is("purses", post.count(12), 30);
            check.is("tune", post.tune(0, 3), 0);
        }
    }

    private static void p38NothingToUndo() {
        for (int changes = 0; changes <= 9; changes++) {
            CountedPost post = Check.loaded(Check.PAIR);
            post.saveState();
            for (int i = 0; i < changes; i++) {
                post.give(0, 1);
            }
            post.restoreState();
            check.is("none", post.count(13), 0);
            check.isThrown("nothing", Check.NOTHING, post::undo);
            post.give(0, 1);
            check.is("one behind it", post.count(13), 1);
            check.is("undone", post.undo(), 0);
            check.is("purse", post.roof(0, 3), 10);
        }
    }

    private static void p38Tunes() {
        for (int tunes : new int[] {0, 1, 29, 30}) {
            CountedPost post = Check.loaded(Check.PAIR);
            for (int i = 0; i < tunes; i++) {
                post.send(0, 1, 1, true);
            }
            post.saveState();
            post.tick(20);
            check.is("tunes", post.restoreState(), tunes);
            check.is("tunes", post.count(2), tunes);
            if (tunes < 30) {
                check.is("the next one", post.send(0, 1, 1, false), tunes);
            } else {
                check.isThrown("a 31st", Check.STATE, () -> post.send(0, 1, 1, false));
            }
        }
    }

    private static void p38Stay() {
        Twins.areAlike(check, "restoreState", java.util.EnumSet.range(Twins.Part.SAVED, Twins.Part.INPUT), Check::lively, ChangeEdgesTest::restored);
    }
}
