/** The edges of promise 29 and of sections 1 to 3, which say what a tick does: each sentence, with its neighbours. */
public final class TickEdgesTest {
    private static final Check check = new Check();
    private static final Edges edges = new Edges(check);

    private static final int NONE = WhistlePosts.NONE;

    private TickEdgesTest() {
    }

    public static void main(String[] args) {
        calls();
        hops();
        goals();
        whistling();
        losses();
        edges.coverPromises(29, 29);
        check.end();
    }

    private static void calls() {
        edges.of(29, "Throws IllegalArgumentException if ticks is out of range", TickEdgesTest::ticksOut);
        edges.of(29, "Throws IllegalStateException if TIME would be above 9999", TickEdgesTest::timeAbove);
        edges.of(29, "If several exceptions apply to a call, the one that is listed first is thrown", TickEdgesTest::firstListed);
        edges.of(29, "Changes are the methods whose description says so, if they succeed", TickEdgesTest::isOneChange);
        edges.of(29, "Returns TUNES that ARRIVED in them", TickEdgesTest::arrivedInThem);
        edges.of(29, "TIME becomes 1 more", TickEdgesTest::timeGoesBy);
    }

    private static void hops() {
        edges.of(29, "Each TUNE in the AIR with END TIME, by number, comes to the ROOF to which it was whistled", TickEdgesTest::end);
        edges.of(29, "less 3 times EAR of that ROOF, 0 at least", TickEdgesTest::zeroAtLeast);
        edges.of(29, "divided by 10", TickEdgesTest::dividedByTen);
        edges.of(29, "but not more than its NOTES", TickEdgesTest::notMoreThanNotes);
        edges.of(29, "WRONG of this hop is WIND times FAR of the WAY", TickEdgesTest::allWrong);
        edges.of(29, "from the one numbered (its number modulo its NOTES) on", TickEdgesTest::fromItsNumberOn);
        edges.of(29, "and behind the last one the first one again", TickEdgesTest::behindTheLast);
        edges.of(29, "become HEARD as 1 more, behind 7 comes 0", TickEdgesTest::behindSeven);
        edges.of(29, "If the ROOF is not its GOAL, it waits there", TickEdgesTest::waitsThere);
    }

    private static void goals() {
        edges.of(29, "if HEARD is not as SENT, and TRIES are below AGAIN", TickEdgesTest::triesBelowAgain);
        edges.of(29, "TRIES become 1 more, HEARD is as SENT, and it waits at its sender again", TickEdgesTest::atItsSender);
        edges.of(29, "behind 7 comes 0", TickEdgesTest::eightHopsAround);
        edges.of(29, "if it WANTS a REPLY, HEARD is as SENT", TickEdgesTest::replyIfAsSent);
        edges.of(29, "there are fewer than 30 TUNES", TickEdgesTest::fewerThanThirty);
        edges.of(29, "with the NOTES in the order from the last to the first", TickEdgesTest::turned);
        edges.of(29, "which WANTS none", TickEdgesTest::wantsNone);
    }

    private static void whistling() {
        edges.of(29, "If the rest of TIME divided by 60 is below DUSK", TickEdgesTest::dusk);
        edges.of(29, "whose whistler is not BUSY", TickEdgesTest::notBusy);
        edges.of(29, "(if there is one that can be)", TickEdgesTest::noneThatCanBe);
        edges.of(29, "whose sender has FEE of this ROOF times BARS in its PURSE", TickEdgesTest::fee);
        edges.of(29, "the one with the greatest BARS, of several the one with the smallest number", TickEdgesTest::greatestBars);
        edges.of(29, "The whistler is BUSY for NOTES by BREATH ticks (rounded up), until TIME and these", TickEdgesTest::roundedUp);
        edges.of(29, "with END that and FAR of the WAY together", TickEdgesTest::endAndFar);
        edges.of(29, "of those whose NEXT ROOF there is", TickEdgesTest::nextThereIs);
        edges.of(29, "This fee goes from PURSE of the sender to that of the ROOF", TickEdgesTest::feeGoes);
    }

    private static void losses() {
        edges.of(29, "Each TUNE that waits at a ROOF from which there is no route to its GOAL is LOST", TickEdgesTest::lost);
        edges.of(29, "Each TUNE that waits at a ROOF", TickEdgesTest::lostWhileItWaits);
    }

    private static CountedPost atTime(int time, String text) {
        CountedPost post = Check.loaded(text);
        for (int rest = time; rest > 0; rest -= 200) {
            post.tick(Math.min(rest, 200));
        }
        return post;
    }

    private static void ticksOut() {
        for (int ticks : new int[] {0, -1, -200, 201, 202, 400, 256, Check.MIN, Check.MAX}) {
            check.isRefused("ticks " + ticks, Check.OUT, post -> post.tick(ticks));
        }
        for (int ticks : new int[] {1, 2, 199, 200}) {
            CountedPost post = new CountedPost();
            check.is("ticks " + ticks, post.tick(ticks), 0);
            check.is("time", post.count(7), ticks);
        }
    }

    private static void timeAbove() {
        for (int time : new int[] {9798, 9799, 9800, 9899, 9997, 9998, 9999}) {
            for (int ticks : new int[] {1, 2, 3, 99, 100, 101, 199, 200}) {
                CountedPost post = atTime(time, Check.PAIR);
                post.send(0, 1, 1, false);
                if (time + ticks <= 9999) {
                    post.tick(ticks);
                    check.is("time", post.count(7), time + ticks);
                } else {
                    check.isThrown(ticks + " at " + time, Check.STATE, () -> post.tick(ticks));
                    check.is("time", post.count(7), time);
                    check.is("ticks", post.account(0), time);
                    check.is("the tune waits", post.tune(0, 3), 0);
                }
            }
        }
        Twins.areAlike(check, "refused", Twins.ALL, TickEdgesTest::late, post -> {
            late(post);
            check.isThrown("one more", Check.STATE, () -> post.tick(3));
        });
    }

    private static void late(CountedPost post) {
        Check.load(post, Check.PAIR);
        for (int i = 0; i < 49; i++) {
            post.tick(200);
        }
        post.tick(197);
        post.send(0, 1, 1, true);
        post.saveState();
        post.send(1, 0, 2, false);
    }

    private static void firstListed() {
        CountedPost post = atTime(9999, Check.PAIR);
        check.isThrown("too many, and too late", Check.OUT, () -> post.tick(201));
        check.isThrown("none, and too late", Check.OUT, () -> post.tick(0));
        check.isThrown("the greatest", Check.OUT, () -> post.tick(Check.MAX));
        check.isThrown("too late alone", Check.STATE, () -> post.tick(200));
        check.isThrown("too late by one", Check.STATE, () -> post.tick(1));
        check.is("time", post.count(7), 9999);
    }

    private static void isOneChange() {
        CountedPost post = Check.loaded(Check.PAIR);
        post.tick(200);
        check.is("one change", post.count(13), 1);
        post.tick(1);
        check.is("two", post.count(13), 2);
        Check.thrownBy(() -> post.tick(0));
        check.is("a refused one is none", post.count(13), 2);
        check.is("undone", post.undo(), 1);
        check.is("time", post.count(7), 200);
        check.is("undone together", post.undo(), 0);
        check.is("time", post.count(7), 0);
    }

    private static void arrivedInThem() {
        CountedPost post = Check.loaded(Check.PAIR);
        Check.play(post, "send a b 1;".repeat(30));
        check.is("none in two", post.tick(2), 0);
        check.is("one in the third", post.tick(1), 1);
        check.is("two in two", post.tick(2), 2);
        check.is("the rest", post.tick(200), 27);
        check.is("none any more", post.tick(200), 0);
        CountedPost all = Check.loaded(Check.PAIR);
        Check.play(all, "send a b 1;".repeat(30));
        check.is("all at once", all.tick(200), 30);
        CountedPost lost = Check.loaded("roof a 1 0 0 0;roof b 1 0 0 0;");
        lost.send(0, 1, 1, false);
        check.is("one that is lost did not arrive", lost.tick(1), 0);
    }

    private static void timeGoesBy() {
        CountedPost post = Check.loaded(Check.PAIR);
        int time = 0;
        for (int ticks : new int[] {1, 1, 2, 50, 199, 200}) {
            post.tick(ticks);
            time += ticks;
            check.is("time", post.count(7), time);
            check.is("account", post.account(0), time);
        }
    }

    private static void end() {
        for (int far = 1; far <= 9; far++) {
            CountedPost post = Check.loaded("roof a 8 9 0 0;roof b 8 9 0 0;way a b " + far + ";");
            post.send(0, 1, 1, false);
            check.is("not before its end", post.tick(1 + far), 0);
            check.is("in the air", post.tune(0, 3), 1);
            check.is("at its end", post.tick(1), 1);
            check.is("arrived", post.tune(0, 3), 2);
            check.is("not again", post.tick(1), 0);
            check.is("account", post.account(5), 1);
        }
        // two that come in the same tick: by number, so that the one with the smaller number is answered first
        CountedPost two = Check.loaded("roof a 8 9 0 0;roof b 8 9 0 0;way a b 1;");
        two.send(1, 0, 1, true);
        two.send(0, 1, 2, true);
        check.is("both", two.tick(3), 2);
        check.is("the first reply", two.note(2, 0, false), 1);
        check.is("the second reply", two.note(3, 0, false), 2);
    }

    /** A hop of a tune with so many notes; the account of wrong notes tells what became of it. */
    private static int wrongNotes(int wind, int far, int ear, int notes) {
        CountedPost post = Check.loaded("roof a 8 0 0 0;roof b 8 " + ear + " 0 0;way a b " + far + ";again 0;");
        post.set(8, wind);
        post.send(0, 1, Integer.parseInt("77777777".substring(8 - notes)), false);
        check.is("it arrived", post.tick(2 + far), 1);
        check.is("unlike", post.tune(0, 10), post.account(4));
        check.is("right", post.account(6), post.account(4) == 0 ? 1 : 0);
        return post.account(4);
    }

    private static void zeroAtLeast() {
        check.is("0 less 3", wrongNotes(0, 9, 1, 8), 0);
        check.is("0 less 27", wrongNotes(0, 1, 9, 8), 0);
        check.is("1 less 27", wrongNotes(1, 1, 9, 8), 0);
        check.is("9 less 27", wrongNotes(9, 1, 9, 8), 0);
        check.is("16 less 27", wrongNotes(2, 8, 9, 8), 0);
        check.is("27 less 27", wrongNotes(9, 3, 9, 8), 0);
        check.is("36 less 27", wrongNotes(9, 4, 9, 8), 0);
        check.is("40 less 27", wrongNotes(8, 5, 9, 8), 1);
        check.is("0 less 0", wrongNotes(0, 9, 0, 8), 0);
    }

    private static void dividedByTen() {
        check.is("9", wrongNotes(9, 1, 0, 8), 0);
        check.is("10", wrongNotes(5, 2, 0, 8), 1);
        check.is("12 less 3", wrongNotes(3, 4, 1, 8), 0);
        check.is("16 less 6", wrongNotes(4, 4, 2, 8), 1);
        check.is("14 less 3", wrongNotes(2, 7, 1, 8), 1);
        check.is("28 less 9", wrongNotes(4, 7, 3, 8), 1);
        check.is("20", wrongNotes(5, 4, 0, 8), 2);
        check.is("24 less 3", wrongNotes(6, 4, 1, 8), 2);
        check.is("72 less 3", wrongNotes(9, 8, 1, 8), 6);
        check.is("72", wrongNotes(9, 8, 0, 8), 7);
        check.is("81 less 3", wrongNotes(9, 9, 1, 8), 7);
        check.is("81", wrongNotes(9, 9, 0, 8), 8);
    }

    private static void notMoreThanNotes() {
        for (int notes = 1; notes <= 8; notes++) {
            check.is("8 of " + notes, wrongNotes(9, 9, 0, notes), notes);
            check.is("7 of " + notes, wrongNotes(9, 8, 0, notes), Math.min(7, notes));
            check.is("4 of " + notes, wrongNotes(8, 5, 0, notes), Math.min(4, notes));
            check.is("1 of " + notes, wrongNotes(5, 2, 0, notes), 1);
            check.is("0 of " + notes, wrongNotes(3, 3, 0, notes), 0);
        }
    }

    private static void allWrong() {
        for (int wind = 0; wind <= 9; wind++) {
            for (int far = 1; far <= 9; far++) {
                for (int ear = 0; ear <= 9; ear++) {
                    int gust = Math.max(0, wind * far - 3 * ear) / 10;
                    check.is("by " + wind + ", " + far + ", " + ear, wrongNotes(wind, far, ear, 8), Math.min(8, gust));
                    check.is("of 2 by " + wind + ", " + far + ", " + ear, wrongNotes(wind, far, ear, 2), Math.min(2, gust));
                }
            }
        }
    }

    /** Sends so many tunes of so many notes 0, of which so many become wrong, and tells how the last one is heard. */
    private static void isHeardAs(int number, int notes, int wrong, String due) {
        String[] winds = {"", "2", "4", "6", "8", "9", "9", "8", "9"};
        String[] fars = {"", "5", "5", "5", "5", "6", "7", "9", "9"};
        CountedPost post = Check.loaded("roof a 8 0 0 0;roof b 8 0 0 0;way a b " + fars[wrong] + ";wind " + winds[wrong]
            + ";again 0;dusk 60;");
        String tune = "send a b" + " 0".repeat(notes) + ";";
        for (int i = 0; i <= number; i++) {
            check.is("sent", Check.play(post, tune), 1);
        }
        post.tick(60);
        check.is("arrived", post.tune(number, 3), 2);
        check.isHeard(post, number, due + ">b");
    }

    private static void fromItsNumberOn() {
        for (int notes = 1; notes <= 8; notes++) {
            for (int number : new int[] {0, 1, notes - 1, notes, notes + 1, 2 * notes - 1, 2 * notes, 15}) {
                StringBuilder due = new StringBuilder();
                for (int i = 0; i < notes; i++) {
                    due.append(i == number % notes ? "1'" : "0");
                }
                isHeardAs(number, notes, 1, due.toString());
            }
        }
    }

    private static void behindTheLast() {
        isHeardAs(0, 4, 2, "1'1'00");
        isHeardAs(1, 4, 2, "01'1'0");
        isHeardAs(2, 4, 2, "001'1'");
        isHeardAs(3, 4, 2, "1'001'");
        isHeardAs(4, 4, 2, "1'1'00");
        isHeardAs(5, 4, 3, "01'1'1'");
        isHeardAs(6, 4, 3, "1'01'1'");
        isHeardAs(7, 4, 3, "1'1'01'");
        isHeardAs(7, 8, 1, "00000001'");
        isHeardAs(7, 8, 2, "1'0000001'");
        isHeardAs(6, 8, 7, "1'1'1'1'1'01'1'");
        isHeardAs(8, 8, 7, "1'1'1'1'1'1'1'0");
        isHeardAs(7, 8, 8, "1'1'1'1'1'1'1'1'");
        isHeardAs(1, 2, 1, "01'");
        isHeardAs(1, 2, 2, "1'1'");
        isHeardAs(1, 2, 8, "1'1'");
        isHeardAs(5, 1, 8, "1'");
        isHeardAs(29, 8, 4, "1'00001'1'1'");
        isHeardAs(29, 7, 1, "01'00000");
    }

    private static void behindSeven() {
        CountedPost post = Check.loaded("roof a 8 0 0 0;roof b 8 0 0 0;way a b 9;wind 9;again 0;dusk 60;");
        post.send(0, 1, 70654321, false);
        post.tick(11);
        check.isHeard(post, 0, "0'1'7'6'5'4'3'2'>b");
        check.is("all unlike", post.tune(0, 10), 8);
        for (int note = 0; note <= 7; note++) {
            post.send(0, 1, note, false);
            post.tick(11);
            check.isHeard(post, note + 1, (note + 1) % 8 + "'>b");
        }
    }

    private static void waitsThere() {
        // b is not the goal: what is wrong there is not sent anew there
        CountedPost post = Check.loaded("roof a 8 0 0 0;roof b 8 0 1 0;roof c 8 0 0 0;way a b 5;way b c 5;again 3;");
        post.send(0, 2, 1111, false);
        post.tick(6);
        check.is("in the air", post.tune(0, 3), 1);
        post.tick(1);
        check.isTune(post, 0, 0, 2, 4, 0, 1, NONE, 0, 0, 0, 1, 1, 1);
        check.isHeard(post, 0, "2'111>c");
        check.is("at b", post.waiting(1, 0), 0);
        check.is("not at a", post.waiting(0, 0), NONE);
        check.is("not anew", post.account(7), 0);
        // where it can be paid, it is whistled in the same tick
        CountedPost on = Check.loaded("roof a 8 0 0 0;roof b 8 0 0 0;roof c 8 0 0 0;way a b 5;way b c 5;again 3;");
        on.send(0, 2, 1111, false);
        on.tick(7);
        check.isTune(on, 0, 0, 2, 4, 1, 2, 13, 0, 0, 0, 1, 1, 2);
    }

    private static void triesBelowAgain() {
        for (int again = 0; again <= 3; again++) {
            CountedPost post = Check.loaded("roof a 8 0 0 0;roof b 8 0 0 0;way a b 5;wind 2;again " + again + ";");
            post.send(0, 1, 1, false);
            post.tick(1);
            for (int tries = 1; tries <= again; tries++) {
                check.is("not arrived", post.tick(6), 0);
                check.is("tries", post.tune(0, 8), tries);
                check.is("account", post.account(7), tries);
            }
            check.is("in the air", post.tick(5), 0);
            check.is("arrived", post.tick(1), 1);
            check.is("tries", post.tune(0, 8), again);
            check.is("wrong", post.account(4), again + 1);
            check.is("not right", post.account(6), 0);
            check.isHeard(post, 0, "2'>b");
        }
        // AGAIN as it is then: above, at and below the tries so far
        for (int later = 0; later <= 3; later++) {
            CountedPost post = Check.loaded("roof a 8 0 0 0;roof b 8 0 0 0;way a b 5;wind 2;again 3;");
            post.send(0, 1, 1, false);
            post.tick(13);
            check.is("tries", post.tune(0, 8), 2);
            post.set(10, later);
            check.is("arrived", post.tick(6), later <= 2 ? 1 : 0);
            check.is("tries then", post.tune(0, 8), later <= 2 ? 2 : 3);
        }
        // as sent, it arrives whatever AGAIN is
        CountedPost right = Check.loaded("roof a 8 0 0 0;roof b 8 0 0 0;way a b 5;wind 1;again 3;");
        right.send(0, 1, 1, false);
        check.is("arrived", right.tick(7), 1);
        check.is("no tries", right.tune(0, 8), 0);
    }

    private static void atItsSender() {
        CountedPost post = Check.loaded("roof a 8 0 0 0;roof b 8 0 0 0;roof c 8 0 0 0;way a b 5;way b c 5;wind 2;dusk 10;again 1;");
        post.send(0, 2, 6543, true);
        post.tick(13);
        check.isTune(post, 0, 0, 2, 4, 0, 0, NONE, 0, 1, 1, 1, 0, 2);
        check.isHeard(post, 0, "6543>c");
        check.is("at a", post.waiting(0, 0), 0);
        check.is("sent anew", post.account(7), 1);
        check.is("no tune more", post.count(2), 1);
        check.is("account 1", post.account(1), 1);
        // in the tick that sends it anew it is whistled, if it can be
        CountedPost same = Check.loaded("roof a 8 0 0 0;roof b 8 0 0 0;way a b 5;wind 2;again 1;");
        same.send(0, 1, 1, false);
        same.tick(7);
        check.isTune(same, 0, 0, 1, 1, 1, 1, 13, 0, 0, 1, 1, 0, 2);
    }

    /** Each hop makes the only note 1 more: behind eight hops it is as sent again, behind seven and nine it is not. */
    private static void eightHopsAround() {
        for (int goal = 1; goal <= 9; goal++) {
            for (int note = 0; note <= 7; note++) {
                CountedPost line = Check.loaded(Check.tenRoofs() + Check.ways(9).replace(" 1;", " 5;") + "wind 2;dusk 60;again 0;");
                line.send(0, goal, note, true);
                check.is("in the air", line.tick(6 * goal), 0);
                check.is("arrived", line.tick(1), 1);
                check.is("heard", line.note(0, 0, true), (note + goal) % 8);
                check.is("unlike", line.tune(0, 10), goal == 8 ? 0 : 1);
                check.is("wrong", line.account(4), goal);
                check.is("right", line.account(6), goal == 8 ? 1 : 0);
                check.is("answered", line.count(2), goal == 8 ? 2 : 1);
            }
        }
    }

    private static void replyIfAsSent() {
        for (int wind = 0; wind <= 9; wind++) {
            for (int wants = 0; wants <= 1; wants++) {
                CountedPost post = Check.loaded("roof a 8 0 0 0;roof b 8 0 0 0;way a b 2;again 0;wind " + wind + ";");
                post.send(0, 1, 1, wants == 1);
                check.is("arrived", post.tick(4), 1);
                boolean isAnswered = wants == 1 && wind < 5;
                check.is("tunes", post.count(2), isAnswered ? 2 : 1);
                check.is("replies", post.account(2), isAnswered ? 1 : 0);
                check.is("sent", post.account(1), isAnswered ? 2 : 1);
            }
        }
        // one that comes wrong first, and right then, is answered
        CountedPost late = Check.loaded("roof a 8 0 0 0;roof b 8 0 0 0;way a b 2;again 1;wind 5;");
        late.send(0, 1, 1, true);
        late.tick(4);
        check.is("not yet", late.count(2), 1);
        late.set(8, 4);
        late.tick(3);
        check.is("then", late.count(2), 2);
    }

    private static void fewerThanThirty() {
        for (int tunes = 27; tunes <= 30; tunes++) {
            CountedPost post = Check.loaded("roof a 8 9 0 0;roof b 8 9 0 0;roof c 8 9 0 0;way a b 1;");
            Check.play(post, "send c a 1;".repeat(tunes - 1));
            post.send(0, 1, 12, true);
            post.tick(3);
            check.is("arrived", post.tune(tunes - 1, 3), 2);
            check.is("tunes", post.count(2), Math.min(30, tunes + 1));
            check.is("replies", post.account(2), tunes < 30 ? 1 : 0);
            check.is("sent", post.account(1), Math.min(30, tunes + 1));
            check.isThrown("none behind the last", Check.NO_SUCH, () -> post.tune(post.count(2), 0));
        }
        // two come in one tick: both are answered where 28 are, the first one where 29 are
        for (int tunes = 28; tunes <= 30; tunes++) {
            CountedPost post = Check.loaded("roof a 8 9 0 0;roof b 8 9 0 0;roof c 8 9 0 0;way a b 1;");
            Check.play(post, "send c a 1;".repeat(tunes - 2));
            post.send(1, 0, 12, true);
            post.send(0, 1, 34, true);
            check.is("both arrived", post.tick(3), 2);
            check.is("tunes", post.count(2), 30);
            check.is("replies", post.account(2), 30 - tunes);
            if (tunes < 30) {
                check.is("the first one is answered", post.note(tunes, 0, false), 2);
                check.is("by its goal", post.tune(tunes, 0), 0);
            }
        }
    }

    private static void turned() {
        int[] notes = {0, 7, 12, 10, 70, 123, 1000, 7654, 12345, 1234567, 10000000, 12345670, 77777776};
        for (int number : notes) {
            CountedPost post = Check.loaded("roof a 8 9 0 0;roof b 8 9 0 0;way a b 1;");
            post.send(0, 1, number, true);
            post.tick(3);
            String due = new StringBuilder("" + number).reverse().toString();
            check.is("notes", post.tune(1, 2), due.length());
            for (int index = 0; index < due.length(); index++) {
                check.is("sent", post.note(1, index, false), due.charAt(index) - '0');
                check.is("heard", post.note(1, index, true), due.charAt(index) - '0');
            }
            check.is("no more", post.note(1, due.length(), false), NONE);
            check.is("from the goal", post.tune(1, 0), 1);
            check.is("to the sender", post.tune(1, 1), 0);
        }
    }

    private static void wantsNone() {
        CountedPost post = Check.loaded("roof a 8 9 0 0;roof b 8 9 0 0;way a b 1;");
        post.send(0, 1, 12, true);
        post.tick(3);
        check.isTune(post, 1, 1, 0, 2, 1, 0, 5, 1, 0, 0, 1, 0, 1);
        post.tick(2);
        check.isTune(post, 1, 1, 0, 2, 2, 0, NONE, 1, 0, 0, 1, 0, 1);
        post.tick(40);
        check.is("no reply to a reply", post.count(2), 2);
        check.is("replies", post.account(2), 1);
        check.is("what was sent is none", post.tune(0, 6), 0);
        check.is("and wants one", post.tune(0, 7), 1);
    }

    private static int whistledAt(int dusk, int sentAt) {
        CountedPost post = atTime(sentAt, Check.PAIR + "dusk " + dusk + ";");
        post.send(0, 1, 1, false);
        for (int i = 0; i < 130 && post.tune(0, 3) == 0; i++) {
            post.tick(1);
        }
        return post.tune(0, 3) == 1 ? post.count(7) : NONE;
    }

    private static void dusk() {
        for (int dusk : new int[] {1, 2, 10, 50, 58, 59, 60}) {
            for (int sentAt : new int[] {0, dusk - 2, dusk - 1, dusk, dusk + 1, 57, 58, 59, 60, 61, 58 + dusk, 59 + dusk, 60 + dusk, 119}) {
                int due = Math.max(0, sentAt) + 1;
                while (due % 60 >= dusk) {
                    due++;
                }
                check.is("dusk " + dusk + ", sent at " + sentAt, whistledAt(dusk, Math.max(0, sentAt)), due);
            }
        }
        check.is("the last one before dusk", whistledAt(10, 8), 9);
        check.is("the first one behind it", whistledAt(10, 9), 60);
        check.is("dusk 1", whistledAt(1, 0), 60);
        check.is("dusk 1, a day later", whistledAt(1, 60), 120);
        check.is("dusk 60", whistledAt(60, 58), 59);
        check.is("dusk 60, a day later", whistledAt(60, 59), 60);
        check.is("dusk 59", whistledAt(59, 58), 60);
    }

    private static void notBusy() {
        for (int notes = 1, number = 1; notes <= 8; notes++, number = number * 10 + 1) {
            CountedPost post = Check.loaded("roof a 1 9 0 0;roof b 1 9 0 0;way a b 9;");
            post.send(0, 1, number, false);
            post.send(0, 1, number, false);
            post.tick(notes);
            check.is("busy until it has whistled", post.tune(1, 3), 0);
            check.is("one whistled", post.roof(0, 7), 1);
            post.tick(1);
            check.is("then the next one goes", post.tune(1, 3), 1);
            check.is("two whistled", post.roof(0, 7), 2);
        }
    }

    private static void noneThatCanBe() {
        CountedPost post = Check.loaded("roof a 1 9 9 8;roof b 1 9 0 0;roof c 1 9 0 0;way a b 1;");
        post.tick(1);
        check.is("no tune", post.count(11), 0);
        post.send(0, 1, 1, false);
        post.send(0, 2, 1, false);
        post.tick(1);
        check.is("none that can be", post.count(11), 0);
        check.is("whistled", post.account(3), 0);
        check.is("one waits", post.tune(0, 3), 0);
        check.is("one is lost", post.tune(1, 3), 3);
        post.give(0, 1);
        post.tick(1);
        check.is("one that can be", post.count(11), 1);
    }

    private static void fee() {
        for (int fee = 0; fee <= 9; fee++) {
            for (int notes = 4; notes <= 5; notes++) {
                int due = fee * (notes - 3);
                for (int purse = Math.max(0, due - 1); purse <= due + 1; purse++) {
                    CountedPost post = Check.loaded("roof a 8 9 0 " + purse + ";roof b 8 9 " + fee + " 0;roof c 8 9 0 0;"
                        + "way a b 1;way b c 1;");
                    post.send(0, 2, notes == 4 ? 1234 : 12345, false);
                    post.tick(3);
                    boolean isPaid = purse >= due;
                    check.is(purse + " for " + due, post.tune(0, 11), isPaid ? 2 : 1);
                    check.is("state", post.tune(0, 3), isPaid ? 1 : 0);
                    check.is("the sender's purse", post.roof(0, 3), isPaid ? purse - due : purse);
                    check.is("that of b", post.roof(1, 3), isPaid ? due : 0);
                    check.is("fees", post.account(9), isPaid ? due : 0);
                }
            }
        }
    }

    private static void greatestBars() {
        int[][] sent = {{1, 1}, {1, 1234}, {1234, 1}, {1234, 12345}, {12345, 1234}, {12345, 12345670}, {12345670, 12345}};
        int[] first = {0, 0, 0, 1, 0, 0, 0};
        for (int i = 0; i < sent.length; i++) {
            CountedPost post = Check.loaded(Check.PAIR);
            post.send(0, 1, sent[i][0], false);
            post.send(0, 1, sent[i][1], false);
            post.tick(1);
            check.is("the first", post.tune(first[i], 3), 1);
            check.is("the other", post.tune(1 - first[i], 3), 0);
            post.tick(1);
            check.is("then the other", post.tune(1 - first[i], 3), 1);
        }
        CountedPost last = Check.loaded(Check.PAIR);
        Check.play(last, "send a b 1;".repeat(29));
        last.send(0, 1, 12345, false);
        last.tick(1);
        check.is("the last of 30 has the greatest", last.tune(29, 3), 1);
        check.is("the first one waits", last.tune(0, 3), 0);
        // a dearer one that cannot be paid lets the other one go
        CountedPost poor = Check.loaded("roof a 8 9 5 9;roof b 8 9 0 0;way a b 1;");
        poor.send(0, 1, 12345, false);
        poor.send(0, 1, 1234, false);
        poor.tick(1);
        check.is("10 is more than 9", poor.tune(0, 3), 0);
        check.is("5 is not", poor.tune(1, 3), 1);
    }

    private static void roundedUp() {
        for (int breath = 1; breath <= 8; breath++) {
            for (int notes = 1, number = 1; notes <= 8; notes++, number = number * 10 + 1) {
                CountedPost post = Check.loaded("roof a " + breath + " 9 0 0;roof b 1 9 0 0;way a b 1;");
                post.send(0, 1, number, false);
                post.tick(1);
                int due = notes / breath + (notes % breath == 0 ? 0 : 1);
                check.is(notes + " by " + breath, post.roof(0, 4), due);
                check.is("end", post.tune(0, 5), 2 + due);
                for (int left = due; left > 0; left--) {
                    check.is("busy", post.count(11), 1);
                    check.is("left", post.roof(0, 4), left);
                    post.tick(1);
                }
                check.is("not busy", post.count(11), 0);
            }
        }
    }

    private static void endAndFar() {
        for (int far = 1; far <= 9; far++) {
            for (int time : new int[] {0, 1, 48}) {
                CountedPost post = atTime(time, "roof a 3 9 0 0;roof b 1 9 0 0;way a b " + far + ";");
                post.send(0, 1, 1234, false);
                post.tick(1);
                check.is("end", post.tune(0, 5), time + 1 + 2 + far);
                check.is("that is when it arrives", post.arrivesIn(0), 2 + far);
            }
        }
    }

    private static void nextThereIs() {
        // to c by the nearest route, over b; with that one cut by the way itself
        CountedPost post = Check.loaded("roof a 8 9 0 0;roof b 8 9 0 0;roof c 8 9 0 0;way a b 1;way b c 1;way a c 3;");
        post.send(0, 2, 1, false);
        post.tick(1);
        check.is("over b", post.tune(0, 4), 1);
        post.undo();
        post.cut(1, 2);
        post.tick(1);
        check.is("by the way itself", post.tune(0, 4), 2);
        post.undo();
        post.cut(0, 2);
        post.tick(1);
        check.is("no more", post.tune(0, 3), 3);
        check.is("whistled", post.account(3), 0);
    }

    private static void feeGoes() {
        // a pays itself where it whistles its own tune, and must have the fee all the same
        for (int purse = 0; purse <= 3; purse++) {
            CountedPost post = Check.loaded("roof a 8 9 2 " + purse + ";roof b 8 9 0 0;way a b 1;");
            post.send(0, 1, 1, false);
            post.tick(1);
            check.is("with " + purse, post.tune(0, 3), purse < 2 ? 0 : 1);
            check.is("purse", post.roof(0, 3), purse);
            check.is("fees", post.account(9), purse < 2 ? 0 : 2);
        }
        // by number: what a takes from c, b cannot take in the same tick
        for (int purse = 4; purse <= 11; purse++) {
            CountedPost post = Check.loaded(Check.FORK.replace("roof c 8 9 0 5", "roof c 8 9 0 " + purse));
            post.send(2, 3, 1, false);
            post.send(2, 4, 1, false);
            post.tick(4);
            check.is("a with " + purse, post.tune(0, 11), purse >= 5 ? 2 : 1);
            check.is("b with " + purse, post.roof(1, 3), purse >= 10 ? 5 : 0);
        }
    }

    private static void lost() {
        CountedPost post = Check.loaded("roof a 8 9 0 0;roof b 8 9 0 0;roof c 8 9 0 0;way a b 1;dusk 1;");
        post.send(0, 1, 1, false);
        post.send(0, 2, 1, false);
        post.send(2, 0, 1, false);
        check.is("not yet", post.count(6), 0);
        post.tick(1);
        check.is("one waits", post.tune(0, 3), 0);
        check.is("one is lost", post.tune(1, 3), 3);
        check.is("and another", post.tune(2, 3), 3);
        check.is("account", post.account(8), 2);
        post.cut(0, 1);
        check.is("a cut alone loses none", post.tune(0, 3), 0);
        post.tick(1);
        check.is("a tick does", post.tune(0, 3), 3);
        check.is("account", post.account(8), 3);
        post.tick(10);
        check.is("each once", post.account(8), 3);
    }

    private static void lostWhileItWaits() {
        CountedPost post = Check.loaded(Check.ROW + "wind 0;");
        post.send(0, 2, 1, false);
        post.tick(1);
        post.cut(0, 1);
        post.cut(1, 2);
        post.tick(2);
        check.is("in the air it is not lost", post.tune(0, 3), 1);
        post.tick(1);
        check.is("where it comes it is", post.tune(0, 3), 3);
        check.is("at b", post.tune(0, 4), 1);
        check.is("account", post.account(8), 1);
        // one that comes to its goal is not, though no way is left
        CountedPost there = Check.loaded(Check.PAIR);
        there.send(0, 1, 1, true);
        there.tick(1);
        there.cut(0, 1);
        check.is("arrived", there.tick(2), 1);
        check.is("its reply is lost", there.tune(1, 3), 3);
        check.is("account", there.account(8), 1);
    }
}
