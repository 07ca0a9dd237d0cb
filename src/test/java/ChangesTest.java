/** Promises 28 to 33, 37 and 38: ordinary inputs, the edges that the document names, and wrong inputs. */
public final class ChangesTest {
    private static final Check check = new Check();

    private ChangesTest() {
    }

    public static void main(String[] args) {
        send();
        noReplyAboveThirty();
        tick();
        tickWrong();
        tickAgain();
        tickFees();
        tickFeesInTurn();
        tickDusk();
        give();
        cut();
        lostOnTheWay();
        newWayRound();
        set();
        undo();
        undoEight();
        saveState();
        restoreState();
        check.end();
    }

    private static void send() {
        check.part("28 send");
        CountedPost post = Check.loaded(Check.ROW);
        check.is("first", post.send(0, 3, 0, false), 0);
        check.isHeard(post, 0, "0>d");
        check.is("second", post.send(3, 0, 77777777, true), 1);
        check.isHeard(post, 1, "77777777>a");
        check.is("zeros behind", post.send(1, 2, 1020, true), 2);
        check.isHeard(post, 2, "1020>c");
        check.isTune(post, 2, 1, 2, 4, 0, 1, -1, 0, 1, 0, 1, 0, 0);
        check.is("a change", post.count(13), 3);
        check.is("account", post.account(1), 3);
        int[] wrong = {-1, 8, 9, 18, 81, 8000000, 70000008, 77777768, 77777778, 77777780, 100000000, Check.MIN, Check.MAX};
        for (int notes : wrong) {
            check.isThrown("notes " + notes, Check.OUT, () -> post.send(0, 1, notes, false));
        }
        check.isThrown("to itself", Check.OUT, () -> post.send(2, 2, 1, false));
        check.isThrownForRoofs("send", (a, b) -> post.send(a, b, 1, false));
        check.isThrown("no such roof goes first", Check.NO_SUCH, () -> post.send(4, 4, 8, false));
        check.is("a throw is no change", post.count(13), 3);
        for (int i = 3; i < 30; i++) {
            check.is("the next one", post.send(0, 1, i % 8, true), i);
        }
        check.isThrown("a 31st", Check.STATE, () -> post.send(0, 1, 1, false));
        check.isThrown("notes go first", Check.OUT, () -> post.send(0, 1, 8, false));
        check.isThrown("the same roof goes first", Check.OUT, () -> post.send(1, 1, 1, false));
        check.isThrown("no such roof goes first", Check.NO_SUCH, () -> post.send(0, 4, 1, false));
        check.is("30 tunes", post.count(2), 30);
    }

    private static void noReplyAboveThirty() {
        check.part("29 tick, replies");
        CountedPost post = Check.loaded("roof a 8 9 0 0;roof b 8 9 0 0;way a b 1;");
        for (int i = 0; i < 29; i++) {
            post.send(0, 1, 123, true);
        }
        post.tick(3);
        check.is("one has come, and is answered", post.count(2), 30);
        check.isTune(post, 29, 1, 0, 3, 1, 0, 5, 1, 0);
        check.is("turned", post.note(29, 0, false), 3);
        check.is("turned", post.note(29, 1, true), 2);
        check.is("turned", post.note(29, 2, true), 1);
        post.tick(40);
        check.is("no further reply", post.count(2), 30);
        check.is("all arrived", post.account(5), 30);
        check.is("one reply", post.account(2), 1);
    }

    private static void tick() {
        check.part("29 tick");
        CountedPost post = Check.loaded(Check.PAIR);
        post.send(0, 1, 1, false);
        post.send(0, 1, 2, false);
        post.send(1, 0, 3, true);
        check.is("none yet", post.tick(2), 0);
        check.is("of a and of b", post.tick(1), 2);
        check.is("the second of a, before the reply", post.tick(1), 1);
        check.is("the reply", post.tick(200), 1);
        check.is("time", post.count(7), 204);
        check.is("a change each", post.count(13), 7);
        for (int ticks : new int[] {0, 201, -1, Check.MIN, Check.MAX}) {
            check.isThrown("ticks " + ticks, Check.OUT, () -> post.tick(ticks));
        }
        for (int i = 0; i < 48; i++) {
            post.tick(200);
        }
        check.is("time", post.count(7), 9804);
        check.isThrown("to 10000", Check.STATE, () -> post.tick(196));
        check.isThrown("ticks go first", Check.OUT, () -> post.tick(201));
        check.is("time stays", post.count(7), 9804);
        check.is("to 9999", post.tick(195), 0);
        check.isThrown("one more", Check.STATE, () -> post.tick(1));
    }

    /** Section 3: which notes become wrong, and by how much. */
    private static void tickWrong() {
        check.part("29 tick, wrong notes");
        CountedPost post = Check.loaded("roof a 8 0 0 0;roof b 8 0 0 0;roof c 8 2 0 0;way a b 8;way b c 9;wind 9;again 0;");
        post.send(0, 1, 77777777, false);
        post.send(0, 1, 123, false);
        post.send(0, 1, 12345, false);
        post.tick(12);
        // 72 by 10 is 7: from number 0 modulo 8 on; all three of number 1; all five of number 2
        check.isHeard(post, 0, "0'0'0'0'0'0'0'7>b");
        check.isHeard(post, 1, "2'3'4'>b");
        check.isHeard(post, 2, "2'3'4'5'6'>b");
        check.is("wrong", post.account(4), 15);
        post.set(8, 3);
        for (int tune = 3; tune <= 5; tune++) {
            post.send(0, 1, 555, false);
        }
        post.tick(12);
        // 24 by 10 is 2: from 3, 4 and 5 modulo 3 on, and behind the last one the first one again
        check.isHeard(post, 3, "6'6'5>b");
        check.isHeard(post, 4, "56'6'>b");
        check.isHeard(post, 5, "6'56'>b");
        check.is("wrong", post.account(4), 21);
        post.send(0, 2, 4444, false);
        post.tick(10);
        check.isHeard(post, 6, "445'5'>c");
        check.is("it goes on", post.tune(6, 5), 44);
        post.tick(10);
        // 27 less 6, by 10, is 2, too
        check.isHeard(post, 6, "446'6'>c");
        check.is("wrong", post.account(4), 25);
        check.is("notes unlike", post.tune(6, 10), 2);
    }

    private static void tickAgain() {
        check.part("29 tick, sent anew");
        CountedPost post = Check.loaded("roof a 8 0 0 0;roof b 8 0 0 0;way a b 4;again 3;");
        post.send(0, 1, 1, true);
        for (int tries = 1; tries <= 3; tries++) {
            post.tick(tries == 1 ? 6 : 5);
            check.isTune(post, 0, 0, 1, 1, 1, 1, 5 * tries + 6, 0, 1, tries, 1, 0, tries + 1);
            check.is("sent anew", post.account(7), tries);
        }
        post.tick(5);
        check.isTune(post, 0, 0, 1, 1, 2, 1, -1, 0, 1, 3, 1, 1, 4);
        check.is("no reply to a wrong one", post.count(2), 1);
        check.is("arrived", post.account(5), 1);
        check.is("not right", post.account(6), 0);
        // the wind that counts is that of the end of the hop
        post.send(0, 1, 2, false);
        post.tick(5);
        post.set(8, 2);
        post.tick(1);
        check.isTune(post, 1, 0, 1, 1, 2, 1, -1, 0, 0, 0, 1, 0, 1);
        post.set(8, 3);
        post.set(10, 0);
        post.send(0, 1, 2, false);
        post.tick(6);
        check.isHeard(post, 2, "3'>b");
        check.is("not anew", post.account(7), 3);
    }

    private static void tickFees() {
        check.part("29 tick, fees");
        CountedPost post = Check.loaded("roof a 8 9 3 6;roof b 1 9 4 0;roof c 8 9 9 0;way a b 1;way b c 1;");
        post.send(2, 1, 1, false);
        post.send(0, 2, 1, false);
        post.send(0, 2, 12345, false);
        post.send(0, 1, 12345670, false);
        post.tick(1);
        check.is("c has no coins", post.tune(0, 3), 0);
        check.is("one bar waits", post.tune(1, 3), 0);
        check.is("two bars go", post.tune(2, 3), 1);
        check.is("of two alike the first", post.tune(3, 3), 0);
        check.is("it was its own purse", post.roof(0, 3), 6);
        check.is("fees", post.account(9), 6);
        post.tick(1);
        check.is("then the other", post.tune(3, 3), 1);
        post.tick(1);
        check.is("tune 2 needs 8 at b", post.tune(2, 3), 0);
        check.is("it is at b", post.tune(2, 4), 1);
        check.is("fees", post.account(9), 15);
        check.is("tune 1 goes at 3", post.tune(1, 5), 5);
        post.give(0, 2);
        post.tick(1);
        check.is("a pays b", post.roof(0, 3), 0);
        check.is("b has it", post.roof(1, 3), 8);
        check.is("five notes by breath 1", post.roof(1, 4), 5);
        check.is("end", post.tune(2, 5), 10);
        check.is("fees", post.account(9), 23);
        post.tick(20);
        check.is("no coins for tune 1 at b", post.tune(1, 3), 0);
        check.is("nor for that of c", post.tune(0, 3), 0);
        check.is("purses together", post.count(12), 8);
    }

    /** Roofs whistle by number: what a has taken b cannot take, and what a has got it can pay to b. */
    private static void tickFeesInTurn() {
        check.part("29 tick, fees in turn");
        CountedPost post = Check.loaded(Check.FORK);
        post.send(2, 3, 1, false);
        post.send(2, 4, 1, false);
        post.tick(4);
        check.is("a whistles", post.tune(0, 3), 1);
        check.is("b does not", post.tune(1, 3), 0);
        check.is("a has the coins", post.roof(0, 3), 5);
        check.is("b has none", post.roof(1, 3), 0);
        check.is("c has none", post.roof(2, 3), 0);
        CountedPost rich = Check.loaded("roof a 8 9 5 5;roof b 8 9 9 0;roof c 8 9 0 5;roof d 8 9 0 0;way a b 1;way b d 1;way c a 4;");
        rich.send(0, 3, 1, false);
        rich.send(2, 1, 1, false);
        rich.tick(5);
        check.is("9 is more than 5", rich.tune(0, 3), 0);
        rich.tick(1);
        check.is("of 10 coins, 9 are paid to b", rich.tune(0, 3), 1);
        check.is("a has one", rich.roof(0, 3), 1);
        check.is("b has 9", rich.roof(1, 3), 9);
    }

    private static void tickDusk() {
        check.part("29 tick, dusk");
        CountedPost post = Check.loaded(Check.PAIR + "dusk 10;");
        post.tick(9);
        post.send(0, 1, 1, false);
        post.tick(1);
        check.is("not at 10", post.tune(0, 3), 0);
        post.tick(49);
        check.is("not at 59", post.tune(0, 3), 0);
        post.tick(1);
        check.is("at 60", post.tune(0, 3), 1);
        check.is("end", post.tune(0, 5), 62);
        post.tick(7);
        post.send(1, 0, 1, false);
        post.tick(2);
        check.is("at 68", post.tune(1, 5), 70);
        post.tick(1);
        check.is("it comes behind dusk, too", post.tune(1, 3), 2);
        post.send(1, 0, 1, false);
        post.cut(0, 1);
        post.tick(1);
        check.is("lost behind dusk, too", post.tune(2, 3), 3);
        CountedPost never = Check.loaded(Check.PAIR + "dusk 60;");
        never.tick(58);
        never.send(0, 1, 1, false);
        never.tick(1);
        check.is("at 59 by dusk 60", never.tune(0, 3), 1);
    }

    private static void give() {
        check.part("30 give");
        CountedPost post = Check.loaded("roof a 1 0 0 999;roof b 1 0 0 0;");
        check.is("1", post.give(1, 1), 1);
        check.is("99", post.give(1, 99), 100);
        check.is("account", post.account(10), 100);
        check.is("changes", post.count(13), 2);
        for (int coins : new int[] {0, 100, -1, Check.MIN, Check.MAX}) {
            check.isThrown("coins " + coins, Check.OUT, () -> post.give(0, coins));
        }
        for (int roof : new int[] {-1, 2, Check.MIN, Check.MAX}) {
            check.isThrown("roof " + roof, Check.NO_SUCH, () -> post.give(roof, 1));
            check.isThrown("no such roof goes first", Check.NO_SUCH, () -> post.give(roof, 0));
        }
        check.is("a throw is no change", post.count(13), 2);
        for (int i = 0; i < 90; i++) {
            post.give(0, 99);
        }
        check.is("9909 and 1", post.give(0, 1), 9910);
        check.isThrown("to 10000", Check.STATE, () -> post.give(0, 90));
        check.isThrown("coins go first", Check.OUT, () -> post.give(0, 100));
        check.is("to 9999", post.give(0, 89), 9999);
        check.isThrown("one more", Check.STATE, () -> post.give(0, 1));
        check.is("the other one still can", post.give(1, 1), 101);
        check.is("account", post.account(10), 9101);
    }

    private static void cut() {
        check.part("31 cut");
        CountedPost post = new CountedPost();
        check.is("three left", post.cut(0, 2), 3);
        check.is("told the other way round", post.cut(2, 1), 2);
        check.is("route", post.route(1, 3), WhistlePosts.NONE);
        check.is("changes", post.count(13), 2);
        check.isThrown("cut already", Check.STATE, () -> post.cut(0, 2));
        check.isThrown("never there", Check.STATE, () -> post.cut(0, 3));
        check.isThrown("to itself", Check.STATE, () -> post.cut(1, 1));
        check.isThrownForRoofs("cut", post::cut);
        check.is("a throw is no change", post.count(13), 2);
        post.send(0, 1, 1234, false);
        post.tick(1);
        check.is("one left", post.cut(1, 0), 1);
        check.isTune(post, 0, 0, 1, 4, 1, 1, 6, 0, 0);
        post.set(10, 0);
        check.is("it comes all the same", post.tick(5), 1);
        // by FAR as it was: 12 by 10
        check.isHeard(post, 0, "2'234>barn");
        check.is("none left", post.cut(3, 2), 0);
    }

    private static void lostOnTheWay() {
        check.part("31 cut, lost");
        CountedPost post = Check.loaded(Check.ROW + "wind 0;");
        post.send(0, 2, 1, false);
        post.tick(1);
        post.cut(1, 2);
        check.is("in the air", post.tick(2), 0);
        check.isTune(post, 0, 0, 2, 1, 1, 1, 4);
        post.tick(1);
        check.isTune(post, 0, 0, 2, 1, 3, 1, -1);
        check.is("lost", post.account(8), 1);
        // one that comes wrong is at its sender again, from where there is no route by now
        CountedPost anew = Check.loaded("roof a 1 0 0 0;roof b 1 0 0 0;way a b 9;wind 9;");
        anew.send(0, 1, 1, false);
        anew.tick(1);
        anew.cut(0, 1);
        anew.tick(10);
        check.isTune(anew, 0, 0, 1, 1, 3, 0, -1, 0, 0, 1);
        // another tune goes first where there is none for a dear one
        CountedPost two = Check.loaded(Check.ROW);
        two.send(0, 3, 12345, false);
        two.send(0, 1, 1, false);
        two.tick(1);
        check.is("no route", two.tune(0, 3), 3);
        check.is("it goes", two.tune(1, 3), 1);
    }

    private static void newWayRound() {
        check.part("31 cut, another route");
        CountedPost post = Check.loaded("roof a 1 0 0 0;roof b 1 0 0 0;roof c 1 0 0 0;way a b 1;way a c 5;way c b 2;wind 0;");
        post.send(0, 1, 1, false);
        post.cut(0, 1);
        post.tick(1);
        check.isTune(post, 0, 0, 1, 1, 1, 2, 7);
        check.is("over c", post.arrivesIn(0), 9);
    }

    private static void set() {
        check.part("32 set");
        CountedPost post = new CountedPost();
        check.is("wind", post.set(8, 9), 3);
        check.is("wind again", post.set(8, 0), 9);
        check.is("dusk", post.set(9, 60), 50);
        check.is("dusk again", post.set(9, 1), 60);
        check.is("again", post.set(10, 3), 1);
        check.is("again again", post.set(10, 0), 3);
        check.areCounts(post, 4, 4, 0, 0, 0, 0, 0, 0, 0, 1, 0, 0, 99, 6);
        check.is("as it is", post.set(10, 0), 0);
        check.is("is a change, too", post.count(13), 7);
        for (int what : new int[] {7, 11, 0, -1, Check.MIN, Check.MAX}) {
            check.isThrown("what " + what, Check.OUT, () -> post.set(what, 1));
        }
        for (int value : new int[] {-1, 10, Check.MIN, Check.MAX}) {
            check.isThrown("wind " + value, Check.OUT, () -> post.set(8, value));
        }
        for (int value : new int[] {0, 61, Check.MIN, Check.MAX}) {
            check.isThrown("dusk " + value, Check.OUT, () -> post.set(9, value));
        }
        for (int value : new int[] {-1, 4, Check.MIN, Check.MAX}) {
            check.isThrown("again " + value, Check.OUT, () -> post.set(10, value));
        }
        check.areCounts(post, 4, 4, 0, 0, 0, 0, 0, 0, 0, 1, 0, 0, 99, 7);
    }

    private static String everything(CountedPost post) {
        StringBuilder text = new StringBuilder();
        for (int what = 0; what < 13; what++) {
            text.append(post.count(what)).append(' ');
        }
        for (int what = 0; what <= 10; what++) {
            text.append(post.account(what)).append(' ');
        }
        for (int roof = 0; roof < post.count(0); roof++) {
            text.append(" roof");
            for (int what = 0; what < 8; what++) {
                text.append(' ').append(post.roof(roof, what));
            }
            for (int goal = 0; goal < post.count(0); goal++) {
                text.append(' ').append(post.route(roof, goal)).append(' ').append(post.next(roof, goal));
            }
        }
        for (int way = 0; way < post.count(1); way++) {
            text.append(" way ").append(post.way(way, 0)).append(post.way(way, 1)).append(post.way(way, 2));
        }
        for (int tune = 0; tune < post.count(2); tune++) {
            text.append(" tune");
            for (int what = 0; what < 12; what++) {
                text.append(' ').append(post.tune(tune, what));
            }
            for (int index = 0; index < 8; index++) {
                text.append(' ').append(post.note(tune, index, true)).append(post.note(tune, index, false));
            }
        }
        return text.toString();
    }

    private static void undo() {
        check.part("33 undo");
        CountedPost post = new CountedPost();
        check.isThrown("nothing", Check.NOTHING, post::undo);
        post.send(0, 3, 1234, true);
        post.tick(9);
        post.give(0, 9);
        post.cut(0, 1);
        post.set(8, 9);
        Check.play(post, "tick 50;give inn 3;");
        String before = everything(post);
        post.tick(100);
        check.is("6 left", post.undo(), 6);
        check.isText("all is as before", everything(post), before);
        check.is("5 left", post.undo(), 5);
        check.is("4 left", post.undo(), 4);
        check.is("wind", post.count(8), 3);
        check.is("3 left", post.undo(), 3);
        check.is("ways", post.count(1), 4);
        check.is("2 left", post.undo(), 2);
        check.is("coins", post.account(10), 0);
        check.is("1 left", post.undo(), 1);
        check.is("time", post.count(7), 0);
        check.is("0 left", post.undo(), 0);
        check.isText("as a new one", everything(post), everything(new CountedPost()));
        check.isThrown("nothing more", Check.NOTHING, post::undo);
    }

    private static void undoEight() {
        check.part("33 undo, eight at most");
        CountedPost post = new CountedPost();
        for (int coins = 1; coins <= 11; coins++) {
            post.give(1, coins);
        }
        check.is("8 at most", post.count(13), 8);
        for (int left = 7; left >= 0; left--) {
            check.is("left", post.undo(), left);
        }
        check.is("20 and 1 and 2 and 3 stay", post.roof(1, 3), 26);
        check.isThrown("put away for good", Check.NOTHING, post::undo);
        post.give(1, 50);
        post.give(1, 50);
        check.is("one undone", post.undo(), 1);
        post.give(1, 2);
        check.is("it is kept no more", post.undo(), 1);
        check.is("26 and 50", post.roof(1, 3), 76);
        post.printRoofs();
        String output = Check.output(post);
        check.is("none left", post.undo(), 0);
        check.isText("the output stays", Check.output(post), output);
        check.is("26", post.roof(1, 3), 26);
    }

    private static void saveState() {
        check.part("37 saveState");
        CountedPost post = new CountedPost();
        check.is("no tunes", post.saveState(), 0);
        post.send(0, 1, 1, false);
        post.send(0, 3, 12, true);
        check.is("two tunes", post.saveState(), 2);
        check.is("is no change", post.count(13), 2);
        post.send(0, 3, 123, false);
        check.is("in place of the earlier one", post.restoreState(), 2);
        post.send(0, 3, 123, false);
        post.tick(1);
        post.saveState();
        post.undo();
        post.undo();
        check.is("undo lets it be", post.restoreState(), 3);
        check.is("time", post.count(7), 1);
        check.is("a failed load", Check.load(post, "roof a 1 0 0 0;"), -1);
        check.is("lets it be", post.restoreState(), 3);
        Check.load(post, Check.PAIR);
        check.isThrown("a load puts it away", Check.NOTHING, post::restoreState);
    }

    private static void restoreState() {
        check.part("38 restoreState");
        CountedPost post = new CountedPost();
        post.send(0, 3, 1234, true);
        check.isThrown("none saved", Check.NOTHING, post::restoreState);
        check.is("a throw changes nothing", post.count(13), 1);
        post.send(1, 3, 12345670, true);
        post.tick(7);
        post.give(0, 9);
        post.set(8, 7);
        post.saveState();
        String saved = everything(post);
        Check.play(post, "cut mill inn;dusk 7;again 3;wind 1;tick 9;send inn barn 5;give inn 99;tick 200;");
        post.printTune(0);
        String output = Check.output(post);
        Check.play(post, "tick");
        Check.appendBlanks(post);
        check.is("tunes", post.restoreState(), 2);
        check.isText("all is as saved", everything(post), saved);
        check.is("no change is kept", post.count(13), 0);
        check.isThrown("nothing can be undone", Check.NOTHING, post::undo);
        check.isText("the output stays", Check.output(post), output);
        check.is("the error stays", post.errorCode(), WhistlePosts.SYNTAX);
        check.is("its offset, too", post.errorOffset(), 4);
        check.is("the input stays", Check.appendBlanks(post), 40);
        post.tick(100);
        post.cut(0, 2);
        check.is("it stays saved", post.restoreState(), 2);
        check.areCounts(post, 4, 4, 2, 0, 2, 0, 0, 7, 7, 50, 1, 0, 108, 0);
        post.tick(100);
        post.undo();
        check.areCounts(post, 4, 4, 2, 0, 2, 0, 0, 7, 7, 50, 1, 0, 108, 0);
    }
}
