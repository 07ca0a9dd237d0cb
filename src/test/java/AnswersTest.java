/** Promises 8 to 27 and 34 to 36: ordinary inputs, the edges that the document names, and wrong inputs. */
public final class AnswersTest {
    private static final Check check = new Check();

    private AnswersTest() {
    }

    public static void main(String[] args) {
        count();
        account();
        nameByte();
        roof();
        way();
        route();
        next();
        nextOfEven();
        tune();
        note();
        waiting();
        why();
        whyAtDusk();
        whyAsAllIs();
        costOf();
        wrongOn();
        calmest();
        arrivesIn();
        arrivesLate();
        growsBy();
        dearestWay();
        agree();
        meanPurse();
        rightPart();
        printRoofs();
        printTune();
        outputByte();
        check.end();
    }

    private static void count() {
        check.part("8 count");
        CountedPost post = Check.loaded(Check.ROW + "wind 0;again 2;dusk 59;");
        post.send(0, 1, 1, false);
        post.send(0, 1, 12345670, false);
        post.send(1, 2, 12, false);
        post.send(2, 3, 1, false);
        post.give(3, 7);
        check.areCounts(post, 4, 2, 4, 4, 0, 0, 0, 0, 0, 59, 2, 0, 407, 5);
        post.tick(1);
        // a whistles eight notes, b is busy for a tick, and there is no route to d
        check.areCounts(post, 4, 2, 4, 1, 2, 0, 1, 1, 0, 59, 2, 2, 407, 6);
        post.tick(1);
        check.areCounts(post, 4, 2, 4, 1, 2, 0, 1, 2, 0, 59, 2, 1, 407, 7);
        post.tick(3);
        check.areCounts(post, 4, 2, 4, 1, 1, 1, 1, 5, 0, 59, 2, 1, 407, 8);
        post.tick(3);
        check.is("busy until 9", post.count(11), 1);
        check.is("8 changes", post.count(13), 8);
        post.tick(1);
        check.is("the next one is whistled", post.count(3), 0);
        check.is("busy by it", post.count(11), 1);
        check.is("never above 8", post.count(13), 8);
        post.cut(0, 1);
        check.is("ways", post.count(1), 1);
        for (int what : new int[] {-1, 14, Check.MIN, Check.MAX}) {
            check.isThrown("count(" + what + ")", Check.OUT, () -> post.count(what));
        }
    }

    private static void account() {
        check.part("9 account");
        CountedPost post = Check.loaded("roof a 1 0 1 100;roof b 2 0 2 100;roof c 3 9 3 5;way a b 9;way b c 9;wind 9;");
        post.send(0, 1, 11, false);
        check.areAccounts(post, 0, 1, 0, 0, 0, 0, 0, 0, 0, 0, 0);
        post.tick(12);
        // 81 by 10 is 8, but there are two notes; it is sent anew at once
        check.areAccounts(post, 12, 1, 0, 2, 2, 0, 0, 1, 0, 2, 0);
        post.give(2, 30);
        post.tick(11);
        check.areAccounts(post, 23, 1, 0, 2, 4, 1, 0, 1, 0, 2, 30);
        post.send(1, 2, 12345, true);
        post.tick(13);
        // 81 less 27, by 10, is 5: all notes are wrong, and b whistles anew
        check.areAccounts(post, 36, 2, 0, 4, 9, 1, 0, 2, 0, 10, 30);
        post.set(8, 2);
        post.tick(12);
        // it arrived as sent, and c pays the fee of the reply
        check.areAccounts(post, 48, 3, 1, 5, 9, 2, 1, 2, 0, 16, 30);
        post.cut(0, 1);
        post.send(0, 2, 1, true);
        post.tick(1);
        check.areAccounts(post, 49, 4, 1, 5, 9, 2, 1, 2, 1, 16, 30);
        for (int what : new int[] {-1, 11, Check.MIN, Check.MAX}) {
            check.isThrown("account(" + what + ")", Check.OUT, () -> post.account(what));
        }
    }

    private static void nameByte() {
        check.part("10 nameByte");
        CountedPost post = Check.loaded("roof azbycx 1 0 0 0;roof q 1 0 0 0;");
        String name = "azbycx";
        for (int i = 0; i < 6; i++) {
            check.is("byte " + i, post.nameByte(0, i), name.charAt(i));
        }
        check.is("the only byte", post.nameByte(1, 0), 'q');
        check.is("byte 1 of q", post.nameByte(1, 1), WhistlePosts.NONE);
        for (int index : new int[] {-1, 6, 7, 32, 64, Check.MIN, Check.MAX}) {
            check.is("byte " + index, post.nameByte(0, index), WhistlePosts.NONE);
            check.is("byte " + index + " of q", post.nameByte(1, index), WhistlePosts.NONE);
        }
        for (int roof : new int[] {-1, 2, Check.MIN, Check.MAX}) {
            check.isThrown("roof " + roof, Check.NO_SUCH, () -> post.nameByte(roof, 0));
        }
    }

    private static void roof() {
        check.part("11 roof");
        CountedPost post = Check.loaded(Check.ROW);
        check.isRoof(post, 0, "a", 1, 0, 1, 100, 0, 0, 1, 0);
        check.isRoof(post, 1, "b", 2, 0, 2, 100, 0, 0, 2, 0);
        check.isRoof(post, 3, "d", 4, 0, 4, 100, 0, 0, 0, 0);
        post.send(1, 2, 12345, false);
        post.send(1, 0, 1234, false);
        post.send(2, 0, 1, false);
        check.is("two wait", post.roof(1, 5), 2);
        post.tick(1);
        check.isRoof(post, 1, "b", 2, 0, 2, 100, 3, 1, 2, 1);
        check.isRoof(post, 2, "c", 3, 0, 3, 100, 1, 0, 1, 1);
        post.tick(2);
        check.is("one tick more", post.roof(1, 4), 1);
        post.tick(1);
        check.isRoof(post, 1, "b", 2, 0, 2, 100, 2, 0, 2, 2);
        post.tick(1);
        check.is("that of c has come", post.roof(1, 5), 1);
        post.tick(1);
        // b whistles it as soon as it can, and c pays
        check.isRoof(post, 1, "b", 2, 0, 2, 102, 1, 0, 2, 3);
        check.isRoof(post, 2, "c", 3, 0, 3, 98, 0, 0, 1, 1);
        post.cut(1, 2);
        check.is("ways of b", post.roof(1, 6), 1);
        check.is("ways of c", post.roof(2, 6), 0);
        for (int roof : new int[] {-1, 4, Check.MIN, Check.MAX}) {
            check.isThrown("roof " + roof, Check.NO_SUCH, () -> post.roof(roof, 0));
            check.isThrown("no such roof goes first", Check.NO_SUCH, () -> post.roof(roof, 99));
        }
        for (int what : new int[] {-1, 8, Check.MIN, Check.MAX}) {
            check.isThrown("what " + what, Check.OUT, () -> post.roof(0, what));
        }
    }

    private static void way() {
        check.part("12 way");
        CountedPost post = new CountedPost();
        check.isWay(post, 2, 0, 2, 9);
        post.cut(2, 1);
        check.isWay(post, 0, 0, 1, 4);
        check.isWay(post, 1, 0, 2, 9);
        check.isWay(post, 2, 2, 3, 3);
        check.isThrown("way 3", Check.NO_SUCH, () -> post.way(3, 0));
        check.isThrown("no such way goes first", Check.NO_SUCH, () -> post.way(3, 3));
        for (int way : new int[] {-1, 4, Check.MIN, Check.MAX}) {
            check.isThrown("way " + way, Check.NO_SUCH, () -> post.way(way, 0));
        }
        for (int what : new int[] {-1, 3, Check.MIN, Check.MAX}) {
            check.isThrown("what " + what, Check.OUT, () -> post.way(0, what));
        }
        check.isWay(Check.loaded("roof a 1 0 0 0;roof b 1 0 0 0;way b a 5;"), 0, 1, 0, 5);
    }

    private static void route() {
        check.part("13 route");
        CountedPost post = new CountedPost();
        int[][] sums = {{0, 4, 9, 12}, {4, 0, 6, 9}, {9, 6, 0, 3}, {12, 9, 3, 0}};
        for (int from = 0; from < 4; from++) {
            for (int to = 0; to < 4; to++) {
                check.is("route(" + from + ", " + to + ")", post.route(from, to), sums[from][to]);
            }
        }
        post.cut(0, 2);
        check.is("over barn", post.route(0, 2), 10);
        check.is("over mill and barn", post.route(3, 0), 13);
        post.cut(0, 1);
        check.is("no route", post.route(0, 3), WhistlePosts.NONE);
        check.is("no route back", post.route(2, 0), WhistlePosts.NONE);
        check.is("to itself", post.route(0, 0), 0);
        post.undo();
        check.is("there again", post.route(0, 3), 13);
        check.isThrownForRoofs("route", post::route);
        CountedPost line = Check.loaded(Check.tenRoofs() + Check.ways(9).replace(" 1;", " 9;"));
        check.is("the longest", line.route(0, 9), 81);
        check.is("the longest, back", line.route(9, 0), 81);
    }

    private static void next() {
        check.part("14 next");
        CountedPost post = new CountedPost();
        int[][] nexts = {{-1, 1, 2, 2}, {0, -1, 2, 2}, {0, 1, -1, 3}, {2, 2, 2, -1}};
        for (int from = 0; from < 4; from++) {
            for (int to = 0; to < 4; to++) {
                check.is("next(" + from + ", " + to + ")", post.next(from, to), nexts[from][to]);
            }
        }
        post.cut(0, 2);
        check.is("over barn", post.next(0, 3), 1);
        post.cut(0, 1);
        check.is("no route", post.next(0, 3), WhistlePosts.NONE);
        check.isThrownForRoofs("next", post::next);
    }

    private static void nextOfEven() {
        check.part("14 next, even routes");
        // from a to d over b or over c: 5 each, and c has the smaller number
        CountedPost even = Check.loaded("roof a 1 0 0 0;roof d 1 0 0 0;roof c 1 0 0 0;roof b 1 0 0 0;"
            + "way a b 2;way b d 3;way a c 4;way c d 1;");
        check.is("of two the smaller", even.next(0, 1), 2);
        check.is("and back", even.next(1, 0), 2);
        even.cut(2, 1);
        check.is("the other", even.next(0, 1), 3);
        // the way itself is as long as that over c
        CountedPost same = Check.loaded("roof a 1 0 0 0;roof c 1 0 0 0;roof d 1 0 0 0;way a d 5;way a c 4;way c d 1;");
        check.is("c has the smaller number", same.next(0, 2), 1);
        check.is("a has the smaller number", same.next(2, 0), 0);
    }

    private static void tune() {
        check.part("15 tune");
        CountedPost post = Check.loaded("roof a 2 0 1 50;roof b 1 0 2 50;roof c 1 9 3 50;way a b 4;way b c 2;");
        post.send(0, 2, 12345, true);
        check.isTune(post, 0, 0, 2, 5, 0, 0, -1, 0, 1, 0, 2, 0, 0);
        post.tick(1);
        check.isTune(post, 0, 0, 2, 5, 1, 1, 8, 0, 1, 0, 2, 0, 1);
        post.tick(7);
        // 3 times 4, by 10: note 0 became wrong, and b whistles at once
        check.isTune(post, 0, 0, 2, 5, 1, 2, 15, 0, 1, 0, 2, 1, 2);
        post.tick(7);
        // it is wrong at its goal: sent anew, and whistled at once
        check.isTune(post, 0, 0, 2, 5, 1, 1, 22, 0, 1, 1, 2, 0, 3);
        post.set(8, 0);
        post.tick(14);
        check.isTune(post, 0, 0, 2, 5, 2, 2, -1, 0, 1, 1, 2, 0, 4);
        check.isTune(post, 1, 2, 0, 5, 1, 1, 36, 1, 0, 0, 2, 0, 1);
        post.cut(0, 1);
        post.tick(7);
        check.isTune(post, 1, 2, 0, 5, 3, 1, -1, 1, 0, 0, 2, 0, 1);
        for (int notes = 1, number = 1; notes <= 8; notes++, number = number * 10 + 1) {
            int tune = post.send(1, 2, number, false);
            check.is("notes", post.tune(tune, 2), notes);
            check.is("bars", post.tune(tune, 9), notes <= 4 ? 1 : 2);
        }
        for (int tune : new int[] {-1, 10, Check.MIN, Check.MAX}) {
            check.isThrown("tune " + tune, Check.NO_SUCH, () -> post.tune(tune, 0));
            check.isThrown("no such tune goes first", Check.NO_SUCH, () -> post.tune(tune, 12));
        }
        for (int what : new int[] {-1, 12, Check.MIN, Check.MAX}) {
            check.isThrown("what " + what, Check.OUT, () -> post.tune(0, what));
        }
    }

    private static void areNotes(CountedPost post, boolean heard, String due) {
        for (int i = 0; i < due.length(); i++) {
            check.is("note " + i + " heard " + heard, post.note(0, i, heard), due.charAt(i) - '0');
        }
    }

    private static void note() {
        check.part("16 note");
        CountedPost post = new CountedPost();
        post.send(0, 1, 5670, false);
        areNotes(post, false, "5670");
        areNotes(post, true, "5670");
        post.set(10, 0);
        post.set(8, 9);
        post.tick(6);
        // 36 by 10: three notes, from the first one on
        areNotes(post, false, "5670");
        areNotes(post, true, "6700");
        for (int index : new int[] {-1, 4, 8, 10, 11, Check.MIN, Check.MAX}) {
            check.is("note " + index, post.note(0, index, true), WhistlePosts.NONE);
            check.is("note " + index, post.note(0, index, false), WhistlePosts.NONE);
        }
        for (int tune : new int[] {-1, 1, Check.MIN, Check.MAX}) {
            check.isThrown("tune " + tune, Check.NO_SUCH, () -> post.note(tune, 0, true));
        }
    }

    private static void waiting() {
        check.part("17 waiting");
        CountedPost post = Check.loaded(Check.ROW);
        post.send(0, 1, 1, false);
        post.send(0, 3, 12345, false);
        post.send(1, 2, 12345, false);
        post.send(0, 2, 1234, false);
        post.send(0, 1, 12345670, false);
        int[] due = {1, 4, 0, 3, -1};
        for (int place = 0; place < due.length; place++) {
            check.is("place " + place, post.waiting(0, place), due[place]);
        }
        check.is("at b", post.waiting(1, 0), 2);
        check.is("no more at b", post.waiting(1, 1), WhistlePosts.NONE);
        check.is("nothing at c", post.waiting(2, 0), WhistlePosts.NONE);
        for (int place : new int[] {-1, 30, Check.MIN, Check.MAX}) {
            check.is("place " + place, post.waiting(0, place), WhistlePosts.NONE);
        }
        post.tick(1);
        check.is("4 is whistled, 1 is lost", post.waiting(0, 0), 0);
        check.is("then", post.waiting(0, 1), 3);
        check.is("no more", post.waiting(0, 2), WhistlePosts.NONE);
        for (int roof : new int[] {-1, 4, Check.MIN, Check.MAX}) {
            check.isThrown("roof " + roof, Check.NO_SUCH, () -> post.waiting(roof, 0));
        }
    }

    private static void why() {
        check.part("18 why");
        CountedPost post = Check.loaded("roof a 1 9 9 17;roof b 1 9 0 0;roof c 1 9 0 0;roof d 1 9 2 0;way a b 1;way b c 2;dusk 3;");
        post.send(0, 2, 12345, false);
        post.send(0, 2, 1234, false);
        post.send(0, 1, 123, false);
        post.send(0, 3, 12345, false);
        check.isWhy(post, 0, 5, 501);
        check.isWhy(post, 1, 0, 0);
        check.isWhy(post, 2, 6, 601);
        check.isWhy(post, 3, 2, 203);
        post.give(0, 1);
        check.isWhy(post, 0, 0, 0);
        check.isWhy(post, 1, 6, 600);
        post.undo();
        post.tick(1);
        // a whistles tune 1 until 5
        check.isWhy(post, 0, 4, 403);
        check.isWhy(post, 1, 1, 101);
        check.isWhy(post, 2, 4, 403);
        check.isWhy(post, 3, 1, 103);
        post.tick(1);
        check.isWhy(post, 0, 3, 303);
        post.set(9, 60);
        check.isWhy(post, 0, 4, 402);
        post.tick(2);
        check.isWhy(post, 0, 5, 501);
        check.isWhy(post, 2, 0, 0);
        post.cut(0, 1);
        check.isWhy(post, 2, 2, 201);
        post.tick(200);
        check.isWhy(post, 1, 1, 102);
        check.isWhy(post, 2, 1, 103);
        for (int tune : new int[] {-1, 4, Check.MIN, Check.MAX}) {
            check.isThrown("tune " + tune, Check.NO_SUCH, () -> post.why(tune, 0));
            check.isThrown("no such tune goes first", Check.NO_SUCH, () -> post.why(tune, 2));
        }
        for (int depth : new int[] {-1, 2, Check.MIN, Check.MAX}) {
            check.isThrown("depth " + depth, Check.OUT, () -> post.why(0, depth));
        }
    }

    private static void whyAtDusk() {
        check.part("18 why, at dusk");
        CountedPost post = Check.loaded(Check.PAIR);
        post.tick(48);
        post.send(0, 1, 1, false);
        check.isWhy(post, 0, 0, 0);
        post.set(9, 49);
        check.isWhy(post, 0, 3, 349);
        post.tick(10);
        check.isWhy(post, 0, 3, 359);
        post.tick(1);
        check.isWhy(post, 0, 0, 0);
    }

    /** The purse of c is enough for each of two tunes as it is, but in a tick a takes from it before b does. */
    private static void whyAsAllIs() {
        check.part("18 why, as all is");
        CountedPost post = Check.loaded(Check.FORK);
        post.send(2, 3, 1, false);
        post.send(2, 4, 1, false);
        post.tick(3);
        check.isWhy(post, 0, 1, 101);
        post.set(9, 1);
        post.tick(1);
        check.isWhy(post, 0, 3, 305);
        post.set(9, 60);
        check.isWhy(post, 0, 0, 0);
        check.isWhy(post, 1, 0, 0);
        post.tick(1);
        check.isWhy(post, 0, 1, 101);
        check.isWhy(post, 1, 5, 505);
    }

    private static void costOf() {
        check.part("19 costOf");
        CountedPost post = new CountedPost();
        check.is("over mill, one bar", post.costOf(0, 3, 1), 1);
        check.is("four notes", post.costOf(0, 3, 4), 1);
        check.is("two bars", post.costOf(0, 3, 5), 2);
        check.is("eight notes", post.costOf(1, 3, 8), 4);
        check.is("from inn over mill", post.costOf(3, 1, 8), 6);
        check.is("to itself", post.costOf(3, 3, 8), 0);
        post.cut(0, 2);
        check.is("over barn", post.costOf(0, 3, 5), 6);
        post.cut(0, 1);
        check.is("no route", post.costOf(0, 3, 5), WhistlePosts.NONE);
        check.isThrownForRoofs("costOf", (a, b) -> post.costOf(a, b, 1));
        check.isThrownForRoofs("no such roof goes first", (a, b) -> post.costOf(a, b, 0));
        for (int notes : new int[] {0, 9, -1, Check.MIN, Check.MAX}) {
            check.isThrown("notes " + notes, Check.OUT, () -> post.costOf(0, 1, notes));
        }
    }

    private static void wrongOn() {
        check.part("20 wrongOn");
        CountedPost post = new CountedPost();
        check.is("12 by 10", post.wrongOn(0, 1, 8), 1);
        check.is("12 less 6, by 10", post.wrongOn(1, 0, 8), 0);
        check.is("27 less 15, by 10; 9 less 3, by 10", post.wrongOn(0, 3, 8), 1);
        post.set(8, 9);
        // 81 less 15, by 10; 27 less 3, by 10
        check.is("6 and 2", post.wrongOn(0, 3, 8), 8);
        check.is("6 and 2, of four notes", post.wrongOn(0, 3, 4), 6);
        check.is("of one note", post.wrongOn(0, 3, 1), 2);
        // 27 less 15, by 10; 54 by 10
        check.is("1 and 5", post.wrongOn(3, 1, 8), 6);
        check.is("to itself", post.wrongOn(2, 2, 8), 0);
        post.set(8, 0);
        check.is("no wind", post.wrongOn(0, 3, 8), 0);
        post.cut(2, 3);
        check.is("no route", post.wrongOn(0, 3, 8), WhistlePosts.NONE);
        check.isThrownForRoofs("wrongOn", (a, b) -> post.wrongOn(a, b, 1));
        check.isThrownForRoofs("no such roof goes first", (a, b) -> post.wrongOn(a, b, 9));
        for (int notes : new int[] {0, 9, -1, Check.MIN, Check.MAX}) {
            check.isThrown("notes " + notes, Check.OUT, () -> post.wrongOn(0, 1, notes));
        }
    }

    private static void calmest() {
        check.part("21 calmest");
        CountedPost post = Check.loaded("roof a 1 0 0 0;roof b 1 1 0 0;roof c 1 9 0 0;roof d 1 0 0 0;way a b 5;way b c 9;");
        check.is("10 less 3 is below 10, 15 less 3 is not", post.calmest(0, 1), 2);
        check.is("5 is below 10", post.calmest(1, 0), 1);
        check.is("36 less 27 is below 10", post.calmest(1, 2), 4);
        check.is("the worst hop counts", post.calmest(0, 2), 2);
        check.is("9 less 3", post.calmest(2, 1), 1);
        check.is("to itself", post.calmest(1, 1), 9);
        check.is("no route", post.calmest(0, 3), WhistlePosts.NONE);
        post.set(8, 9);
        check.is("whatever the wind is", post.calmest(0, 1), 2);
        check.isThrownForRoofs("calmest", post::calmest);
        CountedPost near = Check.loaded("roof a 1 0 0 0;roof b 1 0 0 0;way a b 1;");
        check.is("9 is below 10", near.calmest(0, 1), 9);
    }

    private static void arrivesIn() {
        check.part("22 arrivesIn");
        CountedPost post = new CountedPost();
        post.send(0, 3, 1234, true);
        // there at 16, but wrong, and anew from 16 on
        check.is("at the second try", post.arrivesIn(0), 31);
        check.is("time stays", post.count(7), 0);
        check.is("no change", post.count(13), 1);
        post.tick(5);
        check.is("5 less", post.arrivesIn(0), 26);
        post.tick(25);
        check.is("one more", post.arrivesIn(0), 1);
        post.tick(1);
        check.is("it has", post.arrivesIn(0), 0);
        post.tick(100);
        check.is("it has long since", post.arrivesIn(0), 0);
        for (int tune : new int[] {-1, 1, Check.MIN, Check.MAX}) {
            check.isThrown("tune " + tune, Check.NO_SUCH, () -> post.arrivesIn(tune));
        }
    }

    private static void arrivesLate() {
        check.part("22 arrivesIn, late or never");
        CountedPost post = Check.loaded("roof a 1 9 1 1;roof b 1 9 0 0;roof c 1 9 0 0;way a b 1;dusk 60;");
        post.send(0, 1, 1, false);
        post.send(0, 2, 1, false);
        check.is("whistled at 1 until 2, there at 3", post.arrivesIn(0), 3);
        check.is("never", post.arrivesIn(1), WhistlePosts.NONE);
        CountedPost last = Check.loaded(Check.PAIR);
        for (int i = 0; i < 49; i++) {
            last.tick(200);
        }
        last.tick(199);
        last.send(0, 1, 1, false);
        check.is("beyond 9999", last.arrivesIn(0), 3);
        check.isThrown("no tick is left", Check.STATE, () -> last.tick(1));
        // eight notes by breath 1 are whistled at 1, 9, 17 and so on; each is there 16 ticks later
        CountedPost slow = Check.loaded("roof a 1 9 0 0;roof b 1 9 0 0;way a b 8;dusk 60;");
        for (int i = 0; i < 26; i++) {
            slow.send(0, 1, 12345670, false);
        }
        check.is("tune 22 at 193", slow.arrivesIn(22), 193);
        check.is("tune 23 at 201", slow.arrivesIn(23), WhistlePosts.NONE);
        slow.tick(1);
        check.is("tune 23, a tick later", slow.arrivesIn(23), 200);
        check.is("tune 24", slow.arrivesIn(24), WhistlePosts.NONE);
        slow.tick(8);
        check.is("tune 24, nine ticks later", slow.arrivesIn(24), 200);
        check.is("tune 25", slow.arrivesIn(25), WhistlePosts.NONE);
    }

    private static void growsBy() {
        check.part("23 growsBy");
        CountedPost post = new CountedPost();
        post.send(0, 3, 1234, true);
        post.send(0, 1, 55555, false);
        post.give(1, 5);
        post.tick(3);
        for (int what = 0; what <= 10; what++) {
            for (int ticks : new int[] {1, 4, 40, 200}) {
                int grows = post.growsBy(what, ticks);
                int before = post.account(what);
                post.tick(ticks);
                check.is("account " + what + " in " + ticks, grows, post.account(what) - before);
                post.undo();
            }
            check.is("in no tick", post.growsBy(what, 0), 0);
        }
        check.is("ticks", post.growsBy(0, 200), 200);
        check.is("coins", post.growsBy(10, 200), 0);
        check.is("time stays", post.count(7), 3);
        check.is("no change", post.count(13), 4);
        for (int wrong : new int[] {-1, 11, Check.MIN, Check.MAX}) {
            check.isThrown("what " + wrong, Check.OUT, () -> post.growsBy(wrong, 1));
        }
        for (int wrong : new int[] {-1, 201, Check.MIN, Check.MAX}) {
            check.isThrown("ticks " + wrong, Check.OUT, () -> post.growsBy(0, wrong));
        }
        for (int i = 0; i < 49; i++) {
            post.tick(200);
        }
        check.is("beyond 9999", post.growsBy(0, 200), 200);
    }

    private static void dearestWay() {
        check.part("24 dearestWay");
        CountedPost post = new CountedPost();
        check.is("that to inn", post.dearestWay(), 3);
        post.cut(2, 3);
        check.is("a ring: all alike", post.dearestWay(), 0);
        post.cut(0, 1);
        check.is("two in a row", post.dearestWay(), 0);
        post.cut(1, 2);
        post.cut(0, 2);
        check.is("no ways", post.dearestWay(), WhistlePosts.NONE);
        CountedPost line = Check.loaded(Check.tenRoofs() + Check.ways(9));
        check.is("in the middle", line.dearestWay(), 4);
        line.cut(0, 1);
        check.is("of nine, 4 by 5 as 5 by 4", line.dearestWay(), 3);
        line.cut(4, 5);
        // b to e, and f to j: 2 by 2 without c to d, but 2 by 3 without g to h
        check.is("in the greater part", line.dearestWay(), 4);
        CountedPost three = Check.loaded("roof a 1 0 0 0;roof b 1 0 0 0;roof c 1 0 0 0;way a b 1;way b c 1;");
        check.is("either parts 2 by 1", three.dearestWay(), 0);
        CountedPost tail = Check.loaded("roof a 1 0 0 0;roof b 1 0 0 0;roof c 1 0 0 0;roof d 1 0 0 0;roof e 1 0 0 0;"
            + "way a b 1;way a c 1;way b c 1;way d e 1;way c d 1;");
        check.is("c to d parts 3 by 2", tail.dearestWay(), 4);
    }

    private static void agree() {
        check.part("25 agree");
        CountedPost post = new CountedPost();
        check.is("at first", post.agree(), true);
        post.send(0, 3, 1234, true);
        post.send(1, 3, 12345670, true);
        post.give(0, 99);
        for (int i = 0; i < 40; i++) {
            if (i == 20) {
                post.cut(2, 3);
                post.send(3, 0, 5, false);
            }
            post.tick(3);
            check.is("then", post.agree(), true);
        }
        post.undo();
        check.is("behind undo", post.agree(), true);
        check.is("is no change", post.count(13), 7);
        check.is("in a line", Check.loaded(Check.tenRoofs() + Check.ways(9)).agree(), true);
        check.is("with no ways", Check.loaded(Check.tenRoofs()).agree(), true);
    }

    private static void meanPurse() {
        check.part("26 meanPurse");
        CountedPost post = new CountedPost();
        check.isExactly("99 by 4", post.meanPurse(), 24.75);
        post.give(1, 2);
        check.isExactly("101 by 4", post.meanPurse(), 25.25);
        CountedPost three = Check.loaded("roof a 1 0 0 50;roof b 1 0 0 50;roof c 1 0 0 0;");
        check.isExactly("100 by 3", three.meanPurse(), 100.0 / 3.0);
        check.isExactly("0", Check.loaded("roof a 1 0 0 0;roof b 1 0 0 0;").meanPurse(), 0.0);
    }

    private static void rightPart() {
        check.part("27 rightPart");
        CountedPost post = Check.loaded("roof a 8 0 0 0;roof b 8 9 0 0;way a b 4;again 0;");
        check.isExactly("none arrived", post.rightPart(), 0.0f);
        post.send(0, 1, 1, false);
        check.isExactly("still none", post.rightPart(), 0.0f);
        post.tick(9);
        check.isExactly("one of one", post.rightPart(), 1.0f);
        post.send(1, 0, 1, false);
        post.send(1, 0, 1, false);
        post.tick(9);
        check.isExactly("one of three", post.rightPart(), 1.0f / 3.0f);
        post.send(0, 1, 1, false);
        post.tick(9);
        check.isExactly("two of four", post.rightPart(), 0.5f);
    }

    private static void isPrinted(CountedPost post, String due) {
        check.is("bytes", post.printRoofs(), due.length());
        check.isText("printRoofs", Check.output(post), due);
    }

    private static void printRoofs() {
        check.part("34 printRoofs");
        CountedPost post = new CountedPost();
        isPrinted(post, "tower:30 barn:20 mill:9 inn:40");
        post.send(0, 3, 12345, false);
        post.send(0, 1, 1, false);
        post.send(0, 1, 1, false);
        post.send(3, 0, 1, false);
        post.tick(1);
        isPrinted(post, "tower:30!/2 barn:20 mill:9 inn:40!");
        post.printTune(1);
        check.isText("in place of what it had", Check.output(post), "1>barn");
        isPrinted(post, "tower:30!/2 barn:20 mill:9 inn:40!");
        check.is("is no change", post.count(13), 5);
        CountedPost great = Check.loaded("roof a 1 0 0 0;roof abcdef 1 0 0 999;");
        for (int i = 0; i < 10; i++) {
            great.send(0, 1, 1, false);
        }
        great.give(1, 99);
        great.send(1, 0, 1, false);
        isPrinted(great, "a:0/10 abcdef:1098/1");
    }

    private static void printTune() {
        check.part("35 printTune");
        CountedPost post = new CountedPost();
        post.set(10, 0);
        post.send(0, 1, 1277, false);
        check.is("bytes", post.printTune(0), 9);
        check.isText("as sent", Check.output(post), "1277>barn");
        post.set(8, 5);
        post.tick(6);
        check.is("bytes", post.printTune(0), 11);
        check.isText("as heard", Check.output(post), "2'3'77>barn");
        post.printRoofs();
        check.is("bytes", post.printTune(0), 11);
        check.isText("in place of what it had", Check.output(post), "2'3'77>barn");
        for (int tune : new int[] {-1, 1, Check.MIN, Check.MAX}) {
            check.isThrown("tune " + tune, Check.NO_SUCH, () -> post.printTune(tune));
        }
        check.isText("a throw changes nothing", Check.output(post), "2'3'77>barn");
        check.is("is no change", post.count(13), 4);
    }

    private static void outputByte() {
        check.part("36 outputByte");
        CountedPost post = Check.loaded(Check.PAIR);
        check.is("nothing yet", post.outputByte(0), -1);
        post.printRoofs();
        String due = "a:10 b:20";
        for (int i = 0; i < due.length(); i++) {
            check.is("byte " + i, post.outputByte(i), due.charAt(i));
        }
        for (int index : new int[] {-1, 9, 10, 400, Check.MIN, Check.MAX}) {
            check.is("byte " + index, post.outputByte(index), -1);
        }
        post.send(0, 1, 1, false);
        post.printTune(0);
        check.is("the last byte", post.outputByte(2), 'b');
        check.is("nothing is left of it", post.outputByte(3), -1);
    }
}
