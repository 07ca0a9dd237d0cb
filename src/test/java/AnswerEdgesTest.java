/** The edges of promises 8 to 27 and 34 to 36, and of sections 1, 2, 5 and 6 as far as they are asked for there. */
public final class AnswerEdgesTest {
    private static final Check check = new Check();
    private static final Edges edges = new Edges(check);

    private static final int NONE = WhistlePosts.NONE;
    private static final String NO_ROOF = "Throws IndexOutOfBoundsException if there is no such ROOF";
    private static final String NO_TUNE = "Throws IndexOutOfBoundsException if there is no such TUNE";
    private static final String WHAT_OUT = "Throws IllegalArgumentException if what is out of range";
    private static final String NOTES_OUT = "Throws IllegalArgumentException if notes is out of range";
    private static final String FIRST_LISTED = "If several exceptions apply to a call, the one that is listed first is thrown";

    private AnswerEdgesTest() {
    }

    public static void main(String[] args) {
        promises8To10();
        promises11To14();
        promises15To17();
        promise18();
        promises19To21();
        promises22And23();
        promises24To27();
        promises34To36();
        answersAreNoChanges();
        edges.coverPromises(8, 27);
        edges.coverPromises(34, 36);
        check.end();
    }

    private static void promises8To10() {
        edges.of(8, WHAT_OUT, () -> whatIsOut(0, 13, CountedPost::count));
        edges.of(8, "2 TUNES, 3 to 6 those with the STATES 0 to 3", AnswerEdgesTest::p8States);
        edges.of(8, "TIME is 0 at first, 9999 at most", AnswerEdgesTest::p8Time);
        edges.of(8, "11 whistlers that are BUSY now", AnswerEdgesTest::p8Busy);
        edges.of(8, "12 all PURSES together", AnswerEdgesTest::p8Purses);
        edges.of(8, "13 changes that can be undone", AnswerEdgesTest::p8Changes);
        edges.of(8, "There are 2 to 10 ROOFS", AnswerEdgesTest::p8RoofsAndWays);
        edges.of(9, WHAT_OUT, () -> whatIsOut(0, 10, CountedPost::account));
        edges.of(9, "its number, 0 to 10", AnswerEdgesTest::p9Each);
        edges.of(9, "Returns the sum so far", AnswerEdgesTest::p9FromZero);
        edges.of(10, NO_ROOF, () -> roofIsOut((post, roof) -> post.nameByte(roof, 0)));
        edges.of(10, "Returns the byte; NONE if there is no such byte", AnswerEdgesTest::p10NoByte);
        edges.of(10, "index of the byte, from 0", AnswerEdgesTest::p10EachLetter);
    }

    private static void promises11To14() {
        edges.of(11, NO_ROOF, () -> roofIsOut((post, roof) -> post.roof(roof, 0)));
        edges.of(11, WHAT_OUT, () -> whatIsOut(0, 7, (post, what) -> post.roof(3, what)));
        edges.of(11, FIRST_LISTED, () -> roofIsOut((post, roof) -> post.roof(roof, roof == 4 || roof == -1 ? -1 : 8)));
        edges.of(11, "4 the ticks until its whistler is not BUSY (0 if it is not)", AnswerEdgesTest::p11Busy);
        edges.of(11, "5 TUNES that wait there", AnswerEdgesTest::p11Waiting);
        edges.of(11, "6 WAYS that end there", AnswerEdgesTest::p11Ways);
        edges.of(11, "7 TUNES that were whistled there since the load", AnswerEdgesTest::p11Whistled);
        edges.of(12, "Throws IndexOutOfBoundsException if there is no such WAY", AnswerEdgesTest::p12NoWay);
        edges.of(12, WHAT_OUT, () -> whatIsOut(0, 2, (post, what) -> post.way(1, what)));
        edges.of(12, FIRST_LISTED, AnswerEdgesTest::p12First);
        edges.of(12, "(those behind one that was cut have numbers less by 1)", AnswerEdgesTest::p12Behind);
        edges.of(12, "0, 1 its ROOFS, as they were told, 2 FAR", AnswerEdgesTest::p12AsTold);
        edges.of(13, NO_ROOF, () -> roofsAreOut((post, roof, goal) -> post.route(roof, goal)));
        edges.of(13, "Returns the sum, 0 if they are the same", AnswerEdgesTest::p13Same);
        edges.of(13, "NONE if there is no route", AnswerEdgesTest::p13NoRoute);
        edges.of(13, "Returns the least sum of FARS of a route", AnswerEdgesTest::p13Least);
        edges.of(14, NO_ROOF, () -> roofsAreOut((post, roof, goal) -> post.next(roof, goal)));
        edges.of(14, "NONE if there is no route, or they are the same", AnswerEdgesTest::p14None);
        edges.of(14, "the ROOF with the smallest number to which a WAY goes by which a route of the least sum of FARS begins",
            AnswerEdgesTest::p14Smallest);
    }

    private static void promises15To17() {
        edges.of(15, NO_TUNE, () -> tuneIsOut((post, tune) -> post.tune(tune, 0)));
        edges.of(15, WHAT_OUT, () -> whatIsOut(0, 11, (post, what) -> post.tune(4, what)));
        edges.of(15, FIRST_LISTED, () -> tuneIsOut((post, tune) -> post.tune(tune, tune == 5 || tune == -1 ? 12 : -1)));
        edges.of(15, "5 END (NONE if it is not in the AIR)", AnswerEdgesTest::p15End);
        edges.of(15, "of one that is LOST where it was", AnswerEdgesTest::p15At);
        edges.of(15, "BARS of a TUNE are its NOTES and 3, together, divided by 4", AnswerEdgesTest::p15Bars);
        edges.of(15, "10 NOTES that are HEARD unlike SENT", AnswerEdgesTest::p15Unlike);
        edges.of(15, "8 TRIES", AnswerEdgesTest::p15Tries);
        edges.of(15, "11 hops so far (each time that it was whistled)", AnswerEdgesTest::p15Hops);
        edges.of(16, NO_TUNE, () -> tuneIsOut((post, tune) -> post.note(tune, 0, false)));
        edges.of(16, "Returns the NOTE; NONE if there are not so many", AnswerEdgesTest::p16NotSoMany);
        edges.of(16, "whether it is asked for as HEARD, otherwise as SENT", AnswerEdgesTest::p16HeardOrSent);
        edges.of(17, NO_ROOF, () -> roofIsOut((post, roof) -> post.waiting(roof, 0)));
        edges.of(17, "Returns the TUNE; NONE if there are not so many", AnswerEdgesTest::p17NotSoMany);
        edges.of(17, "whether they can be or not", AnswerEdgesTest::p17CanBeOrNot);
        edges.of(17, "by the order in which they would be whistled (BARS, then number)", AnswerEdgesTest::p17Order);
    }

    private static void promise18() {
        edges.of(18, NO_TUNE, () -> tuneIsOut((post, tune) -> post.why(tune, 0)));
        edges.of(18, "Throws IllegalArgumentException if depth is out of range",
            () -> whatIsOut(0, 1, (post, depth) -> post.why(4, depth)));
        edges.of(18, FIRST_LISTED, () -> tuneIsOut((post, tune) -> post.why(tune, tune == 5 || tune == -1 ? 2 : -1)));
        edges.of(18, "Returns the number; 0 if there is none such", AnswerEdgesTest::p18ItWould);
        edges.of(18, "1 it does not wait, caused by 100 plus STATE", AnswerEdgesTest::p18State);
        edges.of(18, "2 there is no route, caused by 200 plus its GOAL", AnswerEdgesTest::p18NoRoute);
        edges.of(18, "3 it would be behind DUSK, caused by 300 plus the rest of that TIME divided by 60", AnswerEdgesTest::p18Dusk);
        edges.of(18, "4 the whistler would be BUSY, caused by 400 plus the ticks until it is not (from that TIME on)",
            AnswerEdgesTest::p18Busy);
        edges.of(18, "5 PURSE of the sender is too small, caused by 500 plus by how much", AnswerEdgesTest::p18Purse);
        edges.of(18, "6 another TUNE goes first, caused by 600 plus its number", AnswerEdgesTest::p18Another);
        edges.of(18, "otherwise, and for all others, the smallest that applies", AnswerEdgesTest::p18Smallest);
        edges.of(18, "(nothing that is in the AIR is thought of)", AnswerEdgesTest::p18Air);
    }

    private static void promises19To21() {
        edges.of(19, NO_ROOF, () -> roofsAreOut((post, roof, goal) -> post.costOf(roof, goal, 1)));
        edges.of(19, NOTES_OUT, () -> whatIsOut(1, 8, (post, notes) -> post.costOf(0, 2, notes)));
        edges.of(19, FIRST_LISTED, () -> roofsAreOut((post, roof, goal) -> post.costOf(roof, goal, 0)));
        edges.of(19, "NONE if there is no route", AnswerEdgesTest::p19NoRoute);
        edges.of(19, "BARS of a TUNE are its NOTES and 3, together, divided by 4", AnswerEdgesTest::p19Bars);
        edges.of(19, "BARS times FEE of each ROOF of which it would be whistled, together", AnswerEdgesTest::p19EachRoof);
        edges.of(20, NO_ROOF, () -> roofsAreOut((post, roof, goal) -> post.wrongOn(roof, goal, 1)));
        edges.of(20, NOTES_OUT, () -> whatIsOut(1, 8, (post, notes) -> post.wrongOn(0, 2, notes)));
        edges.of(20, FIRST_LISTED, () -> roofsAreOut((post, roof, goal) -> post.wrongOn(roof, goal, 9)));
        edges.of(20, "NONE if there is no route", AnswerEdgesTest::p20NoRoute);
        edges.of(20, "0 at least, divided by 10, but not more than its NOTES", AnswerEdgesTest::p20Limits);
        edges.of(20, "hop by hop together (a NOTE may count more than once), as all is now", AnswerEdgesTest::p20Together);
        edges.of(21, NO_ROOF, () -> roofsAreOut((post, roof, goal) -> post.calmest(roof, goal)));
        edges.of(21, "NONE if there is no route (WIND 0 makes none)", AnswerEdgesTest::p21NoRoute);
        edges.of(21, "Returns the greatest WIND by which no NOTE would become WRONG on a route", AnswerEdgesTest::p21Greatest);
    }

    private static void promises22And23() {
        edges.of(22, NO_TUNE, () -> tuneIsOut((post, tune) -> post.arrivesIn(tune)));
        edges.of(22, "Returns how many, 0 if it has", AnswerEdgesTest::p22ItHas);
        edges.of(22, "NONE if not within 200", AnswerEdgesTest::p22Within);
        edges.of(22, "What would come is worked out on a copy, where ticks go by also beyond 9999", AnswerEdgesTest::p22Beyond);
        edges.of(22, "and nothing else is done", () -> check.isIdle("arrivesIn", post -> post.arrivesIn(4)));
        edges.of(23, "Throws IllegalArgumentException if a number is out of range",
            () -> whatIsOut(0, 10, (post, what) -> post.growsBy(what, 1)));
        edges.of(23, "0 to 200", () -> whatIsOut(0, 200, (post, ticks) -> post.growsBy(0, ticks)));
        edges.of(23, "Returns by how much.", AnswerEdgesTest::p23FewestAndMost);
        edges.of(23, "What would come is worked out on a copy, where ticks go by also beyond 9999", AnswerEdgesTest::p23Beyond);
        edges.of(23, "and nothing else is done", () -> check.isIdle("growsBy", post -> post.growsBy(1, 200)));
    }

    private static void promises24To27() {
        edges.of(24, "NONE without WAYS", AnswerEdgesTest::p24NoWays);
        edges.of(24, "Returns the WAY, of several the smallest", AnswerEdgesTest::p24Smallest);
        edges.of(24, "the WAY without which most pairs of ROOFS (each once) would have no route", AnswerEdgesTest::p24Most);
        edges.of(25, "Returns true (always)", AnswerEdgesTest::p25Always);
        edges.of(26, "the sum and ROOFS converted to double and divided", AnswerEdgesTest::p26Quotient);
        edges.of(27, "Returns the quotient; 0 if none ARRIVED", AnswerEdgesTest::p27NoneArrived);
        edges.of(27, "accounts 6 and 5, both converted to float and divided", AnswerEdgesTest::p27Quotient);
    }

    private static void promises34To36() {
        edges.of(34, "an exclamation mark (byte 33) if its whistler is BUSY", AnswerEdgesTest::p34Busy);
        edges.of(34, "and, if TUNES wait there, a slash (byte 47) and how many", AnswerEdgesTest::p34Waiting);
        edges.of(34, "a colon (byte 58) and PURSE", AnswerEdgesTest::p34Purse);
        edges.of(34, "in place of what it had", AnswerEdgesTest::p34InPlace);
        edges.of(34, "with a space (byte 32) between two", AnswerEdgesTest::p34Between);
        edges.of(34, "Returns the number of bytes", AnswerEdgesTest::p34Longest);
        edges.of(35, NO_TUNE, () -> tuneIsOut((post, tune) -> post.printTune(tune)));
        edges.of(35, "an apostrophe (byte 39) behind each that is unlike SENT", AnswerEdgesTest::p35Unlike);
        edges.of(35, "Returns the number of bytes", AnswerEdgesTest::p35Bytes);
        edges.of(35, "in place of what it had", AnswerEdgesTest::p35InPlace);
        edges.of(36, "Returns the byte; -1 if there is no such byte", AnswerEdgesTest::p36NoByte);
        edges.of(36, "index of the byte, from 0", AnswerEdgesTest::p36Ends);
    }

    private static void answersAreNoChanges() {
        isNoChange(8, post -> post.count(13));
        isNoChange(9, post -> post.account(10));
        isNoChange(10, post -> post.nameByte(3, 2));
        isNoChange(11, post -> post.roof(3, 7));
        isNoChange(12, post -> post.way(1, 2));
        isNoChange(13, post -> post.route(0, 2));
        isNoChange(14, post -> post.next(0, 2));
        isNoChange(15, post -> post.tune(4, 11));
        isNoChange(16, post -> post.note(3, 6, true));
        isNoChange(17, post -> post.waiting(0, 1));
        isNoChange(18, post -> post.why(4, 1));
        isNoChange(19, post -> post.costOf(0, 2, 8));
        isNoChange(20, post -> post.wrongOn(0, 2, 8));
        isNoChange(21, post -> post.calmest(0, 2));
        isNoChange(22, post -> post.arrivesIn(2));
        isNoChange(23, post -> post.growsBy(5, 200));
        isNoChange(24, CountedPost::dearestWay);
        isNoChange(25, CountedPost::agree);
        isNoChange(26, CountedPost::meanPurse);
        isNoChange(27, CountedPost::rightPart);
        isNoChange(36, post -> post.outputByte(0));
        for (int promise = 34; promise <= 35; promise++) {
            Twins.Treatment print = promise == 34 ? CountedPost::printRoofs : post -> post.printTune(3);
            edges.of(promise, "Changes are the methods whose description says so", () -> check.isIdle("a print", Twins.BUT_OUTPUT, print));
        }
    }

    private static void isNoChange(int promise, Twins.Treatment call) {
        edges.of(promise, "Changes are the methods whose description says so", () -> check.isIdle("an answer", call));
    }

    private interface OneAsked {
        void of(CountedPost post, int number);
    }

    private interface TwoAsked {
        void of(CountedPost post, int roof, int goal);
    }

    /** Of a lively post, which has four roofs. */
    private static void roofIsOut(OneAsked call) {
        isOut(Check.NO_SUCH, 0, 3, call);
    }

    /** Of a lively post, which has five tunes; and of a new one, which has none. */
    private static void tuneIsOut(OneAsked call) {
        isOut(Check.NO_SUCH, 0, 4, call);
        for (int tune : new int[] {-1, 0, 1}) {
            CountedPost post = new CountedPost();
            check.isThrown("tune " + tune + " of none", Check.NO_SUCH, () -> call.of(post, tune));
        }
    }

    private static void whatIsOut(int least, int most, OneAsked call) {
        isOut(Check.OUT, least, most, call);
        for (int number : new int[] {least, least + 1, most - 1, most}) {
            check.isIdle("number " + number, post -> call.of(post, number));
        }
    }

    private static void isOut(Class<? extends RuntimeException> due, int least, int most, OneAsked call) {
        for (int number : Check.outside(least, most)) {
            check.isRefused("number " + number, due, post -> call.of(post, number));
        }
        CountedPost post = new CountedPost();
        Check.lively(post);
        for (int number = least; number <= most; number += number < least + 20 ? 1 : 20) {
            int taken = number;
            String thrown = Check.thrownBy(() -> call.of(post, taken));
            check.is("number " + number + " is no such", thrown.equals(due.getSimpleName()), false);
        }
    }

    private static void roofsAreOut(TwoAsked call) {
        for (int roof : Check.outside(0, 3)) {
            check.isRefused("from " + roof, Check.NO_SUCH, post -> call.of(post, roof, 0));
            check.isRefused("to " + roof, Check.NO_SUCH, post -> call.of(post, 0, roof));
            check.isRefused("from and to " + roof, Check.NO_SUCH, post -> call.of(post, roof, roof));
        }
        CountedPost post = new CountedPost();
        Check.lively(post);
        for (int roof = 0; roof < 4; roof++) {
            for (int goal = 0; goal < 4; goal++) {
                int from = roof;
                int to = goal;
                String thrown = Check.thrownBy(() -> call.of(post, from, to));
                check.is("from " + from + " to " + to + " is no such", thrown.equals("IndexOutOfBoundsException"), false);
            }
        }
    }

    private static void p8States() {
        CountedPost post = Check.loaded(Check.PAIR + "roof c 1 0 0 0;wind 0;");
        check.areCounts(post, 3, 1, 0, 0, 0, 0, 0, 0);
        Check.play(post, "send a b 1;".repeat(30));
        check.areCounts(post, 3, 1, 30, 30, 0, 0, 0, 0);
        post.tick(1);
        check.areCounts(post, 3, 1, 30, 29, 1, 0, 0, 1);
        post.tick(28);
        check.areCounts(post, 3, 1, 30, 1, 2, 27, 0, 29);
        post.tick(1);
        check.areCounts(post, 3, 1, 30, 0, 2, 28, 0, 30);
        post.tick(1);
        check.areCounts(post, 3, 1, 30, 0, 1, 29, 0, 31);
        post.tick(1);
        check.areCounts(post, 3, 1, 30, 0, 0, 30, 0, 32);
        CountedPost lost = Check.loaded(Check.PAIR + "roof c 1 0 0 0;");
        Check.play(lost, "send a c 1;".repeat(30));
        check.areCounts(lost, 3, 1, 30, 30, 0, 0, 0, 0);
        lost.tick(1);
        check.areCounts(lost, 3, 1, 30, 0, 0, 0, 30, 1);
    }

    private static void p8Time() {
        CountedPost post = Check.loaded(Check.PAIR);
        check.is("at first", post.count(7), 0);
        post.tick(1);
        check.is("one", post.count(7), 1);
        for (int i = 0; i < 49; i++) {
            post.tick(200);
        }
        post.tick(197);
        check.is("one before the last", post.count(7), 9998);
        post.tick(1);
        check.is("the last", post.count(7), 9999);
        check.isThrown("one more", Check.STATE, () -> post.tick(1));
        check.is("still the last", post.count(7), 9999);
        check.is("and account 0", post.account(0), 9999);
    }

    private static void p8Busy() {
        CountedPost post = Check.loaded("roof a 1 0 0 0;roof b 1 0 0 0;way a b 9;wind 0;");
        check.is("nobody", post.count(11), 0);
        post.send(0, 1, 11, false);
        post.send(1, 0, 111, false);
        check.is("nobody yet", post.count(11), 0);
        int[] due = {2, 2, 1, 0, 0};
        for (int time = 1; time <= due.length; time++) {
            post.tick(1);
            check.is("at " + time, post.count(11), due[time - 1]);
        }
        StringBuilder ring = new StringBuilder(Check.tenRoofs()).append(Check.ways(9)).append("way j a 1;");
        CountedPost all = Check.loaded(ring.toString());
        for (int roof = 0; roof < 10; roof++) {
            all.send(roof, (roof + 1) % 10, 1, false);
        }
        all.tick(1);
        check.is("all ten", all.count(11), 10);
        all.tick(1);
        check.is("none of ten", all.count(11), 0);
    }

    private static void p8Purses() {
        check.is("none has one", Check.loaded(Check.tenRoofs()).count(12), 0);
        check.is("ten times 999", Check.loaded(Check.tenRoofs().replace("0 0 0;", "0 0 999;")).count(12), 9990);
        CountedPost post = Check.loaded("roof a 1 0 9 9;roof b 1 0 9 9;way a b 1;");
        post.send(0, 1, 1, false);
        post.send(1, 0, 1, false);
        post.tick(1);
        check.is("fees move coins alone", post.count(12), 18);
        post.give(0, 1);
        check.is("coins come by giving", post.count(12), 19);
    }

    private static void p8Changes() {
        CountedPost post = Check.loaded(Check.PAIR);
        for (int changes = 0; changes <= 12; changes++) {
            check.is("changes", post.count(13), Math.min(8, changes));
            post.give(0, 1);
        }
        for (int left = 7; left >= 0; left--) {
            post.undo();
            check.is("left", post.count(13), left);
        }
        check.isThrown("none", Check.NOTHING, post::undo);
        check.is("still none", post.count(13), 0);
    }

    private static void p8RoofsAndWays() {
        CountedPost least = Check.loaded("roof a 1 0 0 0;roof b 1 0 0 0;");
        check.is("two roofs", least.count(0), 2);
        check.is("no way", least.count(1), 0);
        CountedPost most = Check.loaded(Check.tenRoofs() + Check.ways(20));
        check.is("ten roofs", most.count(0), 10);
        check.is("twenty ways", most.count(1), 20);
    }

    /** One tune becomes wrong, is sent anew and arrives wrong; one is answered; one is lost. */
    private static void p9Each() {
        CountedPost post = Check.loaded("roof a 8 0 2 50;roof b 8 0 0 0;roof c 8 0 0 0;way a b 4;");
        post.send(0, 1, 11, true);
        post.send(1, 2, 1, false);
        post.give(1, 3);
        check.areAccounts(post, 0, 2, 0, 0, 0, 0, 0, 0, 0, 0, 3);
        post.tick(1);
        check.areAccounts(post, 1, 2, 0, 1, 0, 0, 0, 0, 1, 2, 3);
        post.tick(4);
        check.areAccounts(post, 5, 2, 0, 1, 0, 0, 0, 0, 1, 2, 3);
        post.tick(1);
        check.areAccounts(post, 6, 2, 0, 2, 1, 0, 0, 1, 1, 4, 3);
        post.tick(5);
        check.areAccounts(post, 11, 2, 0, 2, 2, 1, 0, 1, 1, 4, 3);
        post.set(8, 2);
        post.send(0, 1, 1, true);
        post.tick(6);
        check.areAccounts(post, 17, 4, 1, 4, 2, 2, 1, 1, 1, 6, 3);
    }

    private static void p9FromZero() {
        check.areAccounts(new CountedPost(), 0, 0, 0, 0, 0, 0, 0, 0, 0, 0, 0);
        CountedPost post = new CountedPost();
        Check.lively(post);
        post.truncateInput(0);
        Check.load(post, Check.PAIR);
        check.areAccounts(post, 0, 0, 0, 0, 0, 0, 0, 0, 0, 0, 0);
    }

    private static void p10NoByte() {
        for (int letters = 1; letters <= 6; letters++) {
            String name = "azmzaz".substring(0, letters);
            CountedPost post = Check.loaded("roof " + name + " 1 0 0 0;roof q 1 0 0 0;");
            for (int index = 0; index < 10; index++) {
                check.is("byte " + index, post.nameByte(0, index), index < letters ? name.charAt(index) : NONE);
            }
            for (int index : new int[] {-1, -6, 31, 32, 64, Check.MIN, Check.MAX}) {
                check.is("byte " + index, post.nameByte(0, index), NONE);
            }
            check.is("the other name", post.nameByte(1, 0), 'q');
            check.is("has one letter", post.nameByte(1, 1), NONE);
        }
    }

    private static void p10EachLetter() {
        for (char letter = 'a'; letter <= 'z'; letter++) {
            String name = "" + letter + letter + letter + letter + letter + letter;
            CountedPost post = Check.loaded("roof x" + letter + " 1 0 0 0;roof " + name + " 1 0 0 0;");
            check.is("second byte", post.nameByte(0, 1), letter);
            check.isText("six letters", Check.name(post, 1), name);
        }
    }

    private static void p11Busy() {
        for (int notes = 1, number = 1; notes <= 8; notes++, number = number * 10 + 1) {
            CountedPost post = Check.loaded("roof a 1 0 0 0;roof b 1 0 0 0;way a b 9;");
            post.send(0, 1, number, false);
            check.is("before it whistles", post.roof(0, 4), 0);
            for (int left = notes; left >= 0; left--) {
                post.tick(1);
                check.is("left", post.roof(0, 4), left);
            }
            post.tick(1);
            check.is("long since not", post.roof(0, 4), 0);
            check.is("the other one", post.roof(1, 4), 0);
        }
    }

    private static void p11Waiting() {
        CountedPost post = Check.loaded(Check.PAIR);
        check.is("none", post.roof(0, 5), 0);
        for (int tunes = 1; tunes <= 30; tunes++) {
            post.send(0, 1, 1, false);
            check.is("waiting", post.roof(0, 5), tunes);
        }
        check.is("none at the goal", post.roof(1, 5), 0);
        post.tick(1);
        check.is("one is in the air", post.roof(0, 5), 29);
        check.is("and does not wait at its goal", post.roof(1, 5), 0);
        post.tick(49);
        post.tick(13);
        check.is("all have gone", post.roof(0, 5), 0);
        check.is("all have arrived, and wait no more", post.roof(1, 5), 0);
    }

    private static void p11Ways() {
        StringBuilder star = new StringBuilder(Check.tenRoofs());
        for (char name = 'b'; name <= 'j'; name++) {
            star.append(name % 2 == 0 ? "way a " + name : "way " + name + " a").append(" 1;");
        }
        CountedPost post = Check.loaded(star.toString());
        check.is("nine", post.roof(0, 6), 9);
        check.is("one", post.roof(9, 6), 1);
        for (int other = 9; other >= 1; other--) {
            post.cut(0, other);
            check.is("fewer", post.roof(0, 6), other - 1);
            check.is("none", post.roof(other, 6), 0);
        }
    }

    private static void p11Whistled() {
        CountedPost post = Check.loaded(Check.PAIR);
        Check.play(post, "send a b 1;".repeat(30));
        check.is("none", post.roof(0, 7), 0);
        for (int time = 1; time <= 30; time++) {
            post.tick(1);
            check.is("one a tick", post.roof(0, 7), time);
        }
        post.tick(10);
        check.is("no more", post.roof(0, 7), 30);
        check.is("none by the goal", post.roof(1, 7), 0);
        Check.load(post, Check.PAIR);
        check.is("a load begins anew", post.roof(0, 7), 0);
    }

    private static void p12NoWay() {
        for (int way : Check.outside(0, 1)) {
            check.isRefused("way " + way, Check.NO_SUCH, post -> post.way(way, 0));
        }
        CountedPost post = Check.loaded(Check.tenRoofs() + Check.ways(20));
        check.isWay(post, 19, 2, 5, 1);
        check.isThrown("way 20", Check.NO_SUCH, () -> post.way(20, 0));
        CountedPost none = Check.loaded("roof a 1 0 0 0;roof b 1 0 0 0;");
        check.isThrown("way 0 of none", Check.NO_SUCH, () -> none.way(0, 0));
        check.isThrown("way -1 of none", Check.NO_SUCH, () -> none.way(-1, 0));
        CountedPost one = Check.loaded(Check.PAIR);
        check.isWay(one, 0, 0, 1, 1);
        one.cut(0, 1);
        check.isThrown("way 0, cut", Check.NO_SUCH, () -> one.way(0, 0));
    }

    private static void p12First() {
        for (int way : Check.outside(0, 1)) {
            for (int what : Check.outside(0, 2)) {
                check.isRefused("way " + way, Check.NO_SUCH, post -> post.way(way, what));
            }
        }
    }

    private static void p12Behind() {
        for (int cut = 0; cut < 9; cut++) {
            CountedPost post = Check.loaded(Check.tenRoofs() + Check.ways(9));
            post.cut(cut, cut + 1);
            for (int way = 0; way < 8; way++) {
                int due = way < cut ? way : way + 1;
                check.isWay(post, way, due, due + 1, 1);
            }
            check.isThrown("way 8", Check.NO_SUCH, () -> post.way(8, 0));
        }
    }

    private static void p12AsTold() {
        for (int far = 1; far <= 9; far++) {
            CountedPost post = Check.loaded("roof a 1 0 0 0;roof b 1 0 0 0;roof c 1 0 0 0;way b a " + far + ";way a c 1;");
            check.isWay(post, 0, 1, 0, far);
            check.isWay(post, 1, 0, 2, 1);
        }
    }

    private static void p13Same() {
        CountedPost post = Check.loaded(Check.ROW);
        for (int roof = 0; roof < 4; roof++) {
            check.is("to itself", post.route(roof, roof), 0);
        }
        check.is("to the nearest", Check.loaded(Check.PAIR).route(0, 1), 1);
    }

    private static void p13NoRoute() {
        CountedPost post = Check.loaded(Check.ROW);
        for (int roof = 0; roof < 3; roof++) {
            check.is("to d", post.route(roof, 3), NONE);
            check.is("from d", post.route(3, roof), NONE);
        }
        check.is("from a to c", post.route(0, 2), 5);
        post.cut(1, 2);
        check.is("from a to c no more", post.route(0, 2), NONE);
        check.is("from a to b still", post.route(0, 1), 2);
        post.cut(0, 1);
        check.is("from a to b no more", post.route(0, 1), NONE);
        check.is("to itself all the same", post.route(0, 0), 0);
    }

    private static void p13Least() {
        for (int far = 1; far <= 9; far++) {
            CountedPost post = Check.loaded("roof a 1 0 0 0;roof b 1 0 0 0;roof c 1 0 0 0;way a b 2;way b c 3;way a c " + far + ";");
            check.is("5 or the way itself", post.route(0, 2), Math.min(5, far));
            check.is("and back", post.route(2, 0), Math.min(5, far));
            check.is("next", post.next(0, 2), far < 5 ? 2 : 1);
            check.is("next back", post.next(2, 0), far <= 5 ? 0 : 1);
        }
        CountedPost line = Check.loaded(Check.tenRoofs() + Check.ways(9).replace(" 1;", " 9;"));
        check.is("the longest", line.route(0, 9), 81);
        check.is("one hop less", line.route(0, 8), 72);
    }

    private static void p14None() {
        CountedPost post = Check.loaded(Check.ROW);
        for (int roof = 0; roof < 4; roof++) {
            check.is("to itself", post.next(roof, roof), NONE);
            check.is("to d", post.next(roof, 3), NONE);
            check.is("from d", post.next(3, roof), NONE);
        }
        check.is("from a to c", post.next(0, 2), 1);
        check.is("from b to c", post.next(1, 2), 2);
        post.cut(1, 2);
        check.is("from a to c no more", post.next(0, 2), NONE);
        check.is("from a to b still", post.next(0, 1), 1);
    }

    private static void p14Smallest() {
        // from a to j over b to i, each in two hops
        StringBuilder text = new StringBuilder(Check.tenRoofs());
        for (char name = 'i'; name >= 'b'; name--) {
            text.append("way a ").append(name).append(" 4;way j ").append(name).append(" 5;");
        }
        text.append("way a j 9;");
        CountedPost post = Check.loaded(text.toString());
        for (int over = 1; over <= 8; over++) {
            check.is("the first of all", post.next(0, 9), over);
            check.is("back, a itself is the first", post.next(9, 0), 0);
            check.is("route", post.route(0, 9), 9);
            post.cut(over, over % 2 == 0 ? 9 : 0);
        }
        check.is("the way itself", post.next(0, 9), 9);
        // a route by the smallest number that is longer by 1 is none of these
        CountedPost longer = Check.loaded("roof a 1 0 0 0;roof b 1 0 0 0;roof c 1 0 0 0;way a b 4;way b c 2;way a c 5;");
        check.is("the way itself", longer.next(0, 2), 2);
    }

    private static void p15End() {
        CountedPost post = Check.loaded("roof a 1 9 0 0;roof b 1 9 0 0;roof c 1 9 0 0;way a b 1;");
        post.send(0, 1, 1, false);
        post.send(0, 2, 1, false);
        check.is("it waits", post.tune(0, 5), NONE);
        post.tick(1);
        check.is("it is in the air until 3", post.tune(0, 5), 3);
        check.is("the other one is lost", post.tune(1, 5), NONE);
        post.tick(1);
        check.is("still in the air", post.tune(0, 5), 3);
        post.tick(1);
        check.is("it has arrived", post.tune(0, 5), NONE);
        for (int far = 1; far <= 9; far++) {
            CountedPost other = Check.loaded("roof a 1 9 0 0;roof b 1 9 0 0;way a b " + far + ";");
            other.send(0, 1, 12345670, false);
            other.tick(1);
            check.is("1 and 8 and " + far, other.tune(0, 5), 9 + far);
        }
    }

    private static void p15At() {
        CountedPost post = Check.loaded(Check.ROW + "wind 0;");
        post.send(0, 2, 1, false);
        post.send(2, 3, 1, false);
        check.is("it waits at its sender", post.tune(0, 4), 0);
        post.tick(1);
        check.is("in the air, to b", post.tune(0, 4), 1);
        check.is("lost where it was", post.tune(1, 4), 2);
        post.tick(2);
        check.is("still in the air", post.tune(0, 4), 1);
        post.tick(1);
        check.is("on to c", post.tune(0, 4), 2);
        post.tick(4);
        check.is("it has arrived", post.tune(0, 3), 2);
        check.is("at its goal", post.tune(0, 4), 2);
        post.send(0, 2, 1, false);
        post.tick(1);
        post.cut(1, 2);
        post.tick(3);
        check.is("lost on its way", post.tune(2, 3), 3);
        check.is("at b", post.tune(2, 4), 1);
    }

    private static void p15Bars() {
        CountedPost post = Check.loaded(Check.PAIR);
        for (int notes = 1, number = 1; notes <= 8; notes++, number = number * 10 + 1) {
            int tune = post.send(0, 1, number, false);
            check.is("notes", post.tune(tune, 2), notes);
            check.is("bars", post.tune(tune, 9), notes < 5 ? 1 : 2);
        }
    }

    /** A pair of roofs by which so many notes become wrong, up to 8. */
    private static CountedPost windy(int wrong) {
        String[] winds = {"0", "2", "4", "6", "8", "9", "9", "8", "9"};
        String[] fars = {"9", "5", "5", "5", "5", "6", "7", "9", "9"};
        return Check.loaded("roof a 8 0 0 0;roof b 8 0 0 0;way a b " + fars[wrong] + ";wind " + winds[wrong] + ";again 0;");
    }

    private static void p15Unlike() {
        for (int wrong = 0; wrong <= 8; wrong++) {
            CountedPost post = windy(wrong);
            post.send(0, 1, 12345670, false);
            check.is("none yet", post.tune(0, 10), 0);
            post.tick(11);
            check.is("unlike", post.tune(0, 10), wrong);
            check.is("account", post.account(4), wrong);
        }
        CountedPost one = windy(8);
        one.send(0, 1, 7, false);
        one.tick(11);
        check.is("the only one", one.tune(0, 10), 1);
    }

    private static void p15Tries() {
        for (int again = 0; again <= 3; again++) {
            CountedPost post = windy(1);
            post.set(10, again);
            post.send(0, 1, 1, false);
            check.is("0 at first", post.tune(0, 8), 0);
            post.tick(100);
            check.is("tries", post.tune(0, 8), again);
            check.is("arrived", post.tune(0, 3), 2);
            check.is("hops", post.tune(0, 11), again + 1);
        }
    }

    private static void p15Hops() {
        CountedPost line = Check.loaded(Check.tenRoofs() + Check.ways(9) + "wind 0;dusk 60;");
        line.send(0, 9, 1, false);
        check.is("none", line.tune(0, 11), 0);
        for (int hops = 1; hops <= 9; hops++) {
            line.tick(1);
            check.is("whistled", line.tune(0, 11), hops);
            line.tick(1);
            check.is("in the air", line.tune(0, 11), hops);
        }
        line.tick(1);
        check.is("arrived", line.tune(0, 3), 2);
        check.is("by nine hops", line.tune(0, 11), 9);
    }

    private static void p16NotSoMany() {
        CountedPost post = Check.loaded(Check.PAIR);
        for (int notes = 1, number = 1; notes <= 8; notes++, number = number * 10 + notes % 8) {
            int tune = post.send(0, 1, number, false);
            for (int index = 0; index < 10; index++) {
                int due = index < notes ? (index + 1) % 8 : NONE;
                check.is("sent", post.note(tune, index, false), due);
                check.is("heard", post.note(tune, index, true), due);
            }
            for (int index : new int[] {-1, -8, 32, Check.MIN, Check.MAX}) {
                check.is("note " + index, post.note(tune, index, false), NONE);
                check.is("note " + index, post.note(tune, index, true), NONE);
            }
        }
    }

    private static void p16HeardOrSent() {
        CountedPost post = windy(8);
        post.send(0, 1, 1234567, false);
        post.tick(10);
        for (int index = 0; index < 7; index++) {
            check.is("sent", post.note(0, index, false), index + 1);
            check.is("still sent", post.note(0, index, true), index + 1);
        }
        post.tick(1);
        for (int index = 0; index < 7; index++) {
            check.is("sent", post.note(0, index, false), index + 1);
            check.is("heard", post.note(0, index, true), (index + 2) % 8);
        }
    }

    private static void p17NotSoMany() {
        CountedPost post = Check.loaded(Check.PAIR);
        check.is("none", post.waiting(0, 0), NONE);
        for (int tunes = 1; tunes <= 30; tunes++) {
            post.send(0, 1, 1, false);
            check.is("the first", post.waiting(0, 0), 0);
            check.is("the last", post.waiting(0, tunes - 1), tunes - 1);
            check.is("behind it", post.waiting(0, tunes), NONE);
        }
        for (int place : new int[] {-1, 30, 31, Check.MIN, Check.MAX}) {
            check.is("place " + place, post.waiting(0, place), NONE);
        }
        check.is("none at b", post.waiting(1, 0), NONE);
        post.tick(1);
        check.is("the first has gone", post.waiting(0, 0), 1);
        check.is("29 are left", post.waiting(0, 28), 29);
        check.is("and no more", post.waiting(0, 29), NONE);
    }

    private static void p17CanBeOrNot() {
        // no route, no coins, and behind dusk
        CountedPost post = Check.loaded("roof a 1 0 9 8;roof b 1 0 0 0;roof c 1 0 0 0;way a b 1;dusk 1;");
        post.send(0, 2, 12345, false);
        post.send(0, 1, 1, false);
        post.send(0, 1, 12345, false);
        check.is("by bars", post.waiting(0, 0), 0);
        check.is("then number", post.waiting(0, 1), 2);
        check.is("then the other", post.waiting(0, 2), 1);
        check.is("no more", post.waiting(0, 3), NONE);
        post.tick(1);
        check.is("one is lost", post.waiting(0, 0), 2);
        check.is("the other stays", post.waiting(0, 1), 1);
        check.is("no more", post.waiting(0, 2), NONE);
    }

    private static void p17Order() {
        CountedPost post = Check.loaded(Check.PAIR);
        int[] notes = {1111, 11111, 1, 11111111, 111111, 0};
        for (int number : notes) {
            post.send(0, 1, number, false);
        }
        int[] due = {1, 3, 4, 0, 2, 5, NONE};
        for (int place = 0; place < due.length; place++) {
            check.is("place " + place, post.waiting(0, place), due[place]);
        }
        for (int time = 1; time <= 6; time++) {
            post.tick(1);
            check.is("it is whistled at " + time, post.tune(due[time - 1], 3), 1);
            check.is("the next one is not", post.waiting(0, 0), due[time]);
        }
    }

    private static void p18ItWould() {
        CountedPost post = Check.loaded(Check.PAIR);
        post.send(0, 1, 1, false);
        check.isWhy(post, 0, 0, 0);
        post.tick(1);
        check.isWhy(post, 0, 1, 101);
    }

    private static void p18State() {
        CountedPost post = new CountedPost();
        Check.lively(post);
        check.isWhy(post, 0, 1, 102);
        check.isWhy(post, 1, 1, 103);
        check.isWhy(post, 2, 1, 101);
        check.isWhy(post, 3, 1, 101);
        // ann whistles 7 notes by breath 2 from 6 to 10
        check.isWhy(post, 4, 4, 403);
    }

    private static void p18NoRoute() {
        CountedPost post = Check.loaded(Check.tenRoofs() + "way a b 1;");
        for (int goal = 1; goal <= 9; goal++) {
            post.send(0, goal, 1, false);
            check.isWhy(post, goal - 1, goal == 1 ? 0 : 2, goal == 1 ? 0 : 200 + goal);
        }
        post.cut(0, 1);
        check.isWhy(post, 0, 2, 201);
        post.send(1, 0, 1, false);
        check.isWhy(post, 9, 2, 200);
    }

    private static void p18Dusk() {
        for (int dusk : new int[] {1, 2, 30, 59, 60}) {
            for (int time = 1; time <= 122; time++) {
                CountedPost now = Check.loaded(Check.PAIR + "dusk " + dusk + ";");
                if (time > 1) {
                    now.tick(time - 1);
                }
                now.send(0, 1, 1, false);
                boolean isBehind = time % 60 >= dusk;
                check.isWhy(now, 0, isBehind ? 3 : 0, isBehind ? 300 + time % 60 : 0);
                now.tick(1);
                check.is("as it comes", now.tune(0, 3), isBehind ? 0 : 1);
            }
        }
        CountedPost last = Check.loaded(Check.PAIR);
        for (int i = 0; i < 49; i++) {
            last.tick(200);
        }
        last.tick(199);
        last.send(0, 1, 1, false);
        check.isWhy(last, 0, 0, 0);
        last.set(9, 40);
        check.isWhy(last, 0, 3, 340);
    }

    private static void p18Busy() {
        for (int notes = 1, number = 1; notes <= 8; notes++, number = number * 10 + 1) {
            CountedPost post = Check.loaded("roof a 1 9 0 0;roof b 1 9 0 0;way a b 1;");
            post.send(0, 1, number, false);
            post.send(0, 1, 0, false);
            post.tick(1);
            // busy until 1 and its notes
            for (int when = 2; when <= notes + 1; when++) {
                boolean isBusy = when < 1 + notes;
                check.isWhy(post, 1, isBusy ? 4 : 0, isBusy ? 400 + 1 + notes - when : 0);
                if (isBusy) {
                    post.tick(1);
                    check.is("as it comes", post.tune(1, 3), 0);
                }
            }
            post.tick(1);
            check.is("it goes", post.tune(1, 3), 1);
        }
    }

    private static void p18Purse() {
        for (int purse = 0; purse <= 20; purse++) {
            CountedPost post = Check.loaded("roof a 1 0 9 " + purse + ";roof b 1 0 0 0;way a b 1;");
            post.send(0, 1, 1234, false);
            check.isWhy(post, 0, purse < 9 ? 5 : 0, purse < 9 ? 509 - purse : 0);
            post.send(0, 1, 12345, false);
            check.isWhy(post, 1, purse < 18 ? 5 : 0, purse < 18 ? 518 - purse : 0);
        }
        CountedPost free = Check.loaded("roof a 1 0 0 0;roof b 1 0 0 0;way a b 1;");
        free.send(0, 1, 1, false);
        check.isWhy(free, 0, 0, 0);
    }

    private static void p18Another() {
        CountedPost post = Check.loaded(Check.PAIR);
        post.send(0, 1, 1234, false);
        check.isWhy(post, 0, 0, 0);
        post.send(0, 1, 1, false);
        check.isWhy(post, 0, 0, 0);
        check.isWhy(post, 1, 6, 600);
        post.send(0, 1, 12345, false);
        check.isWhy(post, 0, 6, 602);
        check.isWhy(post, 1, 6, 602);
        check.isWhy(post, 2, 0, 0);
        post.send(0, 1, 12345670, false);
        check.isWhy(post, 2, 0, 0);
        check.isWhy(post, 3, 6, 602);
        for (int tune = 4; tune < 30; tune++) {
            post.send(1, 0, 1, false);
        }
        check.isWhy(post, 4, 0, 0);
        check.isWhy(post, 29, 6, 604);
        // a dearer one that cannot be paid, or has no route, goes not first
        CountedPost poor = Check.loaded("roof a 1 0 9 9;roof b 1 0 0 0;roof c 1 0 0 0;way a b 1;");
        poor.send(0, 1, 12345, false);
        poor.send(0, 2, 12345, false);
        poor.send(0, 1, 1, false);
        check.isWhy(poor, 0, 5, 509);
        check.isWhy(poor, 1, 2, 202);
        check.isWhy(poor, 2, 0, 0);
    }

    private static void p18Smallest() {
        CountedPost post = Check.loaded("roof a 1 0 9 9;roof b 1 0 0 0;way a b 1;dusk 2;");
        post.send(0, 1, 1234, false);
        post.send(0, 1, 12345, false);
        check.isWhy(post, 0, 0, 0);
        check.isWhy(post, 1, 5, 509);
        post.tick(1);
        // now each of 3, 4 and 5 applies; without dusk 4 and 5; and then 5 alone
        check.isWhy(post, 1, 3, 302);
        post.set(9, 60);
        check.isWhy(post, 1, 4, 403);
        post.tick(3);
        check.isWhy(post, 1, 5, 509);
        post.send(0, 1, 1, false);
        check.isWhy(post, 2, 0, 0);
        check.isWhy(post, 1, 5, 509);
        post.give(0, 9);
        check.isWhy(post, 1, 0, 0);
        check.isWhy(post, 2, 6, 601);
        post.set(9, 1);
        check.isWhy(post, 2, 3, 305);
        post.cut(0, 1);
        check.isWhy(post, 2, 2, 201);
        post.tick(1);
        check.isWhy(post, 2, 1, 103);
    }

    /** A tune that comes to b in the tick that would come has more bars, but is still in the air. */
    private static void p18Air() {
        CountedPost post = Check.loaded("roof a 8 9 0 0;roof b 8 9 0 0;roof c 8 9 0 0;way a b 1;way b c 1;");
        post.send(0, 2, 12345, false);
        post.tick(2);
        post.send(1, 2, 1, false);
        check.isWhy(post, 1, 0, 0);
        post.tick(1);
        check.is("the one with more bars went first", post.tune(0, 11), 2);
        check.is("this one waits", post.tune(1, 3), 0);
    }

    private static void p19NoRoute() {
        CountedPost post = Check.loaded(Check.ROW);
        check.is("to d", post.costOf(0, 3, 1), NONE);
        check.is("from d", post.costOf(3, 0, 1), NONE);
        check.is("to b", post.costOf(0, 1, 1), 1);
        check.is("to itself", post.costOf(0, 0, 8), 0);
        check.is("alone, to itself", post.costOf(3, 3, 8), 0);
        post.cut(0, 1);
        check.is("to b no more", post.costOf(0, 1, 1), NONE);
    }

    private static void p19Bars() {
        CountedPost post = Check.loaded(Check.ROW);
        for (int notes = 1; notes <= 8; notes++) {
            check.is(notes + " notes", post.costOf(0, 1, notes), notes < 5 ? 1 : 2);
            check.is(notes + " notes over b", post.costOf(0, 2, notes), notes < 5 ? 3 : 6);
        }
    }

    private static void p19EachRoof() {
        CountedPost line = Check.loaded(Check.tenRoofs().replace("1 0 0 0;", "1 0 9 0;") + Check.ways(9));
        for (int goal = 0; goal <= 9; goal++) {
            check.is("9 a hop", line.costOf(0, goal, 4), 9 * goal);
            check.is("18 a hop", line.costOf(9, 9 - goal, 8), 18 * goal);
        }
        CountedPost free = Check.loaded(Check.PAIR);
        check.is("no fee", free.costOf(0, 1, 8), 0);
        // the goal's own fee is not counted
        CountedPost last = Check.loaded("roof a 1 0 1 0;roof b 1 0 9 0;way a b 1;");
        check.is("of a", last.costOf(0, 1, 1), 1);
        check.is("of b", last.costOf(1, 0, 1), 9);
    }

    private static void p20NoRoute() {
        CountedPost post = Check.loaded(Check.ROW);
        check.is("to d", post.wrongOn(0, 3, 1), NONE);
        check.is("from d", post.wrongOn(3, 0, 1), NONE);
        check.is("to b", post.wrongOn(0, 1, 1), 0);
        check.is("to itself", post.wrongOn(0, 0, 8), 0);
        check.is("alone, to itself", post.wrongOn(3, 3, 8), 0);
        post.cut(0, 1);
        check.is("to b no more", post.wrongOn(0, 1, 1), NONE);
    }

    private static void p20Limits() {
        for (int far = 1; far <= 9; far++) {
            for (int ear = 0; ear <= 9; ear++) {
                CountedPost post = Check.loaded("roof a 1 0 0 0;roof b 1 " + ear + " 0 0;way a b " + far + ";");
                for (int wind = 0; wind <= 9; wind++) {
                    post.set(8, wind);
                    int gust = wind * far < 3 * ear ? 0 : wind * far - 3 * ear;
                    for (int notes = 1; notes <= 8; notes++) {
                        int due = gust / 10 < notes ? gust / 10 : notes;
                        check.is("by wind " + wind + ", far " + far + ", ear " + ear, post.wrongOn(0, 1, notes), due);
                    }
                }
            }
        }
    }

    private static void p20Together() {
        CountedPost line = Check.loaded(Check.tenRoofs() + Check.ways(9).replace(" 1;", " 9;") + "wind 9;");
        for (int goal = 0; goal <= 9; goal++) {
            check.is("one a hop", line.wrongOn(0, goal, 1), goal);
            check.is("seven a hop", line.wrongOn(0, goal, 7), 7 * goal);
            check.is("eight a hop", line.wrongOn(0, goal, 8), 8 * goal);
        }
        // the ear is that of the roof to which it is whistled
        CountedPost ears = Check.loaded("roof a 1 9 0 0;roof b 1 0 0 0;way a b 4;wind 9;");
        check.is("to b", ears.wrongOn(0, 1, 8), 3);
        check.is("to a", ears.wrongOn(1, 0, 8), 0);
    }

    private static void p21NoRoute() {
        CountedPost post = Check.loaded(Check.ROW);
        check.is("to d", post.calmest(0, 3), NONE);
        check.is("from d", post.calmest(3, 0), NONE);
        check.is("to b", post.calmest(0, 1), 4);
        post.cut(0, 1);
        check.is("to b no more", post.calmest(0, 1), NONE);
        check.is("to itself", post.calmest(3, 3), 9);
    }

    private static void p21Greatest() {
        for (int far = 1; far <= 9; far++) {
            for (int ear = 0; ear <= 9; ear++) {
                CountedPost post = Check.loaded("roof a 1 0 0 0;roof b 1 " + ear + " 0 0;way a b " + far + ";");
                int calmest = post.calmest(0, 1);
                int due = Math.min(9, (9 + 3 * ear) / far);
                check.is("by far " + far + ", ear " + ear, calmest, due);
                post.set(8, due);
                check.is("none is wrong", post.wrongOn(0, 1, 8), 0);
                if (due < 9) {
                    post.set(8, due + 1);
                    check.is("one more, and some are", post.wrongOn(0, 1, 1), 1);
                }
            }
        }
        // of a long route the worst hop counts, not all together
        CountedPost line = Check.loaded(Check.tenRoofs() + Check.ways(9));
        check.is("nine hops of 1", line.calmest(0, 9), 9);
        CountedPost worst = Check.loaded(Check.tenRoofs() + Check.ways(8) + "way i j 9;");
        check.is("and one of 9", worst.calmest(0, 9), 1);
        check.is("but not so far", worst.calmest(0, 8), 9);
    }

    private static void p22ItHas() {
        CountedPost post = Check.loaded(Check.PAIR);
        post.send(0, 1, 1, false);
        for (int left = 3; left >= 0; left--) {
            check.is("ticks", post.arrivesIn(0), left);
            post.tick(1);
        }
        check.is("long since", post.arrivesIn(0), 0);
    }

    /** Eight notes by breath 1 over FAR 9: whistled at 1, 9, 17 and so on, each is there 17 ticks later. */
    private static void p22Within() {
        CountedPost post = Check.loaded("roof a 1 9 0 0;roof b 1 9 0 0;roof c 1 0 0 0;way a b 9;dusk 60;");
        for (int tune = 0; tune < 29; tune++) {
            post.send(0, 1, 12345670, false);
        }
        post.send(0, 2, 1, false);
        for (int tune = 0; tune < 29; tune++) {
            int due = 1 + 8 * tune + 17;
            check.is("tune " + tune, post.arrivesIn(tune), due <= 200 ? due : NONE);
        }
        check.is("it will be lost", post.arrivesIn(29), NONE);
        post.tick(1);
        check.is("it is lost", post.arrivesIn(29), NONE);
        // tune 23 comes at 202
        check.is("at 202, 201 ticks are left", post.arrivesIn(23), NONE);
        post.tick(1);
        check.is("200 are left", post.arrivesIn(23), 200);
        post.tick(1);
        check.is("199 are left", post.arrivesIn(23), 199);
    }

    private static CountedPost atTime(int time) {
        CountedPost post = Check.loaded(Check.PAIR + "dusk 60;");
        for (int rest = time; rest > 0; rest -= 200) {
            post.tick(Math.min(rest, 200));
        }
        return post;
    }

    private static void p22Beyond() {
        for (int time = 9995; time <= 9999; time++) {
            CountedPost post = atTime(time);
            post.send(0, 1, 1, false);
            check.is("at " + time, post.arrivesIn(0), 3);
            check.is("time", post.count(7), time);
        }
    }

    private static void p23FewestAndMost() {
        CountedPost post = Check.loaded("roof a 8 9 1 900;roof b 8 9 1 900;way a b 1;dusk 60;");
        Check.play(post, "ask a b 1 2 3 4 5;ask b a 1;");
        for (int what = 0; what <= 10; what++) {
            check.is("in no tick", post.growsBy(what, 0), 0);
            int grows = post.growsBy(what, 200);
            int before = post.account(what);
            post.tick(200);
            check.is("in 200 ticks", post.account(what) - before, grows);
            post.undo();
        }
        check.is("ticks", post.growsBy(0, 1), 1);
        check.is("ticks", post.growsBy(0, 199), 199);
        check.is("ticks", post.growsBy(0, 200), 200);
        check.is("whistled in one", post.growsBy(3, 1), 2);
        check.is("arrived in two", post.growsBy(5, 2), 0);
        check.is("arrived in three", post.growsBy(5, 3), 2);
    }

    private static void p23Beyond() {
        for (int time : new int[] {9798, 9799, 9800, 9998, 9999}) {
            CountedPost post = atTime(time);
            post.send(0, 1, 1, true);
            check.is("at " + time, post.growsBy(0, 200), 200);
            check.is("arrive", post.growsBy(5, 200), 2);
            check.is("time", post.count(7), time);
        }
    }

    private static void p24NoWays() {
        CountedPost post = Check.loaded("roof a 1 0 0 0;roof b 1 0 0 0;");
        check.is("none", post.dearestWay(), NONE);
        CountedPost one = Check.loaded(Check.PAIR);
        check.is("one", one.dearestWay(), 0);
        one.cut(0, 1);
        check.is("none any more", one.dearestWay(), NONE);
    }

    private static void p24Smallest() {
        CountedPost ring = Check.loaded("roof a 1 0 0 0;roof b 1 0 0 0;roof c 1 0 0 0;way a b 9;way b c 1;way a c 5;");
        check.is("of those that part none", ring.dearestWay(), 0);
        ring.cut(0, 1);
        check.is("of two alike", ring.dearestWay(), 0);
        CountedPost most = Check.loaded(Check.tenRoofs() + Check.ways(20));
        check.is("of twenty that part none", most.dearestWay(), 0);
    }

    private static void p24Most() {
        for (int hung = 0; hung < 5; hung++) {
            // a ring of a, b and c, and one roof that hangs on it by the way told at this place
            String[] ways = {"way a b 1;", "way b c 1;", "way a c 1;"};
            StringBuilder text = new StringBuilder("roof a 1 0 0 0;roof b 1 0 0 0;roof c 1 0 0 0;roof d 1 0 0 0;");
            for (int i = 0; i < 4; i++) {
                if (i == hung) {
                    text.append("way c d 9;");
                }
                if (i < 3) {
                    text.append(ways[i]);
                }
            }
            CountedPost post = Check.loaded(text.toString());
            check.is("that to d", post.dearestWay(), hung < 4 ? hung : 0);
        }
        CountedPost first = Check.loaded("roof a 1 0 0 0;roof b 1 0 0 0;roof c 1 0 0 0;roof d 1 0 0 0;"
            + "way b c 1;way c d 1;way b d 1;way d a 1;");
        check.is("that to a", first.dearestWay(), 3);
        CountedPost apart = Check.loaded("roof a 1 0 0 0;roof b 1 0 0 0;roof c 1 0 0 0;roof d 1 0 0 0;roof e 1 0 0 0;"
            + "way a b 1;way c d 1;way d e 1;");
        check.is("2 by 1 in the greater part", apart.dearestWay(), 1);
        CountedPost line = Check.loaded(Check.tenRoofs() + Check.ways(9));
        check.is("in the middle: 5 by 5", line.dearestWay(), 4);
        line.cut(8, 9);
        check.is("of nine: 4 by 5, twice", line.dearestWay(), 3);
        line.cut(0, 1);
        check.is("of eight: 4 by 4", line.dearestWay(), 3);
    }

    private static void p25Always() {
        check.is("a new post", new CountedPost().agree(), true);
        CountedPost lively = new CountedPost();
        Check.lively(lively);
        check.is("lively", lively.agree(), true);
        for (int i = 0; i < 8; i++) {
            lively.undo();
            check.is("undone", lively.agree(), true);
        }
        lively.restoreState();
        check.is("restored", lively.agree(), true);
        check.is("no ways", Check.loaded("roof a 1 0 0 0;roof b 1 0 0 0;").agree(), true);
        check.is("a line", Check.loaded(Check.tenRoofs() + Check.ways(9)).agree(), true);
        check.is("a long one", Check.loaded(Check.tenRoofs() + Check.ways(9).replace(" 1;", " 9;")).agree(), true);
        CountedPost most = Check.loaded(Check.tenRoofs().replace("0 0 0;", "0 9 999;") + Check.ways(20) + "wind 9;again 3;");
        Check.play(most, "ask a j 1 2 3 4 5;".repeat(30));
        check.is("the most", most.agree(), true);
        for (int i = 0; i < 49; i++) {
            most.tick(200);
            check.is("as time goes by", most.agree(), true);
        }
        most.tick(199);
        check.is("at 9999", most.agree(), true);
        CountedPost full = Check.loaded("roof a 1 0 9 999;roof b 1 0 0 999;way a b 1;");
        for (int i = 0; i < 90; i++) {
            full.give(0, 99);
        }
        full.give(0, 90);
        full.send(1, 0, 1, false);
        full.cut(0, 1);
        full.tick(1);
        check.is("a full purse and a lost tune", full.agree(), true);
    }

    private static void p26Quotient() {
        check.isExactly("0 by 2", Check.loaded("roof a 1 0 0 0;roof b 1 0 0 0;").meanPurse(), 0.0);
        check.isExactly("1 by 2", Check.loaded("roof a 1 0 0 0;roof b 1 0 0 1;").meanPurse(), 0.5);
        check.isExactly("2 by 3", Check.loaded("roof a 1 0 0 1;roof b 1 0 0 1;roof c 1 0 0 0;").meanPurse(), 2.0 / 3.0);
        check.isExactly("9990 by 10", Check.loaded(Check.tenRoofs().replace("0 0 0;", "0 0 999;")).meanPurse(), 999.0);
        CountedPost post = Check.loaded(Check.tenRoofs());
        check.isExactly("0 by 10", post.meanPurse(), 0.0);
        post.give(9, 1);
        check.isExactly("1 by 10", post.meanPurse(), 0.1);
    }

    private static void p27NoneArrived() {
        CountedPost post = windy(1);
        check.isExactly("no tune", post.rightPart(), 0.0f);
        post.send(0, 1, 1, false);
        post.tick(6);
        check.isExactly("in the air", post.rightPart(), 0.0f);
        post.tick(1);
        check.is("one arrived", post.account(5), 1);
        check.isExactly("none of one", post.rightPart(), 0.0f);
        post.set(8, 0);
        post.send(0, 1, 1, false);
        post.tick(7);
        check.isExactly("one of two", post.rightPart(), 0.5f);
    }

    private static void p27Quotient() {
        CountedPost post = Check.loaded("roof a 8 0 0 0;roof b 8 0 0 0;way a b 1;dusk 60;");
        for (int arrived = 1; arrived <= 30; arrived++) {
            post.send(0, 1, 1, false);
            post.tick(3);
            check.isExactly("all of " + arrived, post.rightPart(), 1.0f);
        }
        CountedPost some = Check.loaded("roof a 8 0 0 0;roof b 8 9 0 0;way a b 5;again 0;dusk 60;");
        int right = 0;
        for (int arrived = 1; arrived <= 30; arrived++) {
            boolean isRight = arrived % 3 == 1;
            right += isRight ? 1 : 0;
            some.send(isRight ? 0 : 1, isRight ? 1 : 0, 1, false);
            some.tick(7);
            check.isExactly(right + " of " + arrived, some.rightPart(), (float) right / (float) arrived);
        }
    }

    private static void isPrinted(CountedPost post, String due) {
        check.is("bytes", post.printRoofs(), due.length());
        check.isText("printRoofs", Check.output(post), due);
    }

    private static void p34Busy() {
        CountedPost post = Check.loaded("roof a 1 0 0 0;roof b 1 0 0 0;way a b 9;");
        post.send(0, 1, 12, false);
        isPrinted(post, "a:0/1 b:0");
        post.tick(1);
        isPrinted(post, "a:0! b:0");
        post.tick(1);
        isPrinted(post, "a:0! b:0");
        post.tick(1);
        isPrinted(post, "a:0 b:0");
        post.send(1, 0, 1, false);
        post.send(1, 0, 2, false);
        post.tick(1);
        isPrinted(post, "a:0 b:0!/1");
    }

    private static void p34Waiting() {
        CountedPost post = Check.loaded("roof a 1 0 0 0;roof b 1 0 0 0;");
        isPrinted(post, "a:0 b:0");
        for (int tunes = 1; tunes <= 30; tunes++) {
            post.send(1, 0, 1, false);
            if (tunes <= 2 || tunes >= 9 && tunes <= 11 || tunes >= 29) {
                isPrinted(post, "a:0 b:0/" + tunes);
            }
        }
        post.tick(1);
        isPrinted(post, "a:0 b:0");
    }

    private static void p34Purse() {
        for (int purse : new int[] {0, 1, 9, 10, 11, 99, 100, 101, 999}) {
            isPrinted(Check.loaded("roof a 1 0 0 " + purse + ";roof b 1 0 0 " + purse + ";"), "a:" + purse + " b:" + purse);
        }
        CountedPost post = Check.loaded("roof a 1 0 0 999;roof b 1 0 0 0;");
        post.give(0, 1);
        isPrinted(post, "a:1000 b:0");
        for (int i = 0; i < 90; i++) {
            post.give(0, 99);
        }
        post.give(0, 89);
        isPrinted(post, "a:9999 b:0");
    }

    private static void p34Between() {
        for (int roofs = 2; roofs <= 10; roofs++) {
            StringBuilder text = new StringBuilder();
            StringBuilder due = new StringBuilder();
            for (int roof = 0; roof < roofs; roof++) {
                String name = "abcdef".substring(0, 1 + roof % 6) + (roof < 6 ? "" : "g");
                name = name.length() > 6 ? "g" : name;
                text.append("roof ").append(name).append(" 1 0 0 0;");
                due.append(roof == 0 ? "" : " ").append(name).append(":0");
            }
            isPrinted(Check.loaded(text.toString()), due.toString());
        }
    }

    private static void p34InPlace() {
        CountedPost post = Check.loaded("roof a 1 0 0 10;roof b 8 0 0 0;way b a 1;wind 0;");
        post.send(1, 0, 0, false);
        check.isHeard(post, 0, "0>a");
        isPrinted(post, "a:10 b:0/1");
        isPrinted(post, "a:10 b:0/1");
        post.tick(1);
        isPrinted(post, "a:10 b:0!");
        check.is("nothing is left of a longer one", post.outputByte(9), -1);
        post.tick(1);
        isPrinted(post, "a:10 b:0");
        check.is("nor of this one", post.outputByte(8), -1);
    }

    private static void p34Longest() {
        StringBuilder text = new StringBuilder();
        StringBuilder due = new StringBuilder();
        for (char name = 'a'; name <= 'j'; name++) {
            String six = "zzzzz" + name;
            text.append("roof ").append(six).append(" 1 0 0 999;");
            due.append(name == 'a' ? "" : " ").append(six).append(":999/3");
        }
        CountedPost post = Check.loaded(text.toString());
        for (int tune = 0; tune < 30; tune++) {
            post.send(tune % 10, (tune + 1) % 10, 1, false);
        }
        isPrinted(post, due.toString());
        check.is("ten times 12, and 9 spaces", post.printRoofs(), 129);
    }

    private static void p35Unlike() {
        for (int wrong = 0; wrong <= 8; wrong++) {
            CountedPost post = windy(wrong);
            post.send(0, 1, 12345677, false);
            check.isHeard(post, 0, "12345677>b");
            post.tick(11);
            StringBuilder due = new StringBuilder();
            for (int i = 0; i < 8; i++) {
                int note = "12345677".charAt(i) - '0';
                due.append(i < wrong ? (note + 1) % 8 + "'" : "" + note);
            }
            check.isHeard(post, 0, due + ">b");
        }
    }

    private static void p35Bytes() {
        CountedPost post = Check.loaded("roof a 8 0 0 0;roof abcdef 8 0 0 0;way a abcdef 9;wind 9;again 0;");
        post.send(1, 0, 0, false);
        check.is("the shortest", post.printTune(0), 3);
        check.isText("it is", Check.output(post), "0>a");
        post.send(0, 1, 70707070, false);
        check.is("eight notes", post.printTune(1), 15);
        post.tick(11);
        check.is("the longest", post.printTune(1), 23);
        check.isText("it is", Check.output(post), "0'1'0'1'0'1'0'1'>abcdef");
    }

    private static void p35InPlace() {
        CountedPost post = new CountedPost();
        post.send(0, 1, 12345670, false);
        post.send(1, 3, 0, false);
        post.printRoofs();
        check.isHeard(post, 0, "12345670>barn");
        check.isHeard(post, 1, "0>inn");
        check.isThrown("no such tune", Check.NO_SUCH, () -> post.printTune(2));
        check.isText("it stays", Check.output(post), "0>inn");
    }

    private static void p36NoByte() {
        CountedPost post = Check.loaded(Check.PAIR);
        for (int index : new int[] {-1, 0, 1, Check.MIN, Check.MAX}) {
            check.is("byte " + index + " of none", post.outputByte(index), -1);
        }
        int length = post.printRoofs();
        check.is("a:10 b:20", length, 9);
        for (int index : new int[] {-1, -9, 9, 10, 400, 800, Check.MIN, Check.MAX}) {
            check.is("byte " + index, post.outputByte(index), -1);
        }
        post.send(0, 1, 1, false);
        post.printTune(0);
        check.is("the last byte", post.outputByte(2), 'b');
        check.is("of a shorter output", post.outputByte(3), -1);
    }

    private static void p36Ends() {
        CountedPost post = new CountedPost();
        String due = "tower:30 barn:20 mill:9 inn:40";
        int length = post.printRoofs();
        check.is("length", length, due.length());
        for (int index = 0; index < length; index++) {
            check.is("byte " + index, post.outputByte(index), due.charAt(index));
        }
        check.is("behind the last one", post.outputByte(length), -1);
    }
}
