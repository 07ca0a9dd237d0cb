import java.util.ArrayList;
import java.util.List;

/** The edges of promises 1 to 7 and of section 4: each sentence that names one, with its neighbours. */
public final class TextEdgesTest {
    private static final Check check = new Check();
    private static final Edges edges = new Edges(check);

    private static final String CHANGES = "Changes are the methods whose description says so";
    private static final String FIRST = "roof tower 4 2 1 30;roof barn 2 0 2 20;roof mill 3 5 0 9;roof inn 8 1 3 40;"
        + "way tower barn 4;way barn mill 6;way tower mill 9;way mill inn 3;";
    private static final String A = "roof a 1 0 0 0;";
    private static final String TWO = A + "roof b 1 0 0 0;";
    private static final String THREE = TWO + "roof c 1 0 0 0;";

    private interface Asked {
        int of(CountedPost post);
    }

    private TextEdgesTest() {
    }

    public static void main(String[] args) {
        promises1To3();
        promise4();
        promise5();
        section4();
        promises6And7();
        edges.coverPromises(1, 7);
        check.end();
    }

    private static void promises1To3() {
        edges.of(1, "Creates a post as by the text \"" + FIRST + "\"", TextEdgesTest::p1AsByTheText);
        edges.of(1, "with an empty input buffer", TextEdgesTest::p1EmptyInput);
        edges.of(1, "TIME is 0 at first", TextEdgesTest::p1AllAtFirst);
        edges.of(2, "the four bytes of each parameter, the most significant byte first", TextEdgesTest::p2Order);
        edges.of(2, "Appends 20 bytes to the input buffer", TextEdgesTest::p2Behind);
        edges.of(2, "Returns the new length of the input buffer", TextEdgesTest::p2Length);
        edges.of(2, "-1, with no change, if it would exceed 800", TextEdgesTest::p2Exceeds);
        edges.of(2, "The input buffer holds at most 800 bytes", TextEdgesTest::p2HoldsAll);
        edges.of(3, "false, with no change, if length is negative", TextEdgesTest::p3Negative);
        edges.of(3, "or greater than the current length", TextEdgesTest::p3Greater);
        edges.of(3, "Truncates the input buffer.", TextEdgesTest::p3Truncates);
        edges.of(2, CHANGES, () -> check.isIdle("appendInput", Twins.BUT_TEXTS, Check::appendBlanks));
        edges.of(3, CHANGES, () -> check.isIdle("truncateInput", Twins.BUT_TEXTS, post -> post.truncateInput(3)));
    }

    private static void promise4() {
        edges.of(4, "There are 2 to 10 ROOFS", TextEdgesTest::p4Roofs);
        edges.of(4, "TOO_FEW: the end of a setup with fewer than 2 ROOFS (the offset is the length)", TextEdgesTest::p4TooFew);
        edges.of(4, "TOO_MANY: the first word of an 11th roof", TextEdgesTest::p4EleventhRoof);
        edges.of(4, "There are at most 20 WAYS", TextEdgesTest::p4Ways);
        edges.of(4, "a 21st way", TextEdgesTest::p4Way21);
        edges.of(4, "a name (1 to 6 letters; no two alike)", TextEdgesTest::p4NameLength);
        edges.of(4, "NAME_ERROR: a NAME behind roof that a ROOF has already", TextEdgesTest::p4NameAgain);
        edges.of(4, "another NAME that no ROOF has (as the text is read so far)", TextEdgesTest::p4NoSuchName);
        edges.of(4, "the second P of a statement that is the first one", TextEdgesTest::p4SameRoof);
        edges.of(4, "each between two unlike ROOFS (at most one between any two)", TextEdgesTest::p4OneWayBetween);
        edges.of(4, "REPEATED: the second P of a way between two ROOFS that have one already", TextEdgesTest::p4Repeated);
        edges.of(4, "a BREATH (1 to 8)", () -> sweepSetup("roof a % 0 0 0;roof b 1 0 0 0;", 1, 8, p -> p.roof(0, 0)));
        edges.of(4, "an EAR (0 to 9)", () -> sweepSetup("roof a 1 % 0 0;roof b 1 0 0 0;", 0, 9, p -> p.roof(0, 1)));
        edges.of(4, "a FEE (0 to 9)", () -> sweepSetup("roof a 1 0 % 0;roof b 1 0 0 0;", 0, 9, p -> p.roof(0, 2)));
        edges.of(4, "a PURSE (0 to 999)", () -> sweepSetup("roof a 1 0 0 %;roof b 1 0 0 0;", 0, 999, p -> p.roof(0, 3)));
        edges.of(4, "with a FAR (1 to 9)", () -> sweepSetup(TWO + "way a b %;", 1, 9, p -> p.way(0, 2)));
        edges.of(4, "WIND (0 to 9; 3 at first)", () -> sweepSetup(TWO + "wind %;", 0, 9, p -> p.count(8)));
        edges.of(4, "DUSK (1 to 60; 50 at first)", () -> sweepSetup(TWO + "dusk %;", 1, 60, p -> p.count(9)));
        edges.of(4, "AGAIN (0 to 3; 1 at first)", () -> sweepSetup(TWO + "again %;", 0, 3, p -> p.count(10)));
        edges.of(4, "settings count as they are told last", TextEdgesTest::p4ToldLast);
        edges.of(4, "Loads a setup from the input buffer and empties the buffer, whether the load succeeds or not", TextEdgesTest::p4Empties);
        edges.of(4, "Returns the number of WAYS; -1 if there is an error", TextEdgesTest::p4Returns);
        edges.of(4, "An error changes nothing but the input buffer and the reported error", TextEdgesTest::p4ErrorChangesNothing);
        edges.of(4, "A successful load replaces everything but the output", TextEdgesTest::p4ReplacesAll);
        edges.of(4, "there are no TUNES, nobody is BUSY, all accounts are 0, nothing can be undone, and no state is saved",
            TextEdgesTest::p4NothingIsLeft);
    }

    private static void promise5() {
        edges.of(5, "a 31st statement of a script", TextEdgesTest::p5Statements);
        edges.of(5, "the 9th NOTE", TextEdgesTest::p5NinthNote);
        edges.of(5, "(sender, GOAL, 1 to 8 NOTES)", TextEdgesTest::p5Notes);
        edges.of(5, "1 to 8 NOTES (0 to 7 each)", TextEdgesTest::p5EachNote);
        edges.of(5, "tick N (1 to 200)", () -> sweepScript("tick %;", 1, 200, p -> p.count(7)));
        edges.of(5, "(COINS for a PURSE, 1 to 99)", () -> sweepScript("give a %;", 1, 99, p -> p.account(10)));
        edges.of(5, "WIND (0 to 9; 3 at first)", () -> sweepScript("wind %;", 0, 9, p -> p.count(8)));
        edges.of(5, "DUSK (1 to 60; 50 at first)", () -> sweepScript("dusk %;", 1, 60, p -> p.count(9)));
        edges.of(5, "AGAIN (0 to 3; 1 at first)", () -> sweepScript("again %;", 0, 3, p -> p.count(10)));
        edges.of(5, "another NAME that no ROOF has (as the text is read so far)", TextEdgesTest::p5NoSuchName);
        edges.of(5, "the second P of a statement that is the first one", TextEdgesTest::p5SameRoof);
        edges.of(5, "a NAME of more than 6 letters, too", TextEdgesTest::p5NameLength);
        edges.of(5, "Plays a script from the input buffer and empties the buffer", TextEdgesTest::p5Empties);
        edges.of(5, "Returns the number of statements that were done; -1 if there is an error", TextEdgesTest::p5Returns);
        edges.of(5, "The whole is one change, if the text has no error", TextEdgesTest::p5OneChange);
        edges.of(5, "An error changes nothing but the input buffer and the reported error", TextEdgesTest::p5ErrorChangesNothing);
        String until = "until a method would throw an exception";
        edges.of(5, until, TextEdgesTest::p5UntilTime);
        edges.of(5, until, TextEdgesTest::p5UntilPurse);
        edges.of(5, until, TextEdgesTest::p5UntilNoWay);
        edges.of(5, until, TextEdgesTest::p5UntilTunes);
    }

    private static void section4() {
        edges.of(4, "words (maximal runs of the letters a to z, at most 8)", TextEdgesTest::p4Letters);
        edges.of(4, "numbers (maximal runs of digits, at most 3)", TextEdgesTest::p4Digits);
        edges.of(5, "numbers (maximal runs of digits, at most 3)", TextEdgesTest::p5Digits);
        edges.of(4, "Spaces (32) and line feeds (10) may stand between tokens", TextEdgesTest::p4Blanks);
        edges.of(5, "Spaces (32) and line feeds (10) may stand between tokens", TextEdgesTest::p5Blanks);
        edges.of(4, "Each statement is followed by a semicolon", TextEdgesTest::p4Semicolon);
        edges.of(5, "Each statement is followed by a semicolon", TextEdgesTest::p5Semicolon);
        edges.of(4, "the end of the text where more is required", TextEdgesTest::p4Prefixes);
        edges.of(5, "the end of the text where more is required", TextEdgesTest::p5Prefixes);
        edges.of(4, "a byte that belongs to no token", TextEdgesTest::p4Strays);
        edges.of(5, "a byte that belongs to no token", TextEdgesTest::p5Strays);
        edges.of(4, "one that is too long", TextEdgesTest::p4TooLong);
        edges.of(5, "one that is too long", TextEdgesTest::p5TooLong);
        edges.of(4, "SYNTAX: a token that cannot stand at its place", TextEdgesTest::p4WrongTokens);
        edges.of(5, "SYNTAX: a token that cannot stand at its place", TextEdgesTest::p5WrongTokens);
        edges.of(4, "the first error met is reported, with an offset in bytes from 0", TextEdgesTest::p4FirstError);
        edges.of(5, "the first error met is reported, with an offset in bytes from 0", TextEdgesTest::p5FirstError);
        edges.of(4, "if several errors apply to one token, the one with the smallest code", TextEdgesTest::p4SmallestCode);
        edges.of(5, "if several errors apply to one token, the one with the smallest code", TextEdgesTest::p5SmallestCode);
    }

    private static void promises6And7() {
        edges.of(6, "NO_ERROR if the text of that call had none or there was no call", TextEdgesTest::p6NoError);
        edges.of(6, "Returns the error of the latest call of loadPost or playScript", TextEdgesTest::p6Latest);
        edges.of(6, "Returns an error code", TextEdgesTest::p6EachCode);
        edges.of(6, CHANGES, () -> check.isIdle("errorCode", CountedPost::errorCode));
        edges.of(7, CHANGES, () -> check.isIdle("errorOffset", CountedPost::errorOffset));
        edges.of(7, "-1 if errorCode() is NO_ERROR", TextEdgesTest::p7NoError);
        edges.of(7, "Returns the offset", TextEdgesTest::p7FirstAndLast);
        edges.of(7, "The offset is that of the first byte of the token, or the length of the text", TextEdgesTest::p7FirstByte);
        edges.of(7, "Returns the offset of the error of the latest call of loadPost or playScript", TextEdgesTest::p7Latest);
    }

    private static CountedPost isLoaded(String text, int ways) {
        CountedPost post = new CountedPost();
        check.is(text + " loads", Check.load(post, text), ways);
        check.is(text + ": errorCode", post.errorCode(), WhistlePosts.NO_ERROR);
        check.is(text + ": errorOffset", post.errorOffset(), -1);
        return post;
    }

    private static void isError(String text, int code, int offset) {
        check.isErrorOf(new CountedPost(), text, text, true, code, offset);
    }

    private static CountedPost isPlayed(String script, int statements) {
        CountedPost post = Check.loaded(Check.PAIR);
        check.is(script + " plays", Check.play(post, script), statements);
        check.is(script + ": errorCode", post.errorCode(), WhistlePosts.NO_ERROR);
        check.is(script + ": errorOffset", post.errorOffset(), -1);
        return post;
    }

    /** On a post with roofs a, b, and a way between them. */
    private static void isScriptError(String script, int code, int offset) {
        CountedPost post = Check.loaded(Check.PAIR);
        check.isErrorOf(post, script, script, false, code, offset);
        check.areCounts(post, 2, 1, 0, 0, 0, 0, 0, 0, 3, 50, 1, 0, 30, 0);
    }

    /** Each number from 0 to 999 in place of the percent sign, with and without zeros before it. */
    private static void sweepSetup(String text, int least, int most, Asked asked) {
        int offset = text.indexOf('%');
        for (int number = 0; number <= 999; number++) {
            for (String digits : new String[] {"" + number, ("00" + number).substring(("00" + number).length() - 3)}) {
                String told = text.replace("%", digits);
                if (number >= least && number <= most) {
                    CountedPost post = new CountedPost();
                    check.is(told + " loads", Check.load(post, told) >= 0, true);
                    check.is(told + " takes", asked.of(post), number);
                } else {
                    isError(told, WhistlePosts.OUT_OF_RANGE, offset);
                }
            }
        }
        isError(text.replace("%", "1000"), WhistlePosts.SYNTAX, offset);
        isError(text.replace("%", "000" + least), WhistlePosts.SYNTAX, offset);
    }

    private static void sweepScript(String text, int least, int most, Asked asked) {
        int offset = text.indexOf('%');
        for (int number = 0; number <= 999; number++) {
            String told = text.replace("%", "" + number);
            if (number >= least && number <= most) {
                check.is(told + " takes", asked.of(isPlayed(told, 1)), number);
            } else {
                isScriptError(told, WhistlePosts.OUT_OF_RANGE, offset);
            }
        }
        isScriptError(text.replace("%", "1000"), WhistlePosts.SYNTAX, offset);
        isScriptError(text.replace("%", "000" + most), WhistlePosts.SYNTAX, offset);
    }

    private static void p1AsByTheText() {
        Twins.areAlike(check, "a new post", Twins.ALL, post -> { }, post -> Check.load(post, FIRST));
    }

    private static void p1EmptyInput() {
        check.is("cut to 1", new CountedPost().truncateInput(1), false);
        check.is("cut to 0", new CountedPost().truncateInput(0), true);
        check.is("append", Check.appendBlanks(new CountedPost()), 20);
        CountedPost post = new CountedPost();
        check.is("load", post.loadPost(), -1);
        check.is("code", post.errorCode(), WhistlePosts.TOO_FEW);
        check.is("offset", post.errorOffset(), 0);
        check.is("play", new CountedPost().playScript(), 0);
    }

    private static void p1AllAtFirst() {
        CountedPost post = new CountedPost();
        check.areCounts(post, 4, 4, 0, 0, 0, 0, 0, 0, 3, 50, 1, 0, 99, 0);
        check.areAccounts(post, 0, 0, 0, 0, 0, 0, 0, 0, 0, 0, 0);
        check.is("errorCode", post.errorCode(), WhistlePosts.NO_ERROR);
        check.is("errorOffset", post.errorOffset(), -1);
        check.is("output", post.outputByte(0), -1);
        check.isThrown("undo", Check.NOTHING, post::undo);
        check.isThrown("restoreState", Check.NOTHING, post::restoreState);
        for (int roof = 0; roof < 4; roof++) {
            check.is("busy", post.roof(roof, 4), 0);
            check.is("waiting", post.waiting(roof, 0), WhistlePosts.NONE);
        }
        check.isThrown("no tune", Check.NO_SUCH, () -> post.tune(0, 0));
    }

    /** A byte of no token, at each place among 20, is found at that place. */
    private static void p2Order() {
        for (int place = 0; place < 20; place++) {
            for (int sign : new int[] {'#', 0, 127, 128, 255}) {
                int[] words = new int[5];
                for (int i = 0; i < 20; i++) {
                    words[i / 4] = words[i / 4] << 8 | (i == place ? sign : ' ');
                }
                CountedPost post = new CountedPost();
                post.appendInput(words[0], words[1], words[2], words[3], words[4]);
                check.is("load", post.loadPost(), -1);
                check.is("code of " + sign, post.errorCode(), WhistlePosts.SYNTAX);
                check.is("place of " + sign, post.errorOffset(), place);
            }
        }
        CountedPost post = new CountedPost();
        // "tick 1;tick 20;wind " and "9;", then blanks
        post.appendInput(0x7469636b, 0x20313b74, 0x69636b20, 0x32303b77, 0x696e6420);
        post.appendInput(0x393b0a0a, 0x20200a0a, 0x0a0a2020, 0x20202020, 0x0a202020);
        check.is("play", post.playScript(), 3);
        check.is("time", post.count(7), 21);
        check.is("wind", post.count(8), 9);
        for (int words : new int[] {0, -1, Check.MIN, Check.MAX}) {
            CountedPost other = new CountedPost();
            check.is("append of " + words, other.appendInput(words, words, words, words, words), 20);
            check.is("load", other.loadPost(), -1);
            check.is("stray", other.errorCode(), WhistlePosts.SYNTAX);
            check.is("at once", other.errorOffset(), 0);
        }
    }

    private static void p2Behind() {
        for (int blanks = 0; blanks <= 20; blanks++) {
            String text = " ".repeat(blanks) + Check.PAIR;
            CountedPost post = isLoaded(text, 1);
            check.is("purses", post.count(12), 30);
        }
        CountedPost post = new CountedPost();
        Check.appendBlanks(post);
        post.truncateInput(13);
        post.appendInput('#' << 24, 0, 0, 0, 0);
        post.loadPost();
        check.is("behind the 13th", post.errorOffset(), 13);
    }

    private static void p2Length() {
        CountedPost post = new CountedPost();
        for (int length = 20; length <= 800; length += 20) {
            check.is("append", Check.appendBlanks(post), length);
        }
        post.truncateInput(0);
        check.is("behind a cut to 0", Check.appendBlanks(post), 20);
        post.truncateInput(1);
        check.is("behind a cut to 1", Check.appendBlanks(post), 21);
        post.truncateInput(19);
        check.is("behind a cut to 19", Check.appendBlanks(post), 39);
    }

    private static CountedPost withInput(int length) {
        CountedPost post = new CountedPost();
        for (int i = 0; i < length; i += 20) {
            post.appendInput(0x20202020, 0x20202020, 0x20202020, 0x20202020, 0x20202020);
        }
        post.truncateInput(length);
        return post;
    }

    private static void p2Exceeds() {
        for (int length = 0; length <= 800; length += length < 20 || length >= 760 ? 1 : 20) {
            CountedPost post = withInput(length);
            boolean fits = length <= 780;
            check.is("20 bytes behind " + length, post.appendInput(0x23232323, 0, 0, 0, 0), fits ? length + 20 : -1);
            int due = fits ? length + 20 : length;
            check.is("no longer", post.truncateInput(due + 1), false);
            check.is("as long", post.truncateInput(due), true);
            check.is("load", post.loadPost(), -1);
            check.is("what stands there", post.errorCode(), fits ? WhistlePosts.SYNTAX : WhistlePosts.TOO_FEW);
            check.is("and where", post.errorOffset(), length);
        }
    }

    private static void p2HoldsAll() {
        for (int length = 780; length <= 800; length++) {
            String blanks = " ".repeat(length - TWO.length());
            CountedPost post = isLoaded(TWO.substring(0, TWO.length() - 1) + blanks + ";", 0);
            check.is("roofs", post.count(0), 2);
            isError(TWO + blanks.substring(1) + "#", WhistlePosts.SYNTAX, length - 1);
            isPlayed("wind 1" + " ".repeat(length - 7) + ";", 1);
        }
    }

    private static void p3Negative() {
        for (int length : new int[] {0, 1, 20, 800}) {
            for (int wrong : new int[] {-1, -2, -length - 1, Check.MIN}) {
                CountedPost post = withInput(length);
                check.is("cut of " + length + " to " + wrong, post.truncateInput(wrong), false);
                check.is("length", Check.lengthOfInput(post), length);
            }
            check.is("cut of " + length + " to 0", withInput(length).truncateInput(0), true);
        }
        check.isIdle("cut to -1", post -> post.truncateInput(-1));
        check.isIdle("cut to the least", post -> post.truncateInput(Check.MIN));
    }

    private static void p3Greater() {
        for (int length : new int[] {0, 1, 19, 20, 799, 800}) {
            for (int wrong : new int[] {length + 1, length + 20, 801, Check.MAX}) {
                CountedPost post = withInput(length);
                check.is("cut of " + length + " to " + wrong, post.truncateInput(wrong), false);
                check.is("length", Check.lengthOfInput(post), length);
            }
            CountedPost post = withInput(length);
            check.is("cut of " + length + " to " + length, post.truncateInput(length), true);
            check.is("length", Check.lengthOfInput(post), length);
        }
        check.isIdle("cut of 7 to 8", post -> post.truncateInput(8));
        check.isIdle("cut of 7 to 7", post -> post.truncateInput(7));
    }

    private static void p3Truncates() {
        String text = TWO + "##########";
        for (int length = 0; length <= text.length(); length++) {
            CountedPost post = new CountedPost();
            Check.feed(post, text);
            check.is("cut to " + length, post.truncateInput(length), true);
            check.is("length", Check.lengthOfInput(post), length);
            check.is("not above it any more", post.truncateInput(length + 1), false);
            check.is("load", post.loadPost(), length == TWO.length() ? 0 : -1);
        }
    }

    private static String roofs(int most) {
        StringBuilder text = new StringBuilder();
        for (char name = 'a'; name < 'a' + most; name++) {
            text.append("roof ").append(name).append(" 1 0 0 0;");
        }
        return text.toString();
    }

    private static void p4Roofs() {
        for (int roofs = 0; roofs <= 12; roofs++) {
            if (roofs >= 2 && roofs <= 10) {
                CountedPost post = isLoaded(roofs(roofs), 0);
                check.is("roofs", post.count(0), roofs);
                check.isRoof(post, roofs - 1, "" + (char) ('a' + roofs - 1), 1, 0, 0, 0);
                check.isThrown("no more", Check.NO_SUCH, () -> post.roof(post.count(0), 0));
            } else {
                isError(roofs(roofs), roofs < 2 ? WhistlePosts.TOO_FEW : WhistlePosts.TOO_MANY, roofs < 2 ? 15 * roofs : 150);
            }
        }
    }

    private static void p4TooFew() {
        isError("", WhistlePosts.TOO_FEW, 0);
        isError("\n", WhistlePosts.TOO_FEW, 1);
        isError("wind 3;dusk 4; again 1; ", WhistlePosts.TOO_FEW, 24);
        isError(A, WhistlePosts.TOO_FEW, 15);
        isError(A + "  \n", WhistlePosts.TOO_FEW, 18);
        isError(A + "wind 1;", WhistlePosts.TOO_FEW, 22);
        isError(A + " ".repeat(785), WhistlePosts.TOO_FEW, 800);
        isLoaded(TWO, 0);
    }

    private static void p4EleventhRoof() {
        String ten = roofs(10);
        isLoaded(ten + "way j a 1;", 1);
        isError(ten + "roof k 1 0 0 0;", WhistlePosts.TOO_MANY, 150);
        isError(ten + " roof", WhistlePosts.TOO_MANY, 151);
        isError(ten + "wind 3;\nroof a 99;", WhistlePosts.TOO_MANY, 158);
        isError(ten.substring(0, 149) + "roof", WhistlePosts.SYNTAX, 149);
        isError(roofs(9) + "roof a", WhistlePosts.NAME_ERROR, 140);
    }

    private static void p4Ways() {
        for (int ways = 0; ways <= 22; ways++) {
            String text = Check.tenRoofs() + Check.ways(ways);
            if (ways <= 20) {
                CountedPost post = isLoaded(text, ways);
                check.is("ways", post.count(1), ways);
                check.isThrown("no more", Check.NO_SUCH, () -> post.way(post.count(1), 0));
            } else {
                isError(text, WhistlePosts.TOO_MANY, (Check.tenRoofs() + Check.ways(20)).length());
            }
        }
    }

    private static void p4Way21() {
        String text = Check.tenRoofs() + Check.ways(20);
        int length = text.length();
        isLoaded(text + "wind 1;", 20);
        isError(text + " way", WhistlePosts.TOO_MANY, length + 1);
        isError(text + "way a b 1;", WhistlePosts.TOO_MANY, length);
        isError(text + "way zzzzzzz", WhistlePosts.TOO_MANY, length);
        isError(text + "ways", WhistlePosts.SYNTAX, length);
        isError(text + "roof k", WhistlePosts.TOO_MANY, length);
    }

    private static void p4NameLength() {
        for (int letters = 1; letters <= 12; letters++) {
            String name = "abcdefghijkl".substring(0, letters);
            if (letters <= 6) {
                CountedPost post = isLoaded("roof " + name + " 1 0 0 0;roof zz 1 0 0 0;way " + name + " zz 1;", 1);
                check.isText("name", Check.name(post, 0), name);
                isLoaded("roof " + name + " 1 0 0 0;roof zz 1 0 0 0;way zz " + name + " 1;", 1);
            } else {
                isError("roof " + name + " 1 0 0 0;", WhistlePosts.SYNTAX, 5);
                isError(TWO + "way " + name + " a 1;", WhistlePosts.SYNTAX, 34);
                isError(TWO + "way a " + name + " 1;", WhistlePosts.SYNTAX, 36);
            }
        }
        isError("roof 1 0 0 0;", WhistlePosts.SYNTAX, 5);
    }

    private static void p4NameAgain() {
        isError("roof a 1 0 0 0;roof a 1 0 0 0;", WhistlePosts.NAME_ERROR, 20);
        isError("roof abcdef 1 0 0 0;roof b 1 0 0 0;roof abcdef 1 0 0 0;", WhistlePosts.NAME_ERROR, 40);
        isError(roofs(9) + "roof i 1 0 0 0;", WhistlePosts.NAME_ERROR, 140);
        isError(roofs(9) + "roof a 9 0 0 0;", WhistlePosts.NAME_ERROR, 140);
        for (String other : new String[] {"abcdee", "abcdeg", "bbcdef", "zbcdef", "abcde", "bcdef", "fedcba", "f", "aabcde"}) {
            CountedPost post = isLoaded("roof abcdef 1 0 0 0;roof " + other + " 1 0 0 7;", 0);
            check.isText("name", Check.name(post, 0), "abcdef");
            check.isText("name", Check.name(post, 1), other);
        }
        isLoaded("roof a 1 0 0 0;roof aa 1 0 0 0;roof aaa 1 0 0 0;roof aaaa 1 0 0 0;roof aaaaa 1 0 0 0;roof aaaaaa 1 0 0 0;", 0);
        isLoaded("roof z 1 0 0 0;roof zz 1 0 0 0;roof zzz 1 0 0 0;roof zzzzz 1 0 0 0;roof zzzzzz 1 0 0 0;", 0);
    }

    private static void p4NoSuchName() {
        isError(TWO + "way c a 1;", WhistlePosts.NAME_ERROR, 34);
        isError(TWO + "way a c 1;", WhistlePosts.NAME_ERROR, 36);
        isError(TWO + "way aa b 1;", WhistlePosts.NAME_ERROR, 34);
        isError(TWO + "way a bb 1;", WhistlePosts.NAME_ERROR, 36);
        isError(A + "way a b 1;roof b 1 0 0 0;", WhistlePosts.NAME_ERROR, 21);
        isError(A + "way b a 1;roof b 1 0 0 0;", WhistlePosts.NAME_ERROR, 19);
        isLoaded(TWO + "way b a 1;roof c 1 0 0 0;way c b 1;", 2);
        // names of the post before are none of this text
        isError(TWO + "way tower a 1;", WhistlePosts.NAME_ERROR, 34);
    }

    private static void p4SameRoof() {
        isError(TWO + "way a a 1;", WhistlePosts.NAME_ERROR, 36);
        isError(TWO + "way b b 1;", WhistlePosts.NAME_ERROR, 36);
        isError(TWO + "way b b", WhistlePosts.NAME_ERROR, 36);
        isLoaded(TWO + "way b a 1;", 1);
    }

    /** Each pair among five roofs: once it is taken, to the same roof or told again it is not. */
    private static void p4OneWayBetween() {
        String five = roofs(5);
        for (char one = 'a'; one <= 'e'; one++) {
            for (char other = 'a'; other <= 'e'; other++) {
                String way = "way " + one + " " + other + " 1;";
                if (one == other) {
                    isError(five + way, WhistlePosts.NAME_ERROR, five.length() + 6);
                } else {
                    isLoaded(five + way, 1);
                    isError(five + way + way, WhistlePosts.REPEATED, five.length() + way.length() + 6);
                    isError(five + way + "way " + other + " " + one, WhistlePosts.REPEATED, five.length() + way.length() + 6);
                }
            }
        }
        isLoaded(five + "way a b 1;way a c 1;way a d 1;way a e 1;way b c 1;way b d 1;way b e 1;way c d 1;way c e 1;way d e 1;", 10);
    }

    private static void p4Repeated() {
        isError(TWO + "way a b 1;way a b 1;", WhistlePosts.REPEATED, 46);
        isError(TWO + "way a b 1;way b a 2;", WhistlePosts.REPEATED, 46);
        isError(THREE + "way a b 1;way a c 1;way b c 1;way c a", WhistlePosts.REPEATED, 81);
        isError(THREE + "way a b 1;way a c 1;way b c 1;way c b", WhistlePosts.REPEATED, 81);
        isError(THREE + "way c b 1;way b c 99;", WhistlePosts.REPEATED, 61);
        CountedPost post = isLoaded(THREE + "way a b 1;way a c 2;way c b 3;", 3);
        check.isWay(post, 0, 0, 1, 1);
        check.isWay(post, 1, 0, 2, 2);
        check.isWay(post, 2, 2, 1, 3);
    }

    private static void p4ToldLast() {
        check.is("once", isLoaded(TWO + "wind 9;", 0).count(8), 9);
        check.is("twice", isLoaded(TWO + "wind 9;wind 0;", 0).count(8), 0);
        check.is("thrice", isLoaded("wind 1;" + TWO + "wind 9;wind 2;", 0).count(8), 2);
        check.is("dusk", isLoaded("dusk 1;dusk 60;dusk 2;" + TWO, 0).count(9), 2);
        check.is("again", isLoaded(TWO + "again 3;again 0;", 0).count(10), 0);
        isError(TWO + "wind 10;wind 1;", WhistlePosts.OUT_OF_RANGE, 35);
        // they do not last beyond a load
        CountedPost post = Check.loaded(TWO + "wind 9;dusk 1;again 3;");
        Check.load(post, TWO);
        check.areCounts(post, 2, 0, 0, 0, 0, 0, 0, 0, 3, 50, 1);
    }

    private static void p4Empties() {
        for (String text : new String[] {"", TWO, " ".repeat(800), A, "#", "wind 10;", TWO + "way a a", roofs(11)}) {
            CountedPost post = new CountedPost();
            Check.load(post, text);
            check.is("cut to 1 behind " + text, post.truncateInput(1), false);
            check.is("length behind " + text, Check.lengthOfInput(post), 0);
        }
    }

    private static void p4Returns() {
        isLoaded(TWO, 0);
        isLoaded(TWO + "way a b 1;", 1);
        isLoaded(Check.tenRoofs() + Check.ways(20), 20);
        isError(TWO + "way a b 1;way", WhistlePosts.SYNTAX, 43);
        isError(A, WhistlePosts.TOO_FEW, 15);
    }

    private static void p4ErrorChangesNothing() {
        String[] texts = {"roof x 8 9 9 999;roof y 1 0 0 0;way x y 4;wind 9;dusk 1;again 0;#", "wind 10;",
            TWO + "way a x", TWO + "way a b 1;way a b", roofs(11), A, ""};
        int[] codes = {WhistlePosts.SYNTAX, WhistlePosts.OUT_OF_RANGE, WhistlePosts.NAME_ERROR, WhistlePosts.REPEATED,
            WhistlePosts.TOO_MANY, WhistlePosts.TOO_FEW, WhistlePosts.TOO_FEW};
        for (int i = 0; i < texts.length; i++) {
            String text = texts[i];
            Twins.areAlike(check, text, Twins.BUT_TEXTS, Check::lively, post -> {
                Check.lively(post);
                post.truncateInput(0);
                Check.load(post, text);
            });
            isErrorCode(text, codes[i]);
        }
    }

    private static void isErrorCode(String text, int code) {
        CountedPost post = new CountedPost();
        check.is("load", Check.load(post, text), -1);
        check.is("code", post.errorCode(), code);
    }

    private static void p4ReplacesAll() {
        String text = TWO + "way b a 7;wind 8;";
        Twins.areAlike(check, "a load", Twins.BUT_OUTPUT, post -> Check.load(post, text), post -> {
            Check.lively(post);
            post.truncateInput(0);
            Check.load(post, text);
        });
        for (int tunes = 0; tunes <= 6; tunes++) {
            String script = "send b a 1 2;".repeat(tunes) + "tick 1;".repeat(14);
            Twins.areAlike(check, "a load, then " + tunes + " tunes", Twins.BUT_OUTPUT, post -> {
                Check.load(post, text);
                Check.play(post, script);
            }, post -> {
                Check.lively(post);
                post.truncateInput(0);
                Check.load(post, text);
                Check.play(post, script);
            });
        }
        CountedPost post = new CountedPost();
        post.send(0, 1, 1, false);
        post.printTune(0);
        Check.load(post, text);
        check.isText("the output stays", Check.output(post), "1>barn");
    }

    private static void p4NothingIsLeft() {
        CountedPost post = new CountedPost();
        Check.lively(post);
        post.truncateInput(0);
        Check.load(post, TWO + "way a b 1;");
        check.areCounts(post, 2, 1, 0, 0, 0, 0, 0, 0, 3, 50, 1, 0, 0, 0);
        check.areAccounts(post, 0, 0, 0, 0, 0, 0, 0, 0, 0, 0, 0);
        check.isThrown("no tune", Check.NO_SUCH, () -> post.tune(0, 0));
        check.isThrown("nothing to undo", Check.NOTHING, post::undo);
        check.isThrown("no saved state", Check.NOTHING, post::restoreState);
        for (int roof = 0; roof < 2; roof++) {
            check.is("busy", post.roof(roof, 4), 0);
            check.is("waiting", post.roof(roof, 5), 0);
            check.is("whistled", post.roof(roof, 7), 0);
        }
        check.is("30 tunes since the load", Check.play(post, "send a b 1;".repeat(30)), 30);
    }

    private static String numbered(int statements) {
        StringBuilder text = new StringBuilder();
        for (int i = 0; i < statements; i++) {
            text.append("wind ").append(i % 10).append(';');
        }
        return text.toString();
    }

    private static void p5Statements() {
        for (int statements = 0; statements <= 32; statements++) {
            if (statements <= 30) {
                CountedPost post = isPlayed(numbered(statements), statements);
                check.is("wind", post.count(8), statements == 0 ? 3 : (statements - 1) % 10);
            } else {
                isScriptError(numbered(statements), WhistlePosts.TOO_MANY, 210);
            }
        }
        isPlayed(numbered(30) + " \n ", 30);
        isScriptError(numbered(30) + " send", WhistlePosts.TOO_MANY, 211);
        isScriptError(numbered(30) + "cut x y;", WhistlePosts.TOO_MANY, 210);
        isScriptError(numbered(30) + "tick 0;", WhistlePosts.TOO_MANY, 210);
        isScriptError(numbered(29) + "tick 0;tick 1;", WhistlePosts.OUT_OF_RANGE, 208);
        isScriptError(numbered(30) + ";", WhistlePosts.SYNTAX, 210);
        isScriptError(numbered(30) + "9", WhistlePosts.SYNTAX, 210);
    }

    private static void p5NinthNote() {
        isPlayed("send a b 1 2 3 4 5 6 7 0;", 1);
        isScriptError("send a b 1 2 3 4 5 6 7 0 1;", WhistlePosts.TOO_MANY, 25);
        isScriptError("ask b a 1 2 3 4 5 6 7 0 0", WhistlePosts.TOO_MANY, 24);
        isScriptError("send a b 1 2 3 4 5 6 7 0 7 9;", WhistlePosts.TOO_MANY, 25);
        isScriptError("tick 1; ask b a 1 2 3 4 5 6 7 0\n007;", WhistlePosts.TOO_MANY, 32);
    }

    private static void p5Notes() {
        for (String word : new String[] {"send", "ask"}) {
            StringBuilder script = new StringBuilder(word).append(" a b");
            for (int notes = 0; notes <= 10; notes++) {
                if (notes == 0) {
                    isScriptError(script + ";", WhistlePosts.SYNTAX, script.length());
                    isScriptError(script + "", WhistlePosts.SYNTAX, script.length());
                } else if (notes <= 8) {
                    CountedPost post = isPlayed(script + ";", 1);
                    check.isTune(post, 0, 0, 1, notes, 0, 0, -1, 0, word.equals("ask") ? 1 : 0, 0, notes <= 4 ? 1 : 2, 0, 0);
                    for (int index = 0; index < 10; index++) {
                        int due = index < notes ? index % 8 : WhistlePosts.NONE;
                        check.is("sent", post.note(0, index, false), due);
                        check.is("heard", post.note(0, index, true), due);
                    }
                } else {
                    isScriptError(script + ";", WhistlePosts.TOO_MANY, word.length() + 5 + 16);
                }
                script.append(' ').append(notes % 8);
            }
        }
        check.is("notes that are 0 in front", isPlayed("send a b 0 0 1;", 1).tune(0, 2), 3);
        check.is("notes that are 0", isPlayed("ask a b 0 0 0 0 0 0 0 0;", 1).tune(0, 2), 8);
    }

    private static void p5EachNote() {
        sweepScript("send a b %;", 0, 7, post -> post.note(0, 0, false));
        sweepScript("ask b a %;", 0, 7, post -> post.note(0, 0, true));
        sweepScript("send a b 7 6 5 4 3 2 1 %;", 0, 7, post -> post.note(0, 7, false));
        sweepScript("ask a b 0 % 0;", 0, 7, post -> post.note(0, 1, true));
    }

    private static void p5NoSuchName() {
        isScriptError("send x a 1;", WhistlePosts.NAME_ERROR, 5);
        isScriptError("send a x 1;", WhistlePosts.NAME_ERROR, 7);
        isScriptError("ask aa b 1;", WhistlePosts.NAME_ERROR, 4);
        isScriptError("ask b ab 1;", WhistlePosts.NAME_ERROR, 6);
        isScriptError("give c 1;", WhistlePosts.NAME_ERROR, 5);
        isScriptError("cut c a;", WhistlePosts.NAME_ERROR, 4);
        isScriptError("cut a c;", WhistlePosts.NAME_ERROR, 6);
        isScriptError("cut tower barn;", WhistlePosts.NAME_ERROR, 4);
        isPlayed("send b a 1;ask a b 1;give b 1;cut b a;", 4);
    }

    private static void p5SameRoof() {
        for (String roof : new String[] {"a", "b"}) {
            isScriptError("send " + roof + " " + roof + " 1;", WhistlePosts.NAME_ERROR, 7);
            isScriptError("ask " + roof + " " + roof + " 1;", WhistlePosts.NAME_ERROR, 6);
            isScriptError("cut " + roof + " " + roof + ";", WhistlePosts.NAME_ERROR, 6);
        }
        isPlayed("send a b 1;send b a 1;ask a b 1;ask b a 1;cut b a;", 5);
    }

    private static void p5NameLength() {
        String[] scripts = {"send % b 1;", "send b % 1;", "ask % b 1;", "ask b % 1;", "give % 1;", "cut % b;", "cut b %;"};
        for (String script : scripts) {
            for (int letters = 1; letters <= 10; letters++) {
                String name = "acegikmoqs".substring(0, letters);
                String told = script.replace("%", name);
                String roof = name.substring(0, Math.min(6, letters));
                CountedPost post = Check.loaded("roof " + roof + " 1 0 0 0;roof b 1 0 0 0;way b " + roof + " 1;");
                if (letters <= 6) {
                    check.is(told, Check.play(post, told), 1);
                } else {
                    check.isErrorOf(post, told, told, false, WhistlePosts.SYNTAX, script.indexOf('%'));
                }
            }
        }
    }

    private static void p5Empties() {
        String[] scripts = {"", "wind 1;", " ".repeat(800), "#", "wind 10;", "give x 1;", numbered(31), "cut a b;cut a b;"};
        for (String script : scripts) {
            CountedPost post = Check.loaded(Check.PAIR);
            Check.play(post, script);
            check.is("cut to 1 behind " + script, post.truncateInput(1), false);
            check.is("length behind " + script, Check.lengthOfInput(post), 0);
        }
    }

    private static void p5Returns() {
        isPlayed("", 0);
        isPlayed(" \n", 0);
        isPlayed("wind 1;", 1);
        isPlayed(numbered(30), 30);
        isPlayed("cut a b;cut a b;", 1);
        CountedPost post = Check.loaded(Check.PAIR);
        post.cut(0, 1);
        check.is("the first would throw", Check.play(post, "cut a b;wind 1;"), 0);
        isScriptError("wind 1;wind", WhistlePosts.SYNTAX, 11);
    }

    private static void p5OneChange() {
        for (String script : new String[] {"", "wind 1;", numbered(30), "cut ann bob;cut ann bob;", "cut ann cid;wind 5;"}) {
            Twins.areAlike(check, "undone: " + script, Twins.KEPT, Check::lively, post -> {
                Check.lively(post);
                post.truncateInput(0);
                Check.play(post, script);
                check.is("changes", post.count(13), 8);
                check.is("undo", post.undo(), 7);
            });
        }
        CountedPost post = Check.loaded(Check.PAIR);
        check.is("of two", Check.play(post, "give a 1;give a 2;"), 2);
        check.is("one change", post.count(13), 1);
        check.is("an error", Check.play(post, "give a 3;give"), -1);
        check.is("none more", post.count(13), 1);
        check.is("both are undone", post.undo(), 0);
        check.is("purse", post.roof(0, 3), 10);
        check.is("of none", Check.play(post, ""), 0);
        check.is("one change", post.count(13), 1);
    }

    private static void p5ErrorChangesNothing() {
        String[] scripts = {"wind 9;send ann bob 1;tick 1;give ann 1;cut ann bob;dusk 1;#", "wind 9;again 4;",
            "give ann 1;give xyz 1;", numbered(31), "cut ann bob", "roof z 1 0 0 0;"};
        for (String script : scripts) {
            Twins.areAlike(check, script, Twins.BUT_TEXTS, Check::lively, post -> {
                Check.lively(post);
                post.truncateInput(0);
                check.is("play", Check.play(post, script), -1);
            });
        }
    }

    private static CountedPost atTime(int time) {
        CountedPost post = Check.loaded(Check.PAIR);
        for (int rest = time; rest > 0; rest -= 200) {
            post.tick(Math.min(rest, 200));
        }
        return post;
    }

    private static void p5UntilTime() {
        for (int time : new int[] {9798, 9799, 9800, 9998, 9999}) {
            for (int ticks : new int[] {1, 2, 199, 200}) {
                CountedPost post = atTime(time);
                boolean fits = time + ticks <= 9999;
                check.is(ticks + " at " + time, Check.play(post, "dusk 7;tick " + ticks + ";wind 5;"), fits ? 3 : 1);
                check.is("time", post.count(7), fits ? time + ticks : time);
                check.is("what is before it", post.count(9), 7);
                check.is("what is behind it", post.count(8), fits ? 5 : 3);
            }
        }
    }

    private static void p5UntilPurse() {
        for (int purse : new int[] {9898, 9899, 9900, 9901, 9998, 9999}) {
            for (int coins : new int[] {1, 2, 98, 99}) {
                CountedPost post = Check.loaded("roof a 1 0 0 999;roof b 1 0 0 0;");
                for (int rest = purse - 999; rest > 0; rest -= 99) {
                    post.give(0, Math.min(rest, 99));
                }
                boolean fits = purse + coins <= 9999;
                check.is(coins + " to " + purse, Check.play(post, "wind 4;give a " + coins + ";give b 9;"), fits ? 3 : 1);
                check.is("purse", post.roof(0, 3), fits ? purse + coins : purse);
                check.is("what is before it", post.count(8), 4);
                check.is("what is behind it", post.roof(1, 3), fits ? 9 : 0);
                check.is("account", post.account(10), post.count(12) - 999);
            }
        }
    }

    private static void p5UntilNoWay() {
        CountedPost post = Check.loaded(THREE + "way a b 1;way b c 1;");
        check.is("a way, then none", Check.play(post, "wind 4;cut c b;cut b c;wind 5;"), 2);
        check.is("ways", post.count(1), 1);
        check.is("what is behind it", post.count(8), 4);
        check.is("never one", Check.play(post, "cut a c;wind 5;"), 0);
        check.is("ways", post.count(1), 1);
        check.is("what is behind it", post.count(8), 4);
        check.is("the last one", Check.play(post, "cut b a;wind 5;"), 2);
        check.is("ways", post.count(1), 0);
    }

    private static void p5UntilTunes() {
        for (int tunes = 28; tunes <= 30; tunes++) {
            for (String word : new String[] {"send", "ask"}) {
                CountedPost post = Check.loaded(Check.PAIR);
                check.is("tunes", Check.play(post, "send a b 1;".repeat(tunes)), tunes);
                int done = Check.play(post, "wind 4;" + word + " b a 1;" + word + " b a 1;wind 5;");
                check.is(word + " with " + tunes, done, tunes == 28 ? 4 : 31 - tunes);
                check.is("tunes", post.count(2), 30);
                check.is("what is behind it", post.count(8), tunes == 28 ? 5 : 4);
            }
        }
    }

    private static boolean isBlank(int sign) {
        return sign == ' ' || sign == '\n';
    }

    private static void p4Letters() {
        for (char sign = 0; sign < 256; sign++) {
            String text = "roof " + sign + " 1 0 0 0;roof zz 1 0 0 0;";
            if (sign >= 'a' && sign <= 'z') {
                check.is("name", isLoaded(text, 0).nameByte(0, 0), sign);
            } else {
                isError(text, WhistlePosts.SYNTAX, isBlank(sign) ? 7 : 5);
            }
            if (sign != 'n') {
                isError(TWO + "wi" + sign + "d 1;", WhistlePosts.SYNTAX, 30);
            }
        }
        isError("roofa 1 0 0 0;", WhistlePosts.SYNTAX, 0);
        for (int letters = 7; letters <= 12; letters++) {
            isError("windwindwind".substring(0, letters) + " 1;", WhistlePosts.SYNTAX, 0);
            isError(A + "roof " + "windwindwind".substring(0, letters) + " 1 0 0 0;", WhistlePosts.SYNTAX, 20);
        }
        isLoaded("roof a1 0 0 0;roof b1 0 0 0;way a b1;wind1;", 1);
    }

    private static void p4Digits() {
        for (char sign = 0; sign < 256; sign++) {
            String text = "roof a " + sign + " 0 0 0;roof b 1 0 0 0;";
            if (sign >= '1' && sign <= '8') {
                check.is("breath", isLoaded(text, 0).roof(0, 0), sign - '0');
            } else if (sign == '0' || sign == '9' || isBlank(sign)) {
                isError(text, WhistlePosts.OUT_OF_RANGE, isBlank(sign) ? 9 : 7);
            } else {
                isError(text, WhistlePosts.SYNTAX, 7);
            }
        }
        for (int digits = 1; digits <= 12; digits++) {
            String text = TWO + "wind " + "000000000002".substring(12 - digits) + ";";
            if (digits <= 3) {
                check.is("wind", isLoaded(text, 0).count(8), 2);
            } else {
                isError(text, WhistlePosts.SYNTAX, 35);
            }
        }
        isError("roof a 1 0 0 00 0;", WhistlePosts.SYNTAX, 16);
        isError("roof a 10 0 0 0;", WhistlePosts.OUT_OF_RANGE, 7);
        isError("roof a 1 0 0 0w", WhistlePosts.SYNTAX, 14);
    }

    private static void p5Digits() {
        for (char sign = 0; sign < 256; sign++) {
            String script = "tick " + sign + ";";
            if (sign >= '1' && sign <= '9') {
                check.is("time", isPlayed(script, 1).count(7), sign - '0');
            } else if (sign == '0') {
                isScriptError(script, WhistlePosts.OUT_OF_RANGE, 5);
            } else {
                isScriptError(script, WhistlePosts.SYNTAX, isBlank(sign) ? 6 : 5);
            }
        }
        check.is("200", isPlayed("tick 200;", 1).count(7), 200);
        check.is("020", isPlayed("tick 020;", 1).count(7), 20);
        isScriptError("tick 0020;", WhistlePosts.SYNTAX, 5);
        isScriptError("tick 20 0;", WhistlePosts.SYNTAX, 8);
        isScriptError("give a 9999999999;", WhistlePosts.SYNTAX, 7);
        // as an int, this would be 1
        isScriptError("tick 4294967297;", WhistlePosts.SYNTAX, 5);
    }

    private static void p4Blanks() {
        for (char sign = 0; sign < 256; sign++) {
            String[] texts = {sign + TWO, A + sign + "roof b 1 0 0 0;", TWO + sign};
            int[] places = {0, 15, 30};
            for (int i = 0; i < texts.length; i++) {
                if (isBlank(sign)) {
                    isLoaded(texts[i], 0);
                } else if (i != 0 || sign < 'a' || sign > 'z') {
                    isError(texts[i], WhistlePosts.SYNTAX, places[i]);
                }
            }
        }
        isLoaded("roof\na\n1\n0\n0\n0\n;\nroof \n b  1   0 \n\n0 0;\n way a b 1 ;", 1);
        isLoaded("roof a 1 0 0 0;roof b 1 0 0 0;way a b 1;", 1);
        isError("ro of a 1 0 0 0;", WhistlePosts.SYNTAX, 0);
        isError("roof a b 1 0 0 0;", WhistlePosts.SYNTAX, 7);
        isError("roof a 1 0 0 1 2;", WhistlePosts.SYNTAX, 15);
    }

    private static void p5Blanks() {
        for (char sign = 0; sign < 256; sign++) {
            String script = "tick 1;" + sign + "wind 1;";
            if (isBlank(sign)) {
                isPlayed(script, 2);
            } else {
                isScriptError(script, WhistlePosts.SYNTAX, 7);
            }
        }
        isPlayed("\n tick\n1\n;send\na\nb\n1\n2\n;\n", 2);
        isPlayed("tick1;wind2;", 2);
        isScriptError("ti ck 1;", WhistlePosts.SYNTAX, 0);
        isScriptError("tick 1 0;", WhistlePosts.SYNTAX, 7);
    }

    private static void p4Semicolon() {
        String[] statements = {"roof x 1 0 0 0", "way a b 1", "wind 1", "dusk 1", "again 1"};
        for (String statement : statements) {
            String text = TWO + statement;
            isLoaded(text + ";", statement.startsWith("way") ? 1 : 0);
            isError(text, WhistlePosts.SYNTAX, text.length());
            isError(text + " \n", WhistlePosts.SYNTAX, text.length() + 2);
            isError(text + " wind 1;", WhistlePosts.SYNTAX, text.length() + 1);
            isError(text + ":wind 1;", WhistlePosts.SYNTAX, text.length());
            isError(text + "<", WhistlePosts.SYNTAX, text.length());
            isError(text + ";;", WhistlePosts.SYNTAX, text.length() + 1);
            isError(text + " 1;", WhistlePosts.SYNTAX, text.length() + 1);
        }
    }

    private static void p5Semicolon() {
        String[] statements = {"send a b 1", "ask a b 1 2 3 4 5 6 7 0", "tick 1", "give a 1", "cut a b", "wind 1", "dusk 1", "again 1"};
        for (String statement : statements) {
            isPlayed(statement + ";", 1);
            isScriptError(statement, WhistlePosts.SYNTAX, statement.length());
            isScriptError(statement + " \n", WhistlePosts.SYNTAX, statement.length() + 2);
            isScriptError(statement + " wind 1;", WhistlePosts.SYNTAX, statement.length() + 1);
            isScriptError(statement + ":", WhistlePosts.SYNTAX, statement.length());
            isScriptError(statement + "<", WhistlePosts.SYNTAX, statement.length());
            isScriptError(statement + ";;", WhistlePosts.SYNTAX, statement.length() + 1);
        }
        isScriptError("tick 1 1;", WhistlePosts.SYNTAX, 7);
        isScriptError("cut a b 1;", WhistlePosts.SYNTAX, 8);
    }

    /** Whether the text ends in a word that is none yet: that is wrong where it begins, not at the end. */
    private static boolean endsInPartOfWord(String rest) {
        return rest.matches("[a-z]+") && !rest.matches("roof|way|wind|dusk|again|send|ask|tick|give|cut");
    }

    private static void p4Prefixes() {
        String text = "roof a 1 0 0 0;roof b 1 0 0 0;way a b 1;wind 1;dusk 1;again 1;";
        for (int length = 0; length <= text.length(); length++) {
            String part = text.substring(0, length);
            int begin = part.lastIndexOf(';') + 1;
            if (begin == length) {
                if (length < TWO.length()) {
                    isError(part, WhistlePosts.TOO_FEW, length);
                } else {
                    isLoaded(part, length < TWO.length() + 10 ? 0 : 1);
                }
            } else {
                isError(part, WhistlePosts.SYNTAX, endsInPartOfWord(part.substring(begin)) ? begin : length);
            }
        }
    }

    private static void p5Prefixes() {
        String text = "send a b 1 2;ask b a 3;tick 2;give a 5;cut a b;wind 1;dusk 2;again 3;";
        int statements = 0;
        for (int length = 0; length <= text.length(); length++) {
            String part = text.substring(0, length);
            int begin = part.lastIndexOf(';') + 1;
            if (begin == length) {
                isPlayed(part, statements);
                statements++;
            } else {
                isScriptError(part, WhistlePosts.SYNTAX, endsInPartOfWord(part.substring(begin)) ? begin : length);
            }
        }
    }

    /** Kinds of tokens by a letter: k the first word, n a name, i a number, s a semicolon, b a number or a semicolon. */
    private static void areWrongTokens(boolean isSetup, String before, String statement, String kinds) {
        String[] tokens = statement.split(" ");
        String[] others = {"q", "5", ";", "#", "abcdefg", "abcdefgh", "abcdefghi", "1234", "\u0080", "wind", "roof"};
        String[] places = {"n", "ib", "sb", "", "", "", "", "", "", "kn", "kn"};
        int offset = before.length();
        for (int i = 0; i < tokens.length; i++) {
            for (int other = 0; other < others.length; other++) {
                if (places[other].indexOf(kinds.charAt(i)) < 0) {
                    String[] changed = tokens.clone();
                    changed[i] = others[other];
                    String text = before + String.join(" ", changed);
                    if (isSetup) {
                        isError(text, WhistlePosts.SYNTAX, offset);
                    } else {
                        isScriptError(text, WhistlePosts.SYNTAX, offset);
                    }
                }
            }
            offset += tokens[i].length() + 1;
        }
    }

    private static boolean isOfNoToken(char sign) {
        return !isBlank(sign) && sign != ';' && (sign < 'a' || sign > 'z') && (sign < '0' || sign > '9');
    }

    /** Each byte of no token behind each byte of a right text: there, and at no other place, is the first error. */
    private static void p4Strays() {
        String text = "roof a 1 0 0 0;roof b 1 0 0 0;way a b 1;";
        for (int place : new int[] {0, 4, 5, 6, 7, 8, 13, 14, 15, 19, 30, 33, 34, 36, 38, 39, 40}) {
            for (char sign = 0; sign < 256; sign++) {
                if (isOfNoToken(sign)) {
                    isError(text.substring(0, place) + sign + text.substring(place), WhistlePosts.SYNTAX, place);
                }
            }
        }
    }

    private static void p5Strays() {
        String script = "send a b 1 2;tick 9;";
        for (int place : new int[] {0, 4, 5, 6, 7, 8, 9, 10, 11, 12, 13, 17, 18, 19, 20}) {
            for (char sign = 0; sign < 256; sign++) {
                if (isOfNoToken(sign)) {
                    isScriptError(script.substring(0, place) + sign + script.substring(place), WhistlePosts.SYNTAX, place);
                }
            }
        }
    }

    /** Too long is wrong also where the beginning alone would be right. */
    private static void p4TooLong() {
        isError("roofroofro a 1 0 0 0;", WhistlePosts.SYNTAX, 0);
        isError("roof aaaaaa 1 0 0 0;roof b 1 0 0 0;way aaaaaaa b 1;", WhistlePosts.SYNTAX, 39);
        isError("roof aaaaaa 1 0 0 0;roof b 1 0 0 0;way b aaaaaaaaa 1;", WhistlePosts.SYNTAX, 41);
        isLoaded("roof aaaaaa 1 0 0 0;roof b 1 0 0 0;way b aaaaaa 1;", 1);
        isError("roof a 1 0 0 0999;", WhistlePosts.SYNTAX, 13);
        isError("roof a 1 0 0 9990;", WhistlePosts.SYNTAX, 13);
        isLoaded("roof a 1 0 0 999;roof b 1 0 0 099;", 0);
        isError(TWO + "dusk 0060;", WhistlePosts.SYNTAX, 35);
        isLoaded(TWO + "dusk 060;", 0);
    }

    private static void p5TooLong() {
        isScriptError("ticktickt 1;", WhistlePosts.SYNTAX, 0);
        isScriptError("give aaaaaaa 1;", WhistlePosts.SYNTAX, 5);
        isScriptError("give aaaaaaaaa 1;", WhistlePosts.SYNTAX, 5);
        isScriptError("tick 0200;", WhistlePosts.SYNTAX, 5);
        isScriptError("tick 2000;", WhistlePosts.SYNTAX, 5);
        isScriptError("send a b 0007;", WhistlePosts.SYNTAX, 9);
        isPlayed("tick 200;send a b 007;give a 099;", 3);
    }

    private static void p4WrongTokens() {
        areWrongTokens(true, "", "roof x 1 0 0 0 ;", "kniiiis");
        areWrongTokens(true, TWO, "roof x 1 0 0 0 ;", "kniiiis");
        areWrongTokens(true, TWO, "way a b 1 ;", "knnis");
        areWrongTokens(true, TWO, "wind 1 ;", "kis");
        areWrongTokens(true, "", "dusk 1 ;", "kis");
        areWrongTokens(true, TWO + "wind 1;", "again 1 ;", "kis");
        for (String word : new String[] {"send", "ask", "tick", "give", "cut", "name", "far", "roofs", "ways"}) {
            isError(TWO + word + " a b 1;", WhistlePosts.SYNTAX, 30);
        }
        for (String word : new String[] {"roof", "way", "wind", "dusk", "again"}) {
            for (String other : likeWord(word)) {
                isError(TWO + other + " x 1 0 0 0;", WhistlePosts.SYNTAX, 30);
                isError(TWO + other + " a b 1;", WhistlePosts.SYNTAX, 30);
                isError(TWO + other + " 1;", WhistlePosts.SYNTAX, 30);
            }
        }
    }

    private static void p5WrongTokens() {
        areWrongTokens(false, "", "send a b 1 ;", "knnib");
        areWrongTokens(false, "tick 1;", "ask a b 1 2 3 ;", "knnibbb");
        areWrongTokens(false, "", "tick 1 ;", "kis");
        areWrongTokens(false, "wind 1;", "give a 1 ;", "knis");
        areWrongTokens(false, "", "cut a b ;", "knns");
        areWrongTokens(false, "", "wind 1 ;", "kis");
        areWrongTokens(false, "", "dusk 1 ;", "kis");
        areWrongTokens(false, "", "again 1 ;", "kis");
        for (String word : new String[] {"roof", "way", "sends", "asks", "undo", "set", "time"}) {
            isScriptError("tick 1;" + word + " a b 1;", WhistlePosts.SYNTAX, 7);
        }
        for (String word : new String[] {"send", "ask", "tick", "give", "cut", "wind", "dusk", "again"}) {
            for (String other : likeWord(word)) {
                isScriptError("tick 1;" + other + " a b 1;", WhistlePosts.SYNTAX, 7);
                isScriptError("tick 1;" + other + " a b;", WhistlePosts.SYNTAX, 7);
                isScriptError("tick 1;" + other + " a 1;", WhistlePosts.SYNTAX, 7);
                isScriptError("tick 1;" + other + " 1;", WhistlePosts.SYNTAX, 7);
            }
        }
    }

    /** The word with one letter that is another one, one more or one less, at each place. */
    private static List<String> likeWord(String word) {
        List<String> others = new ArrayList<>();
        for (int i = 0; i <= word.length(); i++) {
            others.add(word.substring(0, i) + "e" + word.substring(i));
            if (i < word.length()) {
                others.add(word.substring(0, i) + "e" + word.substring(i + 1));
                others.add(word.substring(0, i) + word.substring(i + 1));
            }
        }
        others.remove(word);
        return others;
    }

    private static void p4FirstError() {
        isError("#wind 10;", WhistlePosts.SYNTAX, 0);
        isError("wind 10;#", WhistlePosts.OUT_OF_RANGE, 5);
        isError("roof a 9 10 10 9999", WhistlePosts.OUT_OF_RANGE, 7);
        isError("roof a 8 10 10 9999", WhistlePosts.OUT_OF_RANGE, 9);
        isError("roof a 8 9 10 9999", WhistlePosts.OUT_OF_RANGE, 11);
        isError("roof a 8 9 9 9999", WhistlePosts.SYNTAX, 13);
        isError(A + "roof a 0", WhistlePosts.NAME_ERROR, 20);
        isError(TWO + "way a a 0", WhistlePosts.NAME_ERROR, 36);
        isError(TWO + "way x a 0", WhistlePosts.NAME_ERROR, 34);
        isError(TWO + "way a b 1;way b a 0", WhistlePosts.REPEATED, 46);
        isError(TWO + "way a b 0;way b a 0", WhistlePosts.OUT_OF_RANGE, 38);
        isError(A + "wind 10", WhistlePosts.OUT_OF_RANGE, 20);
        isError(" \n wind 10;wind 11;", WhistlePosts.OUT_OF_RANGE, 8);
    }

    private static void p5FirstError() {
        isScriptError("#tick 0;", WhistlePosts.SYNTAX, 0);
        isScriptError("tick 0;#", WhistlePosts.OUT_OF_RANGE, 5);
        isScriptError("send x y 9;", WhistlePosts.NAME_ERROR, 5);
        isScriptError("send a y 9;", WhistlePosts.NAME_ERROR, 7);
        isScriptError("send a b 8 9;", WhistlePosts.OUT_OF_RANGE, 9);
        isScriptError("send a b 1 9 1 1 1 1 1 1 1;", WhistlePosts.OUT_OF_RANGE, 11);
        isScriptError("give a 0;give", WhistlePosts.OUT_OF_RANGE, 7);
        isScriptError("cut x x;", WhistlePosts.NAME_ERROR, 4);
        isScriptError("  tick 1;tick 0;tick 201;", WhistlePosts.OUT_OF_RANGE, 14);
        // a statement that would throw is no error, but one behind it is
        isScriptError("cut a b;cut a b;tick 0;", WhistlePosts.OUT_OF_RANGE, 21);
    }

    private static void p4SmallestCode() {
        // too long, and known or not; too long, and out of range
        isError(TWO + "way aaaaaaa b 1;", WhistlePosts.SYNTAX, 34);
        isError(TWO + "way a aaaaaaa 1;", WhistlePosts.SYNTAX, 36);
        isError(TWO + "wind 1000;", WhistlePosts.SYNTAX, 35);
        isError("roof abcdef 1 0 0 0;roof abcdefg 1 0 0 0;", WhistlePosts.SYNTAX, 25);
        // the end of a setup with too few roofs, where more is required
        isError("", WhistlePosts.TOO_FEW, 0);
        isError("roof", WhistlePosts.SYNTAX, 4);
        isError("roof a 1 0 0 0", WhistlePosts.SYNTAX, 14);
        isError(A + "wind", WhistlePosts.SYNTAX, 19);
        isError(A + "wind 1", WhistlePosts.SYNTAX, 21);
    }

    private static void p5SmallestCode() {
        String eight = "send a b 1 1 1 1 1 1 1 1 ";
        isScriptError(eight + "7;", WhistlePosts.TOO_MANY, 25);
        isScriptError(eight + "8;", WhistlePosts.OUT_OF_RANGE, 25);
        isScriptError(eight + "999;", WhistlePosts.OUT_OF_RANGE, 25);
        isScriptError(eight + "1000;", WhistlePosts.SYNTAX, 25);
        isScriptError(eight + "a;", WhistlePosts.SYNTAX, 25);
        isScriptError("tick 1000;", WhistlePosts.SYNTAX, 5);
        isScriptError("give aaaaaaa 1;", WhistlePosts.SYNTAX, 5);
        isScriptError(numbered(30) + "tick", WhistlePosts.TOO_MANY, 210);
        isScriptError(numbered(30) + "tock", WhistlePosts.SYNTAX, 210);
        isScriptError(numbered(30) + "tickticktick", WhistlePosts.SYNTAX, 210);
    }

    private static void p6NoError() {
        CountedPost post = new CountedPost();
        check.is("no call", post.errorCode(), WhistlePosts.NO_ERROR);
        Check.appendBlanks(post);
        post.truncateInput(0);
        check.isThrown("another call that throws", Check.NOTHING, post::undo);
        check.is("still none", post.errorCode(), WhistlePosts.NO_ERROR);
        Check.play(post, "tick");
        check.is("an error", post.errorCode(), WhistlePosts.SYNTAX);
        check.is("a script that stops", Check.play(post, "cut tower inn;"), 0);
        check.is("has no error", post.errorCode(), WhistlePosts.NO_ERROR);
        Check.load(post, "roof");
        check.is("an error", post.errorCode(), WhistlePosts.SYNTAX);
        Check.load(post, TWO);
        check.is("a right load", post.errorCode(), WhistlePosts.NO_ERROR);
        Check.load(post, "roof");
        check.is("an empty script", Check.play(post, ""), 0);
        check.is("has no error", post.errorCode(), WhistlePosts.NO_ERROR);
    }

    private static void p6Latest() {
        CountedPost post = new CountedPost();
        check.isErrorOf(post, "a load", "wind 10;", true, WhistlePosts.OUT_OF_RANGE, 5);
        check.isErrorOf(post, "a script", "give x 1;", false, WhistlePosts.NAME_ERROR, 5);
        check.isErrorOf(post, "an empty load", "", true, WhistlePosts.TOO_FEW, 0);
        check.isErrorOf(post, "a script", "#", false, WhistlePosts.SYNTAX, 0);
        post.saveState();
        post.send(0, 1, 1, false);
        post.undo();
        post.restoreState();
        post.printRoofs();
        check.isThrown("a call that throws", Check.OUT, () -> post.tick(0));
        Check.feed(post, TWO);
        post.truncateInput(0);
        check.is("stays", post.errorCode(), WhistlePosts.SYNTAX);
        check.is("stays", post.errorOffset(), 0);
    }

    private static void p6EachCode() {
        isErrorCode("roofs", 1);
        isErrorCode("wind 10;", 2);
        isErrorCode(TWO + "way a a", 3);
        isErrorCode(TWO + "way a b 1;way a b", 4);
        isErrorCode(roofs(11), 5);
        isErrorCode(A, 6);
        check.is("none", isLoaded(TWO, 0).errorCode(), 0);
    }

    private static void p7NoError() {
        CountedPost post = new CountedPost();
        check.is("no call", post.errorOffset(), -1);
        Check.load(post, "#");
        check.is("an error at 0", post.errorOffset(), 0);
        Check.load(post, TWO);
        check.is("a right load", post.errorOffset(), -1);
        Check.play(post, " #");
        check.is("an error at 1", post.errorOffset(), 1);
        Check.play(post, "");
        check.is("an empty script", post.errorOffset(), -1);
        Check.play(post, "#");
        Check.play(post, "cut a b;");
        check.is("a script that stops", post.errorOffset(), -1);
    }

    private static void p7FirstAndLast() {
        isError("#", WhistlePosts.SYNTAX, 0);
        isError("", WhistlePosts.TOO_FEW, 0);
        isError(" ".repeat(799) + "#", WhistlePosts.SYNTAX, 799);
        isError(" ".repeat(800), WhistlePosts.TOO_FEW, 800);
        isError("roof" + " ".repeat(796), WhistlePosts.SYNTAX, 800);
        isScriptError(" ".repeat(799) + "9", WhistlePosts.SYNTAX, 799);
        isScriptError("tick" + " ".repeat(796), WhistlePosts.SYNTAX, 800);
        isScriptError("#", WhistlePosts.SYNTAX, 0);
    }

    private static void p7FirstByte() {
        isError("roof abcdef 1 0 0 0;roof ghijkl 1 0 0 0;roof ghijkl", WhistlePosts.NAME_ERROR, 45);
        isError("roof abcdef 1 0 0 0;roof ghijkl 1 0 0 0;way abcdef ghijkk 1;", WhistlePosts.NAME_ERROR, 51);
        isError(TWO + "way a b 1;\n way   b   a", WhistlePosts.REPEATED, 52);
        isError("dusk   061;", WhistlePosts.OUT_OF_RANGE, 7);
        isError("dusk\n\n1000;", WhistlePosts.SYNTAX, 6);
        isError("  again again;", WhistlePosts.SYNTAX, 8);
        isError(roofs(10) + "\n\nroof", WhistlePosts.TOO_MANY, 152);
        isError(A + " \n", WhistlePosts.TOO_FEW, 17);
        isError("again \n", WhistlePosts.SYNTAX, 7);
        isScriptError("send a   b   1 2 3 4 5 6 7 0   001;", WhistlePosts.TOO_MANY, 31);
        isScriptError("tick   201;", WhistlePosts.OUT_OF_RANGE, 7);
        isScriptError("give   tower 1;", WhistlePosts.NAME_ERROR, 7);
    }

    private static void p7Latest() {
        CountedPost post = new CountedPost();
        check.isErrorOf(post, "a load", "  #", true, WhistlePosts.SYNTAX, 2);
        check.isErrorOf(post, "a script", " #", false, WhistlePosts.SYNTAX, 1);
        check.isErrorOf(post, "a load", "   #", true, WhistlePosts.SYNTAX, 3);
        post.send(0, 1, 1, false);
        post.undo();
        Check.appendBlanks(post);
        check.is("stays", post.errorOffset(), 3);
    }
}
