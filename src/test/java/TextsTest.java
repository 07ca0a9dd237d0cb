/** Promises 1 to 7: ordinary inputs, the edges that the document names, and wrong inputs. */
public final class TextsTest {
    private static final Check check = new Check();

    private TextsTest() {
    }

    public static void main(String[] args) {
        constants();
        newObject();
        appendInput();
        inputIsNoPartOfTheState();
        truncateInput();
        loadPost();
        settingsBeginAnew();
        mostOfAll();
        nobodyIsBusy();
        nothingIsLeft();
        setupErrors();
        wayErrors();
        failedLoad();
        playScript();
        playUntilThrown();
        playMost();
        scriptErrors();
        spoiledWords();
        errors();
        check.end();
    }

    private static void constants() {
        check.part("constants");
        check.is("NONE", WhistlePosts.NONE, -1);
        check.is("NO_ERROR", WhistlePosts.NO_ERROR, 0);
        check.is("SYNTAX", WhistlePosts.SYNTAX, 1);
        check.is("OUT_OF_RANGE", WhistlePosts.OUT_OF_RANGE, 2);
        check.is("NAME_ERROR", WhistlePosts.NAME_ERROR, 3);
        check.is("REPEATED", WhistlePosts.REPEATED, 4);
        check.is("TOO_MANY", WhistlePosts.TOO_MANY, 5);
        check.is("TOO_FEW", WhistlePosts.TOO_FEW, 6);
    }

    private static void newObject() {
        check.part("1 a new object");
        CountedPost post = new CountedPost();
        check.areCounts(post, 4, 4, 0, 0, 0, 0, 0, 0, 3, 50, 1, 0, 99, 0);
        check.areAccounts(post, 0, 0, 0, 0, 0, 0, 0, 0, 0, 0, 0);
        check.isRoof(post, 0, "tower", 4, 2, 1, 30, 0, 0, 2, 0);
        check.isRoof(post, 1, "barn", 2, 0, 2, 20, 0, 0, 2, 0);
        check.isRoof(post, 2, "mill", 3, 5, 0, 9, 0, 0, 3, 0);
        check.isRoof(post, 3, "inn", 8, 1, 3, 40, 0, 0, 1, 0);
        check.isWay(post, 0, 0, 1, 4);
        check.isWay(post, 1, 1, 2, 6);
        check.isWay(post, 2, 0, 2, 9);
        check.isWay(post, 3, 2, 3, 3);
        check.is("errorCode", post.errorCode(), 0);
        check.is("errorOffset", post.errorOffset(), -1);
        check.is("outputByte(0)", post.outputByte(0), -1);
        check.isThrown("undo", Check.NOTHING, post::undo);
        check.isThrown("restoreState", Check.NOTHING, post::restoreState);
        check.is("truncateInput(1)", post.truncateInput(1), false);
        check.is("appendInput", Check.appendBlanks(post), 20);
    }

    private static void appendInput() {
        check.part("2 appendInput");
        CountedPost post = new CountedPost();
        // "roof a 1 0 0 7;roof b 1 0 0 8;" and ten blanks
        check.is("first 20", post.appendInput(0x726f6f66, 0x20612031, 0x20302030, 0x20373b72, 0x6f6f6620), 20);
        check.is("next 20", post.appendInput(0x62203120, 0x30203020, 0x383b2020, 0x20202020, 0x20202020), 40);
        check.is("loadPost", post.loadPost(), 0);
        check.is("purse of a", post.roof(0, 3), 7);
        check.is("purse of b", post.roof(1, 3), 8);
        for (int length = 20; length <= 800; length += 20) {
            check.is("append", Check.appendBlanks(post), length);
        }
        check.is("a 41st time", Check.appendBlanks(post), -1);
        check.is("it is not longer", post.truncateInput(801), false);
        check.is("nor shorter", post.truncateInput(800), true);
        check.is("cut to 781", post.truncateInput(781), true);
        check.is("20 behind 781", Check.appendBlanks(post), -1);
        check.is("cut to 780", post.truncateInput(780), true);
        check.is("20 behind 780", Check.appendBlanks(post), 800);
        check.is("load of 800 blanks", post.loadPost(), -1);
        check.is("offset", post.errorOffset(), 800);
    }

    private static void inputIsNoPartOfTheState() {
        check.part("2 appendInput, the buffer alone");
        CountedPost post = Check.loaded(Check.PAIR);
        check.is("bytes above 127", post.appendInput(0x20ff2020, -1, -1, -1, -1), 20);
        check.is("load of them", post.loadPost(), -1);
        check.is("code", post.errorCode(), WhistlePosts.SYNTAX);
        check.is("offset", post.errorOffset(), 1);
        post.saveState();
        post.send(0, 1, 1, false);
        check.is("append", Check.appendBlanks(post), 20);
        post.undo();
        check.is("append behind undo", Check.appendBlanks(post), 40);
        post.restoreState();
        check.is("append behind restoreState", Check.appendBlanks(post), 60);
        check.isThrown("send", Check.NO_SUCH, () -> post.send(9, 1, 1, false));
        check.is("append behind a throw", Check.appendBlanks(post), 80);
    }

    private static void truncateInput() {
        check.part("3 truncateInput");
        CountedPost post = new CountedPost();
        check.is("to 0 when empty", post.truncateInput(0), true);
        check.is("to 1 when empty", post.truncateInput(1), false);
        Check.appendBlanks(post);
        check.is("negative", post.truncateInput(-1), false);
        check.is("least", post.truncateInput(Check.MIN), false);
        check.is("greater", post.truncateInput(21), false);
        check.is("greatest", post.truncateInput(Check.MAX), false);
        check.is("as it is", post.truncateInput(20), true);
        check.is("length was 20", Check.appendBlanks(post), 40);
        check.is("to 7", post.truncateInput(7), true);
        check.is("length was 7", Check.appendBlanks(post), 27);
        check.is("to 8 of 27", post.truncateInput(8), true);
        check.is("to 9 of 8", post.truncateInput(9), false);
        check.is("to 0", post.truncateInput(0), true);
        check.is("length was 0", Check.appendBlanks(post), 20);
    }

    private static void loadPost() {
        check.part("4 loadPost");
        CountedPost post = new CountedPost();
        post.send(0, 3, 1234, true);
        post.tick(1);
        post.saveState();
        post.printRoofs();
        String output = Check.output(post);
        String text = "roof\nzoo 8 9 9 999;roof abcdef 1 0 0 0 ;way abcdef zoo 9;wind 9;wind 1;dusk 1;again 3;";
        check.is("load", Check.load(post, text), 1);
        check.areCounts(post, 2, 1, 0, 0, 0, 0, 0, 0, 1, 1, 3, 0, 999, 0);
        check.areAccounts(post, 0, 0, 0, 0, 0, 0, 0, 0, 0, 0, 0);
        check.isRoof(post, 0, "zoo", 8, 9, 9, 999, 0, 0, 1, 0);
        check.isRoof(post, 1, "abcdef", 1, 0, 0, 0, 0, 0, 1, 0);
        check.isWay(post, 0, 1, 0, 9);
        check.isText("the output stays", Check.output(post), output);
        check.isThrown("undo", Check.NOTHING, post::undo);
        check.isThrown("restoreState", Check.NOTHING, post::restoreState);
        check.is("the buffer is empty", Check.appendBlanks(post), 20);
        check.is("load of blanks", post.loadPost(), -1);
        check.is("the buffer is empty behind an error", Check.appendBlanks(post), 20);
    }

    private static void settingsBeginAnew() {
        check.part("4 loadPost, settings and tokens");
        CountedPost post = Check.loaded(Check.PAIR + "wind 1;dusk 1;again 3;");
        check.is("without settings", Check.load(post, Check.PAIR), 1);
        check.areCounts(post, 2, 1, 0, 0, 0, 0, 0, 0, 3, 50, 1);
        check.is("few blanks", Check.load(post, "roof a8 9 0 10;roof b 8 9 0 20;way a b1;wind0;dusk 60;"), 1);
        check.areCounts(post, 2, 1, 0, 0, 0, 0, 0, 0, 0, 60, 1);
        check.is("names from the form", Check.load(post, "roof roof 1 0 0 0;roof way 1 0 0 001;way way roof 009;"), 1);
        check.isWay(post, 0, 1, 0, 9);
        check.is("purse 001", post.roof(1, 3), 1);
        check.is("settings first, and apart", Check.load(post, "again 0;\n \nroof b 8 9 9 0;wind 9;roof a 1 0 0 0;\n"), 0);
        check.areCounts(post, 2, 0, 0, 0, 0, 0, 0, 0, 9, 50, 0);
    }

    private static void mostOfAll() {
        check.part("4 loadPost, the most");
        String roofs = Check.tenRoofs();
        String text = roofs + Check.ways(20);
        CountedPost post = new CountedPost();
        check.is("ten roofs and twenty ways", Check.load(post, text), 20);
        check.is("roofs", post.count(0), 10);
        isError("21st way", roofs + Check.ways(21), WhistlePosts.TOO_MANY, text.length());
        isError("21st way, no more", text + " way", WhistlePosts.TOO_MANY, text.length() + 1);
        isError("11th roof", roofs + "wind 1;roof k 1 0 0 0;", WhistlePosts.TOO_MANY, roofs.length() + 7);
        isError("11th roof, no more", roofs + "roof", WhistlePosts.TOO_MANY, roofs.length());
        isError("another word", roofs + "roofs", WhistlePosts.SYNTAX, roofs.length());
    }

    private static void nobodyIsBusy() {
        check.part("4 loadPost, nobody is busy");
        CountedPost post = Check.loaded("roof a 1 0 0 0;roof b 1 0 0 0;way a b 1;");
        post.send(0, 1, 12345670, false);
        post.tick(1);
        check.is("busy", post.count(11), 1);
        Check.load(post, "roof c 1 0 0 0;roof d 1 0 0 0;");
        check.areCounts(post, 2, 0, 0, 0, 0, 0, 0, 0, 3, 50, 1, 0, 0, 0);
        check.isRoof(post, 0, "c", 1, 0, 0, 0, 0, 0, 0, 0);
        check.is("no route by ways of old", post.route(0, 1), WhistlePosts.NONE);
    }

    /** What would come was worked out for a post with tunes, before another one is loaded. */
    private static void nothingIsLeft() {
        check.part("4 loadPost, nothing is left");
        CountedPost post = new CountedPost();
        post.send(3, 0, 12345670, true);
        post.send(0, 3, 1234, true);
        post.set(8, 9);
        check.is("ticks", post.growsBy(0, 200), 200);
        check.is("over mill at 5 and 21", post.arrivesIn(0), 33);
        check.is("over mill at 11 and 26", post.arrivesIn(1), 31);
        Check.load(post, Check.PAIR + "dusk 60;");
        check.areCounts(post, 2, 1, 0, 0, 0, 0, 0, 0, 3, 60, 1, 0, 30, 0);
        check.areAccounts(post, 0, 0, 0, 0, 0, 0, 0, 0, 0, 0, 0);
        check.isRoof(post, 0, "a", 8, 9, 0, 10, 0, 0, 1, 0);
        check.isRoof(post, 1, "b", 8, 9, 0, 20, 0, 0, 1, 0);
        post.send(0, 1, 12, false);
        check.isTune(post, 0, 0, 1, 2, 0, 0, -1, 0, 0, 0, 1, 0, 0);
        check.is("one waits", post.waiting(0, 1), WhistlePosts.NONE);
        check.is("it goes", post.arrivesIn(0), 3);
    }

    private static void isError(String what, String text, int code, int offset) {
        check.isErrorOf(new CountedPost(), what, text, true, code, offset);
    }

    private static void setupErrors() {
        check.part("4 loadPost, errors");
        isError("no text", "", WhistlePosts.TOO_FEW, 0);
        isError("blanks", " \n ", WhistlePosts.TOO_FEW, 3);
        isError("one roof", "roof a 1 0 0 0; ", WhistlePosts.TOO_FEW, 16);
        isError("settings alone", "wind 3;", WhistlePosts.TOO_FEW, 7);
        String a = "roof a 1 0 0 0;";
        isError("breath 0", "roof a 0 0 0 0;", WhistlePosts.OUT_OF_RANGE, 7);
        isError("breath 9", "roof a 9 0 0 0;", WhistlePosts.OUT_OF_RANGE, 7);
        isError("ear 10", "roof a 8 10 0 0;", WhistlePosts.OUT_OF_RANGE, 9);
        isError("fee 10", "roof a 8 9 10 0;", WhistlePosts.OUT_OF_RANGE, 11);
        isError("purse 1000", "roof a 8 9 9 1000;", WhistlePosts.SYNTAX, 13);
        isError("number for a name", "roof 1 1 0 0 0;", WhistlePosts.SYNTAX, 5);
        isError("name of 7", "roof abcdefg 1 0 0 0;", WhistlePosts.SYNTAX, 5);
        isError("name of 9", "roof abcdefghi 1 0 0 0;", WhistlePosts.SYNTAX, 5);
        isError("no name", "roof ;", WhistlePosts.SYNTAX, 5);
        isError("name again", a + "roof a 1 0 0 0;", WhistlePosts.NAME_ERROR, 20);
        isError("name again, then nothing", a + "roof a", WhistlePosts.NAME_ERROR, 20);
        isError("too few numbers", "roof a 1 0 0;", WhistlePosts.SYNTAX, 12);
        isError("too many numbers", "roof a 1 0 0 0 0;", WhistlePosts.SYNTAX, 15);
        isError("no semicolon", a + "roof b 1 0 0 0", WhistlePosts.SYNTAX, 29);
        isError("no semicolon but a word", a + "roof b 1 0 0 0 way a b 1;", WhistlePosts.SYNTAX, 30);
        isError("one more semicolon", a + ";", WhistlePosts.SYNTAX, 15);
        isError("a number first", "3;", WhistlePosts.SYNTAX, 0);
        isError("a word of a script", a + "send a b 1;", WhistlePosts.SYNTAX, 15);
        isError("a great letter", "Roof a 1 0 0 0;", WhistlePosts.SYNTAX, 0);
        isError("a tab", "roof\ta 1 0 0 0;", WhistlePosts.SYNTAX, 4);
        isError("a minus", "roof a -1 0 0 0;", WhistlePosts.SYNTAX, 7);
        isError("a dot behind a number", "roof a 1. 0 0 0;", WhistlePosts.SYNTAX, 8);
        isError("end in a statement", "roof a 1  ", WhistlePosts.SYNTAX, 10);
        isError("wind 10", "wind 10;", WhistlePosts.OUT_OF_RANGE, 5);
        isError("dusk 0", "dusk 0;", WhistlePosts.OUT_OF_RANGE, 5);
        isError("dusk 61", "dusk 61;", WhistlePosts.OUT_OF_RANGE, 5);
        isError("again 4", "again 4;", WhistlePosts.OUT_OF_RANGE, 6);
        isError("wind without a number", "wind;", WhistlePosts.SYNTAX, 4);
        isError("wind of two numbers", "wind 1 2;", WhistlePosts.SYNTAX, 7);
    }

    private static void wayErrors() {
        check.part("4 loadPost, errors of ways");
        String two = "roof a 1 0 0 0;roof b 1 0 0 0;";
        isError("first unknown", two + "way c a 1;", WhistlePosts.NAME_ERROR, 34);
        isError("second unknown", two + "way a c 1;", WhistlePosts.NAME_ERROR, 36);
        isError("told too late", "way a b 1;" + two, WhistlePosts.NAME_ERROR, 4);
        isError("twice the same", two + "way a a 1;", WhistlePosts.NAME_ERROR, 36);
        isError("there already", two + "way a b 1;way a b 2;", WhistlePosts.REPEATED, 46);
        isError("there already, turned", two + "way a b 1;way b a 1;", WhistlePosts.REPEATED, 46);
        isError("there already, no more", two + "way a b 1;way b a", WhistlePosts.REPEATED, 46);
        isError("far 0", two + "way a b 0;", WhistlePosts.OUT_OF_RANGE, 38);
        isError("far 10", two + "way a b 10;", WhistlePosts.OUT_OF_RANGE, 38);
        isError("second a number", two + "way a 1;", WhistlePosts.SYNTAX, 36);
        isError("a long name", two + "way a bbbbbbb 1;", WhistlePosts.SYNTAX, 36);
        isError("no far", two + "way a b;", WhistlePosts.SYNTAX, 37);
    }

    private static void failedLoad() {
        check.part("4 loadPost, an error changes nothing");
        CountedPost post = new CountedPost();
        post.send(0, 1, 1, false);
        check.isErrorOf(post, "a load", "roof a 1 0 0 0;wind 9;roof b 1 0 0 0;way a b", true, WhistlePosts.SYNTAX, 44);
        check.areCounts(post, 4, 4, 1, 1, 0, 0, 0, 0, 3, 50, 1, 0, 99, 1);
        check.isRoof(post, 3, "inn", 8, 1, 3, 40, 0, 0, 1, 0);
        check.is("changes stay", post.undo(), 0);
    }

    private static void playScript() {
        check.part("5 playScript");
        CountedPost post = Check.loaded(Check.PAIR + "again 0;");
        String script = "wind 9;send a b 1 2 3;ask b a 7 ;tick 3;give b 99;dusk 1;again 3;cut b a;";
        check.is("all", Check.play(post, script), 8);
        check.areCounts(post, 2, 0, 3, 0, 1, 2, 0, 3, 9, 1, 3, 1, 129, 1);
        check.isTune(post, 0, 0, 1, 3, 2, 1, -1, 0, 0);
        check.isTune(post, 1, 1, 0, 1, 2, 0, -1, 0, 1);
        check.isTune(post, 2, 0, 1, 1, 1, 1, 5, 1, 0);
        check.is("first note", post.note(0, 0, false), 1);
        check.is("third note", post.note(0, 2, true), 3);
        check.areAccounts(post, 3, 3, 1, 3, 0, 2, 2, 0, 0, 0, 99);
        check.is("one change", post.undo(), 0);
        check.areCounts(post, 2, 1, 0, 0, 0, 0, 0, 0, 3, 50, 0, 0, 30, 0);
        check.is("nothing to do", Check.play(post, " "), 0);
        check.is("is a change, too", post.count(13), 1);
        check.is("error", Check.play(post, "tick"), -1);
        check.is("an error is no change", post.count(13), 1);
        check.is("the buffer is empty behind an error", Check.appendBlanks(post), 20);
        post.playScript();
        check.is("the buffer is empty", Check.appendBlanks(post), 20);
    }

    private static void playUntilThrown() {
        check.part("5 playScript, until a method would throw");
        CountedPost post = Check.loaded(Check.PAIR);
        check.is("cut twice", Check.play(post, "wind 5;cut a b;cut b a;wind 6;"), 2);
        check.is("wind", post.count(8), 5);
        check.is("no error", post.errorCode(), 0);
        check.is("no offset", post.errorOffset(), -1);
        check.is("undone together", post.undo(), 0);
        check.is("wind of old", post.count(8), 3);
        check.is("way of old", post.count(1), 1);
        check.is("cut", Check.play(post, "cut a b;"), 1);
        check.is("cut once more", Check.play(post, "cut a b;"), 0);
        check.is("it is a change all the same", post.count(13), 2);
        for (int i = 0; i < 49; i++) {
            post.tick(200);
        }
        check.is("up to 9999", Check.play(post, "tick 199;tick 1;wind 8;"), 1);
        check.is("time", post.count(7), 9999);
        check.is("nothing behind it", post.count(8), 3);
        for (int i = 0; i < 100; i++) {
            post.give(0, 99);
        }
        check.is("above 9999", Check.play(post, "give a 89;give a 1;wind 8;"), 1);
        check.is("purse", post.roof(0, 3), 9999);
        StringBuilder many = new StringBuilder();
        for (int i = 0; i < 29; i++) {
            many.append("send a b 1;");
        }
        check.is("29 tunes", Check.play(post, many.toString()), 29);
        check.is("the 31st tune", Check.play(post, "ask b a 1;ask b a 2;"), 1);
        check.is("tunes", post.count(2), 30);
    }

    private static void playMost() {
        check.part("5 playScript, the most");
        StringBuilder thirty = new StringBuilder();
        for (int i = 0; i < 30; i++) {
            thirty.append("wind ").append(i % 10).append(";");
        }
        CountedPost post = Check.loaded(Check.PAIR);
        check.is("30 statements", Check.play(post, thirty.toString()), 30);
        check.is("wind", post.count(8), 9);
        check.isErrorOf(post, "31 statements", thirty + " tick", false, WhistlePosts.TOO_MANY, 211);
        check.isErrorOf(post, "30 and a wrong word", thirty + "tock 1;", false, WhistlePosts.SYNTAX, 210);
        check.is("8 notes", Check.play(post, "send a b 0 1 2 3 4 5 6 7;"), 1);
        check.isHeard(post, 0, "01234567>b");
        check.is("200 ticks", Check.play(post, "tick 200;"), 1);
        check.is("time", post.count(7), 200);
        check.is("least of each", Check.play(post, "tick 1;give a 1;wind 0;dusk 1;again 0;send b a 0;"), 6);
        check.is("dusk", post.count(9), 1);
        check.is("most of each", Check.play(post, "give a 99;wind 9;dusk 60;again 3;"), 4);
        check.is("again", post.count(10), 3);
    }

    private static void isScriptError(String what, String text, int code, int offset) {
        CountedPost post = Check.loaded(Check.PAIR + "roof c 1 0 0 0;");
        check.isErrorOf(post, what, text, false, code, offset);
        check.areCounts(post, 3, 1, 0, 0, 0, 0, 0, 0, 3, 50, 1, 0, 30, 0);
    }

    private static void scriptErrors() {
        check.part("5 playScript, errors");
        isScriptError("tick 0", "wind 4;tick 0;", WhistlePosts.OUT_OF_RANGE, 12);
        isScriptError("tick 201", "tick 201;", WhistlePosts.OUT_OF_RANGE, 5);
        isScriptError("tick a", "tick a;", WhistlePosts.SYNTAX, 5);
        isScriptError("give 0", "give a 0;", WhistlePosts.OUT_OF_RANGE, 7);
        isScriptError("give 100", "give a 100;", WhistlePosts.OUT_OF_RANGE, 7);
        isScriptError("give nobody", "give x 1;", WhistlePosts.NAME_ERROR, 5);
        isScriptError("cut nobody", "cut a x;", WhistlePosts.NAME_ERROR, 6);
        isScriptError("cut the same", "cut a a;", WhistlePosts.NAME_ERROR, 6);
        isScriptError("cut of three", "cut a b c;", WhistlePosts.SYNTAX, 8);
        isScriptError("send to itself", "send a a 1;", WhistlePosts.NAME_ERROR, 7);
        isScriptError("ask itself", "ask b b 1;", WhistlePosts.NAME_ERROR, 6);
        isScriptError("sender unknown", "send x a 1;", WhistlePosts.NAME_ERROR, 5);
        isScriptError("goal unknown", "ask a x 1;", WhistlePosts.NAME_ERROR, 6);
        isScriptError("a long name", "send abcdefg a 1;", WhistlePosts.SYNTAX, 5);
        isScriptError("no note", "send a b;", WhistlePosts.SYNTAX, 8);
        isScriptError("note 8", "send a b 7 8;", WhistlePosts.OUT_OF_RANGE, 11);
        isScriptError("9 notes", "ask a b 1 1 1 1 1 1 1 1 7;", WhistlePosts.TOO_MANY, 24);
        isScriptError("9th note 8", "ask a b 1 1 1 1 1 1 1 1 8;", WhistlePosts.OUT_OF_RANGE, 24);
        isScriptError("9th note too long", "ask a b 1 1 1 1 1 1 1 1 1111;", WhistlePosts.SYNTAX, 24);
        isScriptError("a word among notes", "send a b 1 b;", WhistlePosts.SYNTAX, 11);
        isScriptError("end among notes", "send a b 1 ", WhistlePosts.SYNTAX, 11);
        isScriptError("wind 10", "wind 10;", WhistlePosts.OUT_OF_RANGE, 5);
        isScriptError("dusk 0", "dusk 0;", WhistlePosts.OUT_OF_RANGE, 5);
        isScriptError("dusk 61", "dusk 61;", WhistlePosts.OUT_OF_RANGE, 5);
        isScriptError("again 4", "again 4;", WhistlePosts.OUT_OF_RANGE, 6);
        isScriptError("a word of a setup", "roof d 1 0 0 0;", WhistlePosts.SYNTAX, 0);
        isScriptError("a semicolon alone", ";", WhistlePosts.SYNTAX, 0);
        isScriptError("a byte of no token", "tick 1;?", WhistlePosts.SYNTAX, 7);
        isScriptError("a long word", "ticktickt 1;", WhistlePosts.SYNTAX, 0);
        isScriptError("no semicolon", "tick 1", WhistlePosts.SYNTAX, 6);
    }

    /** Each word of the form with one letter that is wrong, or one too many or too few. */
    private static void spoiledWords() {
        check.part("4, 5 loadPost and playScript, words");
        for (String word : new String[] {"roof", "way", "send", "ask", "tick", "give", "cut", "wind", "dusk", "again"}) {
            for (int i = 0; i < word.length(); i++) {
                isNoWord(word.substring(0, i) + "x" + word.substring(i + 1));
            }
            isNoWord(word + "s");
            isNoWord(word.substring(1));
            isNoWord(word.substring(0, word.length() - 1));
        }
    }

    private static void isNoWord(String word) {
        CountedPost post = Check.loaded(Check.PAIR);
        check.isErrorOf(post, word, word + " a b 1;", true, WhistlePosts.SYNTAX, 0);
        check.isErrorOf(post, word, word + " a b 1;", false, WhistlePosts.SYNTAX, 0);
    }

    private static void errors() {
        check.part("6, 7 errorCode, errorOffset");
        CountedPost post = new CountedPost();
        check.isErrorOf(post, "a load", "roof a 1 x", true, WhistlePosts.SYNTAX, 9);
        Check.appendBlanks(post);
        post.truncateInput(0);
        check.is("it stays", post.errorCode(), WhistlePosts.SYNTAX);
        post.saveState();
        post.send(0, 1, 1, false);
        post.undo();
        check.is("undo lets it stay", post.errorCode(), WhistlePosts.SYNTAX);
        post.restoreState();
        check.is("restoreState lets it stay", post.errorOffset(), 9);
        check.isErrorOf(post, "the latest one", "  tick 300;", false, WhistlePosts.OUT_OF_RANGE, 7);
        check.is("a right one", Check.play(post, "tick 1;"), 1);
        check.is("no error", post.errorCode(), WhistlePosts.NO_ERROR);
        check.is("no offset", post.errorOffset(), -1);
        check.isErrorOf(post, "at 0", "", true, WhistlePosts.TOO_FEW, 0);
        check.is("a right load", Check.load(post, Check.PAIR), 1);
        check.is("no error", post.errorCode(), WhistlePosts.NO_ERROR);
        check.is("no offset", post.errorOffset(), -1);
    }
}
