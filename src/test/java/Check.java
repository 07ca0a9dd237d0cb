import java.util.NoSuchElementException;

/** Counts and prints what is not as it is due, and feeds texts to a post. */
final class Check {
    private int asDue = 0;
    private int wrong = 0;
    private String part = "";

    static final int MIN = Integer.MIN_VALUE;
    static final int MAX = Integer.MAX_VALUE;

    static final Class<IndexOutOfBoundsException> NO_SUCH = IndexOutOfBoundsException.class;
    static final Class<IllegalArgumentException> OUT = IllegalArgumentException.class;
    static final Class<IllegalStateException> STATE = IllegalStateException.class;
    static final Class<NoSuchElementException> NOTHING = NoSuchElementException.class;

    /** Two roofs near to one another, where no wind is heard and nothing is paid. */
    static final String PAIR = "roof a 8 9 0 10;roof b 8 9 0 20;way a b 1;";
    /** Three in a row, and one apart. */
    static final String ROW = "roof a 1 0 1 100;roof b 2 0 2 100;roof c 3 0 3 100;roof d 4 0 4 100;way a b 2;way b c 3;";
    /** From c to d over a, and from c to e over b, where each costs c all that it has. */
    static final String FORK = "roof a 8 9 5 0;roof b 8 9 5 0;roof c 8 9 0 5;roof d 8 9 0 0;roof e 8 9 0 0;"
        + "way c a 2;way a d 1;way c b 1;way b e 1;";

    interface Call {
        void run();
    }

    interface RoofCall {
        void run(int roof, int goal);
    }

    void part(String name) {
        part = name;
    }

    void is(String what, long got, long due) {
        if (got == due) {
            asDue++;
        } else {
            complain(what + " answered " + got + ", due is " + due);
        }
    }

    void is(String what, boolean got, boolean due) {
        is(what, got ? 1 : 0, due ? 1 : 0);
    }

    void isText(String what, String got, String due) {
        if (got.equals(due)) {
            asDue++;
        } else {
            complain(what + " is \"" + got + "\", due is \"" + due + "\"");
        }
    }

    void isExactly(String what, double got, double due) {
        if (Double.compare(got, due) == 0) {
            asDue++;
        } else {
            complain(what + " answered " + got + ", due is " + due);
        }
    }

    /** The call must throw exactly this class: one below it would be the machine's own. */
    void isThrown(String what, Class<? extends RuntimeException> due, Call call) {
        isText(what + " throws", thrownBy(call), due.getSimpleName());
    }

    static String thrownBy(Call call) {
        try {
            call.run();
        } catch (RuntimeException e) {
            return e.getClass().getSimpleName();
        }
        return "nothing";
    }

    /** For a post of four roofs. */
    void isThrownForRoofs(String what, RoofCall call) {
        for (int roof : new int[] {-1, 4, MIN, MAX}) {
            isThrown(what + " from " + roof, NO_SUCH, () -> call.run(roof, 0));
            isThrown(what + " to " + roof, NO_SUCH, () -> call.run(0, roof));
        }
    }

    void isRoof(WhistlePosts post, int roof, String name, int... numbers) {
        isText("name of roof " + roof, name(post, roof), name);
        for (int what = 0; what < numbers.length; what++) {
            is("roof(" + roof + ", " + what + ")", post.roof(roof, what), numbers[what]);
        }
    }

    void isWay(WhistlePosts post, int way, int one, int other, int far) {
        is("way(" + way + ", 0)", post.way(way, 0), one);
        is("way(" + way + ", 1)", post.way(way, 1), other);
        is("way(" + way + ", 2)", post.way(way, 2), far);
    }

    void areCounts(WhistlePosts post, int... numbers) {
        for (int what = 0; what < numbers.length; what++) {
            is("count(" + what + ")", post.count(what), numbers[what]);
        }
    }

    void areAccounts(WhistlePosts post, int... numbers) {
        for (int what = 0; what < numbers.length; what++) {
            is("account(" + what + ")", post.account(what), numbers[what]);
        }
    }

    void isTune(WhistlePosts post, int tune, int... numbers) {
        for (int what = 0; what < numbers.length; what++) {
            is("tune(" + tune + ", " + what + ")", post.tune(tune, what), numbers[what]);
        }
    }

    void isHeard(WhistlePosts post, int tune, String due) {
        post.printTune(tune);
        isText("printTune(" + tune + ")", output(post), due);
    }

    void isWhy(WhistlePosts post, int tune, int reason, int cause) {
        is("why(" + tune + ", 0)", post.why(tune, 0), reason);
        is("why(" + tune + ", 1)", post.why(tune, 1), cause);
    }

    void isErrorOf(WhistlePosts post, String what, String text, boolean isSetup, int code, int offset) {
        is(what + " loads or plays", isSetup ? load(post, text) : play(post, text), -1);
        is(what + ": errorCode", post.errorCode(), code);
        is(what + ": errorOffset", post.errorOffset(), offset);
    }

    void complain(String text) {
        wrong++;
        if (wrong <= 50) {
            System.out.println(part + ": " + text);
        }
    }

    void end() {
        System.out.println(asDue + " answers as due, " + wrong + " not");
        if (wrong != 0 || asDue == 0) {
            System.exit(1);
        }
    }

    /** Puts a text behind what the input buffer holds, which is nothing in all tests that use this. */
    static void feed(WhistlePosts post, String text) {
        int length = 0;
        for (int from = 0; from < text.length(); from += 20) {
            int[] words = new int[5];
            for (int i = 0; i < 20; i++) {
                int sign = from + i < text.length() ? text.charAt(from + i) : ' ';
                words[i / 4] = words[i / 4] << 8 | sign;
            }
            length = post.appendInput(words[0], words[1], words[2], words[3], words[4]);
        }
        if (length < 0 || !post.truncateInput(text.length())) {
            throw new IllegalArgumentException("the text is too long: " + text.length());
        }
    }

    static int appendBlanks(WhistlePosts post) {
        return post.appendInput(0x20202020, 0x20202020, 0x20202020, 0x20202020, 0x20202020);
    }

    static String tenRoofs() {
        StringBuilder text = new StringBuilder();
        for (char name = 'a'; name <= 'j'; name++) {
            text.append("roof ").append(name).append(" 1 0 0 0;");
        }
        return text.toString();
    }

    /** Ways between the ten roofs: the first nine are a row, the others leave out one or two. */
    static String ways(int most) {
        StringBuilder text = new StringBuilder();
        int ways = 0;
        for (int step = 1; step < 4; step++) {
            for (char name = 'a'; name + step <= 'j' && ways < most; name++) {
                text.append("way ").append(name).append(' ').append((char) (name + step)).append(" 1;");
                ways++;
            }
        }
        return text.toString();
    }

    static int load(WhistlePosts post, String text) {
        feed(post, text);
        return post.loadPost();
    }

    static int play(WhistlePosts post, String text) {
        feed(post, text);
        return post.playScript();
    }

    static WhistlePosts loaded(String text) {
        WhistlePosts post = new WhistlePosts();
        if (load(post, text) < 0) {
            throw new IllegalArgumentException("error " + post.errorCode() + " at " + post.errorOffset() + " in " + text);
        }
        return post;
    }

    static String output(WhistlePosts post) {
        StringBuilder text = new StringBuilder();
        for (int i = 0; post.outputByte(i) != -1; i++) {
            text.append((char) post.outputByte(i));
        }
        return text.toString();
    }

    static String name(WhistlePosts post, int roof) {
        StringBuilder text = new StringBuilder();
        for (int i = 0; post.nameByte(roof, i) != -1; i++) {
            text.append((char) post.nameByte(roof, i));
        }
        return text.toString();
    }
}
