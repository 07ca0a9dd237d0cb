import java.util.NoSuchElementException;
import java.util.Set;

/** Counts and prints what is not as it is due, and feeds texts to a post. */
final class Check {
    private int asDue = 0;
    private int wrong = 0;
    private String part = "";

    static final int MIN = Integer.MIN_VALUE;
    static final int MAX = Integer.MAX_VALUE;

    static final Class<IndexOutOfBoundsException> NO_SUCH = IndexOutOfBoundsException.class;
    static final Class<IllegalArgumentException> OUT = IllegalArgumentException.class;
    static final Class<IllegalStateException> STATE = IllegalStateException.class;
    static final Class<NoSuchElementException> NOTHING = NoSuchElementException.class;

    /** Two roofs near to one another, where no wind is heard and nothing is paid. */
    static final String PAIR = "roof a 8 9 0 10;roof b 8 9 0 20;way a b 1;";
    /** Three in a row, and one apart. */
    static final String ROW = "roof a 1 0 1 100;roof b 2 0 2 100;roof c 3 0 3 100;roof d 4 0 4 100;way a b 2;way b c 3;";
    /** From c to d over a, and from c to e over b, where each costs c all that it has. */
    static final String FORK = "roof a 8 9 5 0;roof b 8 9 5 0;roof c 8 9 0 5;roof d 8 9 0 0;roof e 8 9 0 0;"
        + "way c a 2;way a d 1;way c b 1;way b e 1;";

    interface Call {
        void run();
    }

    interface RoofCall {
        void run(int roof, int goal);
    }

    void part(String name) {
        part = name;
    }

    void is(String what, long got, long due) {
        if (got == due) {
            asDue++;
        } else {
            complain(what + " answered " + got + ", due is " + due);
        }
    }

    void is(String what, boolean got, boolean due) {
        is(what, got ? 1 : 0, due ? 1 : 0);
    }

    void isText(String what, String got, String due) {
        if (got.equals(due)) {
            asDue++;
        } else {
            complain(what + " is \"" + got + "\", due is \"" + due + "\"");
        }
    }

    void isExactly(String what, double got, double due) {
        if (Double.compare(got, due) == 0) {
            asDue++;
        } else {
            complain(what + " answered " + got + ", due is " + due);
        }
    }

    /** The call must throw exactly this class: one below it would be the machine's own. */
    void isThrown(String what, Class<? extends RuntimeException> due, Call call) {
        isText(what + " throws", thrownBy(call), due.getSimpleName());
    }

    static String thrownBy(Call call) {
        try {
            call.run();
        } catch (RuntimeException e) {
            return e.getClass().getSimpleName();
        }
        return "nothing";
    }

    /** For a post of four roofs. */
    void isThrownForRoofs(String what, RoofCall call) {
        for (int roof : new int[] {-1, 4, MIN, MAX}) {
            isThrown(what + " from " + roof, NO_SUCH, () -> call.run(roof, 0));
            isThrown(what + " to " + roof, NO_SUCH, () -> call.run(0, roof));
        }
    }

    void isRoof(CountedPost post, int roof, String name, int... numbers) {
        isText("name of roof " + roof, name(post, roof), name);
        for (int what = 0; what < numbers.length; what++) {
            is("roof(" + roof + ", " + what + ")", post.roof(roof, what), numbers[what]);
        }
    }

    void isWay(CountedPost post, int way, int one, int other, int far) {
        is("way(" + way + ", 0)", post.way(way, 0), one);
        is("way(" + way + ", 1)", post.way(way, 1), other);
        is("way(" + way + ", 2)", post.way(way, 2), far);
    }

    void areCounts(CountedPost post, int... numbers) {
        for (int what = 0; what < numbers.length; what++) {
            is("count(" + what + ")", post.count(what), numbers[what]);
        }
    }

    void areAccounts(CountedPost post, int... numbers) {
        for (int what = 0; what < numbers.length; what++) {
            is("account(" + what + ")", post.account(what), numbers[what]);
        }
    }

    void isTune(CountedPost post, int tune, int... numbers) {
        for (int what = 0; what < numbers.length; what++) {
            is("tune(" + tune + ", " + what + ")", post.tune(tune, what), numbers[what]);
        }
    }

    void isHeard(CountedPost post, int tune, String due) {
        post.printTune(tune);
        isText("printTune(" + tune + ")", output(post), due);
    }

    void isWhy(CountedPost post, int tune, int reason, int cause) {
        is("why(" + tune + ", 0)", post.why(tune, 0), reason);
        is("why(" + tune + ", 1)", post.why(tune, 1), cause);
    }

    void isErrorOf(CountedPost post, String what, String text, boolean isSetup, int code, int offset) {
        is(what + " loads or plays", isSetup ? load(post, text) : play(post, text), -1);
        is(what + ": errorCode", post.errorCode(), code);
        is(what + ": errorOffset", post.errorOffset(), offset);
    }

    /** The call is made on a post in full swing, must throw exactly this class, and change nothing. */
    void isRefused(String what, Class<? extends RuntimeException> due, Twins.Treatment call) {
        CountedPost post = new CountedPost();
        lively(post);
        isThrown(what, due, () -> call.on(post));
        isIdle(what, other -> thrownBy(() -> call.on(other)));
    }

    /** The call changes nothing of a post in full swing. */
    void isIdle(String what, Twins.Treatment call) {
        isIdle(what, Twins.ALL, call);
    }

    void isIdle(String what, Set<Twins.Part> parts, Twins.Treatment call) {
        Twins.areAlike(this, what + " changes nothing", parts, Check::lively, post -> {
            lively(post);
            call.on(post);
        });
    }

    int answers() {
        return asDue + wrong;
    }

    void complain(String text) {
        wrong++;
        if (wrong <= 50) {
            System.out.println(part + ": " + text);
        }
    }

    void end() {
        System.out.println(asDue + " answers as due, " + wrong + " not");
        if (wrong != 0 || asDue == 0) {
            System.exit(1);
        }
    }

    /** Puts a text behind what the input buffer holds, which is nothing in all tests that use this. */
    static void feed(CountedPost post, String text) {
        int length = 0;
        for (int from = 0; from < text.length(); from += 20) {
            int[] words = new int[5];
            for (int i = 0; i < 20; i++) {
                int sign = from + i < text.length() ? text.charAt(from + i) : ' ';
                words[i / 4] = words[i / 4] << 8 | sign;
            }
            length = post.appendInput(words[0], words[1], words[2], words[3], words[4]);
        }
        if (length < 0 || !post.truncateInput(text.length())) {
            throw new IllegalArgumentException("the text is too long: " + text.length());
        }
    }

    /**
     * Four roofs, one of them alone, and two ways; five tunes: one ARRIVED, one is LOST, two are in the AIR, and the
     * last one waits. There are 8 changes, a saved state of three tunes, an output, an error, and 7 bytes of input.
     */
    static void lively(CountedPost post) {
        load(post, "roof ann 2 0 1 50;roof bob 1 0 2 50;roof cid 1 9 3 50;roof dot 8 9 0 7;"
            + "way ann bob 4;way bob cid 2;dusk 59;");
        post.send(1, 2, 12, true);
        post.send(0, 3, 5, false);
        post.tick(5);
        post.saveState();
        post.send(0, 2, 1234567, false);
        post.send(0, 1, 55555, false);
        post.give(3, 2);
        post.set(10, 3);
        post.tick(1);
        post.printRoofs();
        post.arrivesIn(3);
        post.growsBy(0, 1);
        play(post, "tick 0");
        feed(post, "wind 1;");
    }

    static int[] outside(int least, int most) {
        return new int[] {least - 1, most + 1, MIN, MAX};
    }

    /** The input stays as it is: what is appended for an answer is cut off again. */
    static int lengthOfInput(CountedPost post) {
        int longer = appendBlanks(post);
        if (longer >= 0) {
            post.truncateInput(longer - 20);
            return longer - 20;
        }
        int length = 800;
        while (!post.truncateInput(length)) {
            length--;
        }
        return length;
    }

    static int appendBlanks(CountedPost post) {
        return post.appendInput(0x20202020, 0x20202020, 0x20202020, 0x20202020, 0x20202020);
    }

    static String tenRoofs() {
        StringBuilder text = new StringBuilder();
        for (char name = 'a'; name <= 'j'; name++) {
            text.append("roof ").append(name).append(" 1 0 0 0;");
        }
        return text.toString();
    }

    /** Ways between the ten roofs: the first nine are a row, the others leave out one or two. */
    static String ways(int most) {
        StringBuilder text = new StringBuilder();
        int ways = 0;
        for (int step = 1; step < 4; step++) {
            for (char name = 'a'; name + step <= 'j' && ways < most; name++) {
                text.append("way ").append(name).append(' ').append((char) (name + step)).append(" 1;");
                ways++;
            }
        }
        return text.toString();
    }

    static int load(CountedPost post, String text) {
        feed(post, text);
        return post.loadPost();
    }

    static int play(CountedPost post, String text) {
        feed(post, text);
        return post.playScript();
    }

    static CountedPost loaded(String text) {
        CountedPost post = new CountedPost();
        if (load(post, text) < 0) {
            throw new IllegalArgumentException("error " + post.errorCode() + " at " + post.errorOffset() + " in " + text);
        }
        return post;
    }

    static String output(CountedPost post) {
        StringBuilder text = new StringBuilder();
        for (int sign = post.outputByte(0); sign != -1; sign = post.outputByte(text.length())) {
            text.append((char) sign);
        }
        return text.toString();
    }

    static String name(CountedPost post, int roof) {
        StringBuilder text = new StringBuilder();
        for (int sign = post.nameByte(roof, 0); sign != -1; sign = post.nameByte(roof, text.length())) {
            text.append((char) sign);
        }
        return text.toString();
    }
}
