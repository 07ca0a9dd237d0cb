/** Counts and prints what is not as it is due, and feeds texts to a post. */
final class Check {
    private int asDue = 0;
    private int wrong = 0;
    private String part = "";

    interface Call {
        void run();
    }

    void part(String name) {
        part = name;
    }

    void is(String what, long got, long due) {
        if (got == due) {
            asDue++;
        } else {
            complain(what + " answered " + got + ", due is " + due);
        }
    }

    void is(String what, boolean got, boolean due) {
        is(what, got ? 1 : 0, due ? 1 : 0);
    }

    void isText(String what, String got, String due) {
        if (got.equals(due)) {
            asDue++;
        } else {
            complain(what + " is \"" + got + "\", due is \"" + due + "\"");
        }
    }

    void isExactly(String what, double got, double due) {
        if (Double.compare(got, due) == 0) {
            asDue++;
        } else {
            complain(what + " answered " + got + ", due is " + due);
        }
    }

    /** The call must throw exactly this class: one below it would be the machine's own. */
    void isThrown(String what, Class<? extends RuntimeException> due, Call call) {
        isText(what + " throws", thrownBy(call), due.getSimpleName());
    }

    static String thrownBy(Call call) {
        try {
            call.run();
        } catch (RuntimeException e) {
            return e.getClass().getSimpleName();
        }
        return "nothing";
    }

    void complain(String text) {
        wrong++;
        if (wrong <= 50) {
            System.out.println(part + ": " + text);
        }
    }

    void end() {
        System.out.println(asDue + " answers as due, " + wrong + " not");
        if (wrong != 0 || asDue == 0) {
            System.exit(1);
        }
    }

    /** Puts a text behind what the input buffer holds, which is nothing in all tests that use this. */
    static void feed(WhistlePosts post, String text) {
        int length = 0;
        for (int from = 0; from < text.length(); from += 20) {
            int[] words = new int[5];
            for (int i = 0; i < 20; i++) {
                int sign = from + i < text.length() ? text.charAt(from + i) : ' ';
                words[i / 4] = words[i / 4] << 8 | sign;
            }
            length = post.appendInput(words[0], words[1], words[2], words[3], words[4]);
        }
        if (length < 0 || !post.truncateInput(text.length())) {
            throw new IllegalArgumentException("the text is too long: " + text.length());
        }
    }

    static int load(WhistlePosts post, String text) {
        feed(post, text);
        return post.loadPost();
    }

    static int play(WhistlePosts post, String text) {
        feed(post, text);
        return post.playScript();
    }

    static WhistlePosts loaded(String text) {
        WhistlePosts post = new WhistlePosts();
        if (load(post, text) < 0) {
            throw new IllegalArgumentException("error " + post.errorCode() + " at " + post.errorOffset() + " in " + text);
        }
        return post;
    }

    static String output(WhistlePosts post) {
        StringBuilder text = new StringBuilder();
        for (int i = 0; post.outputByte(i) != -1; i++) {
            text.append((char) post.outputByte(i));
        }
        return text.toString();
    }

    static String name(WhistlePosts post, int roof) {
        StringBuilder text = new StringBuilder();
        for (int i = 0; post.nameByte(roof, i) != -1; i++) {
            text.append((char) post.nameByte(roof, i));
        }
        return text.toString();
    }
}
