import java.util.EnumSet;
import java.util.NoSuchElementException;
import java.util.Set;

/**
 * Compares two posts by all that they answer. As a post bears but 512 calls, each part of the answers is asked of
 * a pair that is made for it.
 */
final class Twins {
    /** Something that is done to a new post. */
    interface Treatment {
        void on(CountedPost post);
    }

    enum Part { COUNTS, ROOFS, ROUTES, TUNES, SENT, HEARD, QUEUES, CHANGES, SAVED, OUTPUT, ERROR, INPUT }

    static final Set<Part> ALL = EnumSet.allOf(Part.class);
    /** All but what a text that is taken or refused may change. */
    static final Set<Part> BUT_TEXTS = EnumSet.range(Part.COUNTS, Part.OUTPUT);
    static final Set<Part> BUT_OUTPUT = EnumSet.complementOf(EnumSet.of(Part.OUTPUT));
    /** What saveState saves: all but the changes, the saved state itself, the output and the texts. */
    static final Set<Part> KEPT = EnumSet.range(Part.COUNTS, Part.QUEUES);

    private Twins() {
    }

    static void areAlike(Check check, String what, Set<Part> parts, Treatment one, Treatment other) {
        for (Part part : parts) {
            check.isText(what + ", " + part, told(other, part), told(one, part));
        }
    }

    private static String told(Treatment treatment, Part part) {
        CountedPost post = new CountedPost();
        treatment.on(post);
        StringBuilder text = new StringBuilder();
        switch (part) {
            case COUNTS -> counts(post, text);
            case ROOFS -> roofs(post, text);
            case ROUTES -> routes(post, text);
            case TUNES -> tunes(post, text);
            case SENT -> notes(post, text, false);
            case HEARD -> notes(post, text, true);
            case QUEUES -> queues(post, text);
            case CHANGES -> changes(post, text);
            case SAVED -> saved(post, text);
            case OUTPUT -> text.append(Check.output(post));
            case ERROR -> text.append(post.errorCode()).append(" at ").append(post.errorOffset());
            default -> input(post, text);
        }
        return text.toString();
    }

    private static void sums(CountedPost post, StringBuilder text) {
        for (int what = 0; what <= 12; what++) {
            text.append(post.count(what)).append(' ');
        }
        for (int what = 0; what <= 10; what++) {
            text.append(post.account(what)).append(' ');
        }
    }

    private static void purses(CountedPost post, StringBuilder text) {
        int roofs = post.count(0);
        for (int roof = 0; roof < roofs; roof++) {
            text.append(post.roof(roof, 3)).append(' ');
        }
    }

    private static void counts(CountedPost post, StringBuilder text) {
        sums(post, text);
        text.append(post.meanPurse()).append(' ').append(post.rightPart()).append(' ').append(post.dearestWay());
        int ways = post.count(1);
        for (int way = 0; way < ways; way++) {
            text.append(" way ").append(post.way(way, 0)).append(post.way(way, 1)).append(post.way(way, 2));
        }
    }

    private static void roofs(CountedPost post, StringBuilder text) {
        int roofs = post.count(0);
        for (int roof = 0; roof < roofs; roof++) {
            text.append(Check.name(post, roof));
            for (int what = 0; what < 8; what++) {
                text.append(' ').append(post.roof(roof, what));
            }
        }
    }

    private static void routes(CountedPost post, StringBuilder text) {
        int roofs = post.count(0);
        for (int roof = 0; roof < roofs; roof++) {
            for (int goal = 0; goal < roofs; goal++) {
                text.append(post.route(roof, goal)).append(" over ").append(post.next(roof, goal)).append(' ');
            }
        }
    }

    private static void tunes(CountedPost post, StringBuilder text) {
        int tunes = post.count(2);
        for (int tune = 0; tune < tunes; tune++) {
            for (int what = 0; what < 12; what++) {
                text.append(post.tune(tune, what)).append(' ');
            }
            text.append("| ");
        }
    }

    private static void notes(CountedPost post, StringBuilder text, boolean heard) {
        int tunes = post.count(2);
        for (int tune = 0; tune < tunes; tune++) {
            for (int index = 0; index < 8; index++) {
                text.append(post.note(tune, index, heard)).append(' ');
            }
            text.append("| ");
        }
    }

    private static void queues(CountedPost post, StringBuilder text) {
        int roofs = post.count(0);
        for (int roof = 0; roof < roofs; roof++) {
            int place = 0;
            for (int tune = post.waiting(roof, 0); tune >= 0; tune = post.waiting(roof, place)) {
                text.append(tune).append(' ');
                place++;
            }
            text.append("| ");
        }
        int tunes = post.count(2);
        for (int tune = 0; tune < tunes; tune++) {
            text.append(post.why(tune, 1)).append(' ').append(post.arrivesIn(tune)).append(' ');
        }
    }

    private static void changes(CountedPost post, StringBuilder text) {
        while (post.count(13) > 0) {
            text.append(post.undo()).append(": ");
            sums(post, text);
            purses(post, text);
        }
    }

    private static void saved(CountedPost post, StringBuilder text) {
        try {
            text.append(post.restoreState()).append(": ");
            sums(post, text);
            purses(post, text);
        } catch (NoSuchElementException e) {
            text.append("none");
        }
    }

    /** The length of the input, and which setup or error it holds. */
    private static void input(CountedPost post, StringBuilder text) {
        int length = Check.lengthOfInput(post);
        text.append(length).append(" bytes: ").append(post.loadPost()).append(" ways, error ").append(post.errorCode());
        text.append(" at ").append(post.errorOffset());
    }
}
