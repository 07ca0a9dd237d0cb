/**
 * A post that counts its calls, for tests to keep to what is promised: of a call behind the 512th the document
 * tells nothing.
 */
final class CountedPost {
    static final int MOST_CALLS = 512;

    private final WhistlePosts post = new WhistlePosts();
    private int calls = 0;

    int callsLeft() {
        return MOST_CALLS - calls;
    }

    private WhistlePosts called() {
        calls++;
        if (calls > MOST_CALLS) {
            throw new AssertionError("a test calls one object more than " + MOST_CALLS + " times");
        }
        return post;
    }

    int appendInput(int a, int b, int c, int d, int e) {
        return called().appendInput(a, b, c, d, e);
    }

    boolean truncateInput(int length) {
        return called().truncateInput(length);
    }

    int loadPost() {
        return called().loadPost();
    }

    int playScript() {
        return called().playScript();
    }

    int errorCode() {
        return called().errorCode();
    }

    int errorOffset() {
        return called().errorOffset();
    }

    int count(int what) {
        return called().count(what);
    }

    int account(int what) {
        return called().account(what);
    }

    int nameByte(int roof, int index) {
        return called().nameByte(roof, index);
    }

    int roof(int roof, int what) {
        return called().roof(roof, what);
    }

    int way(int way, int what) {
        return called().way(way, what);
    }

    int route(int roof, int goal) {
        return called().route(roof, goal);
    }

    int next(int roof, int goal) {
        return called().next(roof, goal);
    }

    int tune(int tune, int what) {
        return called().tune(tune, what);
    }

    int note(int tune, int index, boolean heard) {
        return called().note(tune, index, heard);
    }

    int waiting(int roof, int place) {
        return called().waiting(roof, place);
    }

    int why(int tune, int depth) {
        return called().why(tune, depth);
    }

    int costOf(int roof, int goal, int notes) {
        return called().costOf(roof, goal, notes);
    }

    int wrongOn(int roof, int goal, int notes) {
        return called().wrongOn(roof, goal, notes);
    }

    int calmest(int roof, int goal) {
        return called().calmest(roof, goal);
    }

    int arrivesIn(int tune) {
        return called().arrivesIn(tune);
    }

    int growsBy(int what, int ticks) {
        return called().growsBy(what, ticks);
    }

    int dearestWay() {
        return called().dearestWay();
    }

    boolean agree() {
        return called().agree();
    }

    double meanPurse() {
        return called().meanPurse();
    }

    float rightPart() {
        return called().rightPart();
    }

    int send(int roof, int goal, int notes, boolean wants) {
        return called().send(roof, goal, notes, wants);
    }

    int tick(int ticks) {
        return called().tick(ticks);
    }

    int give(int roof, int coins) {
        return called().give(roof, coins);
    }

    int cut(int roof, int other) {
        return called().cut(roof, other);
    }

    int set(int what, int value) {
        return called().set(what, value);
    }

    int undo() {
        return called().undo();
    }

    int printRoofs() {
        return called().printRoofs();
    }

    int printTune(int tune) {
        return called().printTune(tune);
    }

    int outputByte(int index) {
        return called().outputByte(index);
    }

    int saveState() {
        return called().saveState();
    }

    int restoreState() {
        return called().restoreState();
    }
}
