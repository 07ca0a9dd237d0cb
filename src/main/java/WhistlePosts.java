import java.util.NoSuchElementException;

/**
 * A whistlers' post: tunes are carried from roof to roof, garbled by wind, paid by bars, sent anew,
 * answered, and taken back. ../shared/DOC.md tells what each method promises.
 */
public final class WhistlePosts {
    public static final int NONE = -1;
    public static final int NO_ERROR = 0;
    public static final int SYNTAX = 1;
    public static final int OUT_OF_RANGE = 2;
    public static final int NAME_ERROR = 3;
    public static final int REPEATED = 4;
    public static final int TOO_MANY = 5;
    public static final int TOO_FEW = 6;

    private static final String FIRST_SETUP =
        "roof tower 4 2 1 30;roof barn 2 0 2 20;roof mill 3 5 0 9;roof inn 8 1 3 40;way tower barn 4;way barn mill 6;way tower mill 9;way mill inn 3;";

    private static final int MOST_INPUT = 800;
    private static final int MOST_OUTPUT = 400;
    private static final int LEAST_ROOFS = 2;
    private static final int MOST_ROOFS = 10;
    private static final int MOST_WAYS = 20;
    private static final int MOST_TUNES = 30;
    private static final int MOST_NOTES = 8;
    private static final int MOST_BARS = 2;
    private static final int HIGHEST_NOTE = 7;
    private static final int MOST_SENT_DIGITS = 77777777;
    private static final int MOST_STATEMENTS = 30;
    private static final int MOST_CHANGES = 8;
    private static final int MOST_TICKS = 200;
    private static final int MOST_TIME = 9999;
    private static final int MOST_PURSE = 9999;
    private static final int MOST_COINS = 99;
    private static final int MOST_WIND = 9;
    private static final int DAY = 60;

    private static final int COUNTS = 14;
    private static final int ROOF_NUMBERS = 8;
    private static final int WAY_NUMBERS = 3;
    private static final int TUNE_NUMBERS = 12;

    private static final int WIND = 8;
    private static final int DUSK = 9;
    private static final int AGAIN = 10;

    private static final int TICKS = 0;
    private static final int TUNES_SENT = 1;
    private static final int REPLIES = 2;
    private static final int TUNES_WHISTLED = 3;
    private static final int NOTES_WRONG = 4;
    private static final int TUNES_ARRIVED = 5;
    private static final int TUNES_RIGHT = 6;
    private static final int SENT_ANEW = 7;
    private static final int TUNES_LOST = 8;
    private static final int FEES = 9;
    private static final int COINS_GIVEN = 10;
    private static final int ACCOUNTS = 11;

    private final Bytes input;
    private final Bytes output;
    private final Tokens tokens;
    private final Setup setup;
    private final Script script;
    private final Post now;
    private final Post saved;
    /** Where setups are drawn up and what would come is tried, so that no call needs a post of its own. */
    private final Post spare;
    private final Past past;
    private boolean isSaved;

    public WhistlePosts() {
        input = new Bytes(MOST_INPUT);
        output = new Bytes(MOST_OUTPUT);
        now = new Post();
        saved = new Post();
        spare = new Post();
        past = new Past();
        tokens = new Tokens(input);
        setup = new Setup(tokens, spare);
        script = new Script(tokens, now);
        isSaved = false;
        input.addText(FIRST_SETUP);
        if (setup.isRead()) {
            now.copyFrom(spare);
        }
        input.clear();
    }

    public int appendInput(int a, int b, int c, int d, int e) {
        if (input.size() + 20 > MOST_INPUT) {
            return -1;
        }
        appendFour(a);
        appendFour(b);
        appendFour(c);
        appendFour(d);
        appendFour(e);
        return input.size();
    }

    private void appendFour(int bytes) {
        for (int shift = 24; shift >= 0; shift -= 8) {
            input.add((bytes >>> shift) & 255);
        }
    }

    public boolean truncateInput(int length) {
        return input.cutTo(length);
    }

    public int loadPost() {
        boolean isRead = setup.isRead();
        input.clear();
        if (!isRead) {
            return -1;
        }
        now.copyFrom(spare);
        past.forget();
        isSaved = false;
        return now.ways;
    }

    public int playScript() {
        boolean isRead = script.isRead();
        input.clear();
        if (!isRead) {
            return -1;
        }
        past.keep(now);
        int done = 0;
        while (done < script.statements && isPlayed(done)) {
            done++;
        }
        return done;
    }

    /** Does a statement of the script; false, with no change, where the method of its name would throw. */
    private boolean isPlayed(int statement) {
        int roof = script.rows.get(statement, Script.ROOF);
        int other = script.rows.get(statement, Script.OTHER);
        int number = script.rows.get(statement, Script.NUMBER);
        int word = script.rows.get(statement, Script.WORD);
        switch (word) {
            case Script.SEND:
            case Script.ASK:
                return isSent(roof, other, statement);
            case Script.TICK:
                if (!now.hasTimeFor(number)) {
                    return false;
                }
                Ticks.run(now, number);
                return true;
            case Script.GIVE:
                if (!now.hasRoomFor(roof, number)) {
                    return false;
                }
                now.takeCoins(roof, number);
                return true;
            case Script.CUT:
                return now.cutWay(roof, other);
            default:
                now.settle(word, number);
                return true;
        }
    }

    private boolean isSent(int sender, int goal, int statement) {
        if (now.tunes >= MOST_TUNES) {
            return false;
        }
        int notes = script.rows.get(statement, Script.NOTES);
        int sent = script.rows.get(statement, Script.NUMBER);
        boolean wants = script.rows.get(statement, Script.WORD) == Script.ASK;
        now.addTune(sender, goal, notes, sent, false, wants);
        return true;
    }

    public int errorCode() {
        return tokens.error;
    }

    public int errorOffset() {
        return tokens.errorAt;
    }

    public int count(int what) throws IllegalArgumentException {
        needNumber(what, 0, COUNTS - 1);
        return what == COUNTS - 1 ? past.size() : now.numberOfAll(what);
    }

    public int account(int what) throws IllegalArgumentException {
        needNumber(what, 0, ACCOUNTS - 1);
        return now.accounts.get(0, what);
    }

    public int nameByte(int roof, int index) throws IndexOutOfBoundsException {
        needRoof(roof);
        return now.letterOf(roof, index);
    }

    public int roof(int roof, int what) throws IndexOutOfBoundsException, IllegalArgumentException {
        needRoof(roof);
        needNumber(what, 0, ROOF_NUMBERS - 1);
        return now.numberOfRoof(roof, what);
    }

    public int way(int way, int what) throws IndexOutOfBoundsException, IllegalArgumentException {
        if (way < 0 || way >= now.ways) {
            throw new IndexOutOfBoundsException("no such way");
        }
        needNumber(what, 0, WAY_NUMBERS - 1);
        return now.wayRows.get(way, what);
    }

    public int route(int roof, int goal) throws IndexOutOfBoundsException {
        needRoof(roof);
        needRoof(goal);
        int sum = now.roads.sums.get(roof, goal);
        return sum < Roads.TOO_FAR ? sum : NONE;
    }

    public int next(int roof, int goal) throws IndexOutOfBoundsException {
        needRoof(roof);
        needRoof(goal);
        return now.roads.nexts.get(roof, goal);
    }

    public int tune(int tune, int what) throws IndexOutOfBoundsException, IllegalArgumentException {
        needTune(tune);
        needNumber(what, 0, TUNE_NUMBERS - 1);
        return now.numberOfTune(tune, what);
    }

    public int note(int tune, int index, boolean heard) throws IndexOutOfBoundsException {
        needTune(tune);
        if (index < 0 || index >= now.tuneRows.get(tune, Post.NOTES)) {
            return NONE;
        }
        return noteOf(now.tuneRows.get(tune, heard ? Post.HEARD : Post.SENT), index);
    }

    public int waiting(int roof, int place) throws IndexOutOfBoundsException {
        needRoof(roof);
        return now.waitingAt(roof, place);
    }

    public int why(int tune, int depth) throws IndexOutOfBoundsException, IllegalArgumentException {
        needTune(tune);
        needNumber(depth, 0, 1);
        int cause = Survey.causeOf(now, tune);
        return depth == 1 ? cause : cause / 100;
    }

    public int costOf(int roof, int goal, int notes) throws IndexOutOfBoundsException, IllegalArgumentException {
        needRoof(roof);
        needRoof(goal);
        needNumber(notes, 1, MOST_NOTES);
        return Survey.feesOn(now, roof, goal, notes);
    }

    public int wrongOn(int roof, int goal, int notes) throws IndexOutOfBoundsException, IllegalArgumentException {
        needRoof(roof);
        needRoof(goal);
        needNumber(notes, 1, MOST_NOTES);
        return Survey.wrongNotesOn(now, roof, goal, notes, now.setting(WIND));
    }

    public int calmest(int roof, int goal) throws IndexOutOfBoundsException {
        needRoof(roof);
        needRoof(goal);
        for (int wind = MOST_WIND; wind >= 0; wind--) {
            if (Survey.wrongNotesOn(now, roof, goal, MOST_NOTES, wind) == 0) {
                return wind;
            }
        }
        return NONE;
    }

    public int arrivesIn(int tune) throws IndexOutOfBoundsException {
        needTune(tune);
        spare.copyFrom(now);
        for (int ticks = 0; ticks <= MOST_TICKS; ticks++) {
            int state = spare.tuneRows.get(tune, Post.STATE);
            if (state == Post.ARRIVED) {
                return ticks;
            }
            if (state == Post.LOST) {
                return NONE;
            }
            Ticks.run(spare, 1);
        }
        return NONE;
    }

    public int growsBy(int what, int ticks) throws IllegalArgumentException {
        needNumber(what, 0, ACCOUNTS - 1);
        needNumber(ticks, 0, MOST_TICKS);
        spare.copyFrom(now);
        Ticks.run(spare, ticks);
        return spare.accounts.get(0, what) - now.accounts.get(0, what);
    }

    public int dearestWay() {
        return Survey.mostNeededWay(now);
    }

    public boolean agree() {
        spare.roads.sumByWays(now);
        return now.roads.hasSameSums(spare.roads, now.roofs)
            && Survey.areTunesRight(now)
            && Survey.areAccountsRight(now);
    }

    public double meanPurse() {
        return now.roofs > 0 ? (double) now.pursesTogether() / (double) now.roofs : 0.0;
    }

    public float rightPart() {
        int arrived = now.accounts.get(0, TUNES_ARRIVED);
        int right = now.accounts.get(0, TUNES_RIGHT);
        return arrived > 0 ? (float) right / (float) arrived : 0.0f;
    }

    public int send(int roof, int goal, int notes, boolean wants)
        throws IndexOutOfBoundsException, IllegalArgumentException, IllegalStateException {
        needRoof(roof);
        needRoof(goal);
        if (roof == goal) {
            throw new IllegalArgumentException("sender and goal are the same");
        }
        needNumber(notes, 0, MOST_SENT_DIGITS);
        if (!areDigitsNotes(notes)) {
            throw new IllegalArgumentException("a digit is no note");
        }
        if (now.tunes >= MOST_TUNES) {
            throw new IllegalStateException("there are 30 tunes");
        }
        past.keep(now);
        return now.addTune(roof, goal, digitsOf(notes), notesOfDigits(notes), false, wants);
    }

    private static boolean areDigitsNotes(int digits) {
        for (int rest = digits; rest > 0; rest /= 10) {
            if (rest % 10 > HIGHEST_NOTE) {
                return false;
            }
        }
        return true;
    }

    private static int digitsOf(int number) {
        int digits = 1;
        for (int rest = number / 10; rest > 0; rest /= 10) {
            digits++;
        }
        return digits;
    }

    /** The first digit becomes the first note, which lies lowest. */
    private static int notesOfDigits(int digits) {
        int notes = 0;
        for (int rest = digits; rest > 0; rest /= 10) {
            notes = (notes << 3) | (rest % 10);
        }
        return notes;
    }

    private static int noteOf(int notes, int index) {
        return (notes >> (3 * index)) & 7;
    }

    public int tick(int ticks) throws IllegalArgumentException, IllegalStateException {
        needNumber(ticks, 1, MOST_TICKS);
        if (!now.hasTimeFor(ticks)) {
            throw new IllegalStateException("time would be above 9999");
        }
        past.keep(now);
        int before = now.accounts.get(0, TUNES_ARRIVED);
        Ticks.run(now, ticks);
        return now.accounts.get(0, TUNES_ARRIVED) - before;
    }

    public int give(int roof, int coins)
        throws IndexOutOfBoundsException, IllegalArgumentException, IllegalStateException {
        needRoof(roof);
        needNumber(coins, 1, MOST_COINS);
        if (!now.hasRoomFor(roof, coins)) {
            throw new IllegalStateException("the purse would be above 9999");
        }
        past.keep(now);
        now.takeCoins(roof, coins);
        return now.roofRows.get(roof, Post.PURSE);
    }

    public int cut(int roof, int other) throws IndexOutOfBoundsException, IllegalStateException {
        needRoof(roof);
        needRoof(other);
        if (now.wayBetween(roof, other) == NONE) {
            throw new IllegalStateException("there is no way between the roofs");
        }
        past.keep(now);
        now.cutWay(roof, other);
        return now.ways;
    }

    public int set(int what, int value) throws IllegalArgumentException {
        needNumber(what, WIND, AGAIN);
        needNumber(value, Post.leastOf(what), Post.mostOf(what));
        past.keep(now);
        int before = now.setting(what);
        now.settle(what, value);
        return before;
    }

    public int undo() throws NoSuchElementException {
        if (past.size() == 0) {
            throw new NoSuchElementException("nothing can be undone");
        }
        past.giveBack(now);
        return past.size();
    }

    public int printRoofs() {
        output.clear();
        for (int roof = 0; roof < now.roofs; roof++) {
            if (roof > 0) {
                output.add(' ');
            }
            writeName(roof);
            output.add(':');
            output.addNumber(now.roofRows.get(roof, Post.PURSE));
            if (now.isBusy(roof, now.time)) {
                output.add('!');
            }
            int waiting = now.tunesAt(roof);
            if (waiting > 0) {
                output.add('/');
                output.addNumber(waiting);
            }
        }
        return output.size();
    }

    private void writeName(int roof) {
        for (int index = 0; index < Tokens.MOST_NAME; index++) {
            int letter = now.letterOf(roof, index);
            if (letter != NONE) {
                output.add(letter);
            }
        }
    }

    public int printTune(int tune) throws IndexOutOfBoundsException {
        needTune(tune);
        output.clear();
        int notes = now.tuneRows.get(tune, Post.NOTES);
        int sent = now.tuneRows.get(tune, Post.SENT);
        int heard = now.tuneRows.get(tune, Post.HEARD);
        for (int index = 0; index < notes; index++) {
            output.addNumber(noteOf(heard, index));
            if (noteOf(heard, index) != noteOf(sent, index)) {
                output.add('\'');
            }
        }
        output.add('>');
        writeName(now.tuneRows.get(tune, Post.GOAL));
        return output.size();
    }

    public int outputByte(int index) {
        return output.get(index);
    }

    public int saveState() {
        saved.copyFrom(now);
        isSaved = true;
        return saved.tunes;
    }

    public int restoreState() throws NoSuchElementException {
        if (!isSaved) {
            throw new NoSuchElementException("no state is saved");
        }
        now.copyFrom(saved);
        past.forget();
        return now.tunes;
    }

    private void needRoof(int roof) {
        if (roof < 0 || roof >= now.roofs) {
            throw new IndexOutOfBoundsException("no such roof");
        }
    }

    private void needTune(int tune) {
        if (tune < 0 || tune >= now.tunes) {
            throw new IndexOutOfBoundsException("no such tune");
        }
    }

    private void needNumber(int number, int least, int most) {
        if (number < least || number > most) {
            throw new IllegalArgumentException("a number is out of its range");
        }
    }

    /** Numbers in rows and columns: what lies outside reads as NONE and is not written. */
    private static final class Table {
        private static final int MOST_SIDE = 64;
        private final int rows;
        private final int columns;
        private final int[] cells;

        Table(int rows, int columns) {
            boolean fits = rows > 0 && rows <= MOST_SIDE && columns > 0 && columns <= MOST_SIDE;
            this.rows = fits ? rows : 0;
            this.columns = fits ? columns : 0;
            this.cells = fits ? new int[rows * columns] : new int[0];
        }

        int get(int row, int column) {
            if (row < 0 || row >= rows || column < 0 || column >= columns) {
                return NONE;
            }
            int place = row * columns + column;
            return place < cells.length ? cells[place] : NONE;
        }

        void put(int row, int column, int value) {
            if (row < 0 || row >= rows || column < 0 || column >= columns) {
                return;
            }
            int place = row * columns + column;
            if (place < cells.length) {
                cells[place] = value;
            }
        }

        void grow(int row, int column, int more) {
            if (row < 0 || row >= rows || column < 0 || column >= columns) {
                return;
            }
            int place = row * columns + column;
            if (place < cells.length) {
                cells[place] += more;
            }
        }

        void clearTo(int value) {
            for (int place = 0; place < cells.length; place++) {
                cells[place] = value;
            }
        }

        void copyFrom(Table other) {
            System.arraycopy(other.cells, 0, cells, 0, Math.min(cells.length, other.cells.length));
        }

        void removeRow(int row) {
            for (int behind = row + 1; behind < rows; behind++) {
                for (int column = 0; column < columns; column++) {
                    put(behind - 1, column, get(behind, column));
                }
            }
        }
    }

    /** Bytes one behind the other, up to a most. */
    private static final class Bytes {
        private final int[] cells;
        private int size;

        Bytes(int most) {
            this.cells = new int[most > 0 && most <= MOST_INPUT ? most : 0];
            this.size = 0;
        }

        int size() {
            return size;
        }

        int get(int index) {
            return index >= 0 && index < size && index < cells.length ? cells[index] : NONE;
        }

        void add(int value) {
            if (size >= 0 && size < cells.length) {
                cells[size] = value;
                size++;
            }
        }

        void addText(String text) {
            for (int index = 0; index < text.length(); index++) {
                add(text.charAt(index));
            }
        }

        void addNumber(int number) {
            int unit = 1;
            while (unit <= number / 10 && unit < 100000000) {
                unit *= 10;
            }
            for (; unit > 0; unit /= 10) {
                add('0' + number / unit % 10);
            }
        }

        boolean cutTo(int length) {
            if (length < 0 || length > size) {
                return false;
            }
            size = length;
            return true;
        }

        void clear() {
            size = 0;
        }
    }

    /** The posts before the latest changes, the oldest of which gives way to a further one. */
    private static final class Past {
        private final Post[] posts;
        private int first;
        private int kept;

        Past() {
            posts = new Post[MOST_CHANGES];
            for (int place = 0; place < posts.length; place++) {
                posts[place] = new Post();
            }
            first = 0;
            kept = 0;
        }

        int size() {
            return kept;
        }

        void forget() {
            kept = 0;
        }

        private Post postAt(int place) {
            int index = (first + place) % MOST_CHANGES;
            return index >= 0 && index < posts.length ? posts[index] : null;
        }

        void keep(Post now) {
            if (kept >= MOST_CHANGES) {
                first = (first + 1) % MOST_CHANGES;
                kept = MOST_CHANGES - 1;
            }
            Post free = postAt(kept);
            if (free != null) {
                free.copyFrom(now);
                kept++;
            }
        }

        void giveBack(Post now) {
            Post latest = postAt(kept - 1);
            if (kept > 0 && latest != null) {
                now.copyFrom(latest);
                kept--;
            }
        }
    }

    /** All that a change may change. */
    private static final class Post {
        // The columns stand where roof(), way() and tune() count them; what those work out leaves a
        // column free, which holds a number of the post's own.
        static final int BREATH = 0;
        static final int EAR = 1;
        static final int FEE = 2;
        static final int PURSE = 3;
        static final int BUSY_UNTIL = 4;
        static final int NAME = 5;
        static final int PURSE_LOADED = 6;
        static final int WHISTLED = 7;
        static final int ROOF_COLUMNS = 8;

        static final int ONE_END = 0;
        static final int OTHER_END = 1;
        static final int FAR = 2;

        static final int SENDER = 0;
        static final int GOAL = 1;
        static final int NOTES = 2;
        static final int STATE = 3;
        static final int AT = 4;
        static final int END = 5;
        static final int REPLY = 6;
        static final int WANTS = 7;
        static final int TRIES = 8;
        static final int SENT = 9;
        static final int HEARD = 10;
        static final int HOPS = 11;
        static final int FAR_IN_AIR = 12;
        static final int TUNE_COLUMNS = 13;

        static final int WAITS = 0;
        static final int IN_AIR = 1;
        static final int ARRIVED = 2;
        static final int LOST = 3;

        int time;
        int roofs;
        int ways;
        int tunes;
        final Table roofRows;
        final Table wayRows;
        final Table tuneRows;
        final Table settings;
        final Table accounts;
        final Roads roads;

        Post() {
            roofRows = new Table(MOST_ROOFS, ROOF_COLUMNS);
            wayRows = new Table(MOST_WAYS, WAY_NUMBERS);
            tuneRows = new Table(MOST_TUNES, TUNE_COLUMNS);
            settings = new Table(1, AGAIN - WIND + 1);
            accounts = new Table(1, ACCOUNTS);
            roads = new Roads();
        }

        void clear() {
            time = 0;
            roofs = 0;
            ways = 0;
            tunes = 0;
            settle(WIND, 3);
            settle(DUSK, 50);
            settle(AGAIN, 1);
            accounts.clearTo(0);
        }

        void copyFrom(Post other) {
            time = other.time;
            roofs = other.roofs;
            ways = other.ways;
            tunes = other.tunes;
            roofRows.copyFrom(other.roofRows);
            wayRows.copyFrom(other.wayRows);
            tuneRows.copyFrom(other.tuneRows);
            settings.copyFrom(other.settings);
            accounts.copyFrom(other.accounts);
            roads.copyFrom(other.roads);
        }

        static int leastOf(int setting) {
            return setting == DUSK ? 1 : 0;
        }

        static int mostOf(int setting) {
            if (setting == WIND) {
                return MOST_WIND;
            }
            return setting == DUSK ? DAY : 3;
        }

        int setting(int what) {
            return settings.get(0, what - WIND);
        }

        void settle(int what, int value) {
            settings.put(0, what - WIND, value);
        }

        void enter(int account, int more) {
            accounts.grow(0, account, more);
        }

        void addRoof(int name, int breath, int ear, int fee, int purse) {
            int roof = roofs;
            roofRows.put(roof, NAME, name);
            roofRows.put(roof, BREATH, breath);
            roofRows.put(roof, EAR, ear);
            roofRows.put(roof, FEE, fee);
            roofRows.put(roof, PURSE, purse);
            roofRows.put(roof, PURSE_LOADED, purse);
            roofRows.put(roof, BUSY_UNTIL, 0);
            roofRows.put(roof, WHISTLED, 0);
            roofs++;
        }

        void addWay(int one, int other, int far) {
            wayRows.put(ways, ONE_END, one);
            wayRows.put(ways, OTHER_END, other);
            wayRows.put(ways, FAR, far);
            ways++;
        }

        int addTune(int sender, int goal, int notes, int sent, boolean isReply, boolean wants) {
            int tune = tunes;
            tuneRows.put(tune, SENDER, sender);
            tuneRows.put(tune, GOAL, goal);
            tuneRows.put(tune, NOTES, notes);
            tuneRows.put(tune, STATE, WAITS);
            tuneRows.put(tune, AT, sender);
            tuneRows.put(tune, END, NONE);
            tuneRows.put(tune, REPLY, isReply ? 1 : 0);
            tuneRows.put(tune, WANTS, wants ? 1 : 0);
            tuneRows.put(tune, TRIES, 0);
            tuneRows.put(tune, SENT, sent);
            tuneRows.put(tune, HEARD, sent);
            tuneRows.put(tune, HOPS, 0);
            tuneRows.put(tune, FAR_IN_AIR, 0);
            tunes++;
            enter(TUNES_SENT, 1);
            return tune;
        }

        boolean hasTimeFor(int ticks) {
            return time + ticks <= MOST_TIME;
        }

        boolean hasRoomFor(int roof, int coins) {
            return roofRows.get(roof, PURSE) + coins <= MOST_PURSE;
        }

        void takeCoins(int roof, int coins) {
            roofRows.grow(roof, PURSE, coins);
            enter(COINS_GIVEN, coins);
        }

        /** Cuts the way between two roofs; false, with no change, if there is none. */
        boolean cutWay(int roof, int other) {
            int way = wayBetween(roof, other);
            if (way == NONE) {
                return false;
            }
            wayRows.removeRow(way);
            ways--;
            roads.lay(this);
            return true;
        }

        int roofNamed(int name) {
            for (int roof = 0; roof < roofs; roof++) {
                if (roofRows.get(roof, NAME) == name) {
                    return roof;
                }
            }
            return NONE;
        }

        int letterOf(int roof, int index) {
            if (index < 0 || index >= Tokens.MOST_NAME) {
                return NONE;
            }
            int letter = (roofRows.get(roof, NAME) >> (Tokens.LETTER_BITS * index)) & Tokens.LETTER;
            return letter == 0 ? NONE : 'a' - 1 + letter;
        }

        /** The roof at the way's other end; NONE if the way does not end at this roof. */
        int acrossFrom(int roof, int way) {
            int one = wayRows.get(way, ONE_END);
            int other = wayRows.get(way, OTHER_END);
            if (one == roof) {
                return other;
            }
            return other == roof ? one : NONE;
        }

        int wayBetween(int roof, int other) {
            for (int way = 0; way < ways; way++) {
                if (acrossFrom(roof, way) == other) {
                    return way;
                }
            }
            return NONE;
        }

        int numberOfAll(int what) {
            switch (what) {
                case 0:
                    return roofs;
                case 1:
                    return ways;
                case 2:
                    return tunes;
                case 3:
                case 4:
                case 5:
                case 6:
                    return tunesIn(what - 3);
                case 7:
                    return time;
                case 11:
                    return busyWhistlers();
                case 12:
                    return pursesTogether();
                default:
                    return setting(what);
            }
        }

        int tunesIn(int state) {
            int found = 0;
            for (int tune = 0; tune < tunes; tune++) {
                if (tuneRows.get(tune, STATE) == state) {
                    found++;
                }
            }
            return found;
        }

        int busyWhistlers() {
            int found = 0;
            for (int roof = 0; roof < roofs; roof++) {
                if (isBusy(roof, time)) {
                    found++;
                }
            }
            return found;
        }

        boolean isBusy(int roof, int when) {
            return roofRows.get(roof, BUSY_UNTIL) > when;
        }

        int pursesTogether() {
            int sum = 0;
            for (int roof = 0; roof < roofs; roof++) {
                sum += roofRows.get(roof, PURSE);
            }
            return sum;
        }

        int numberOfRoof(int roof, int what) {
            switch (what) {
                case 4:
                    return Math.max(0, roofRows.get(roof, BUSY_UNTIL) - time);
                case 5:
                    return tunesAt(roof);
                case 6:
                    return waysAt(roof);
                default:
                    return roofRows.get(roof, what);
            }
        }

        int tunesAt(int roof) {
            int found = 0;
            for (int tune = 0; tune < tunes; tune++) {
                if (isWaitingAt(tune, roof)) {
                    found++;
                }
            }
            return found;
        }

        int waysAt(int roof) {
            int found = 0;
            for (int way = 0; way < ways; way++) {
                if (acrossFrom(roof, way) != NONE) {
                    found++;
                }
            }
            return found;
        }

        boolean isWaitingAt(int tune, int roof) {
            return tuneRows.get(tune, STATE) == WAITS && tuneRows.get(tune, AT) == roof;
        }

        int waitingAt(int roof, int place) {
            int before = 0;
            for (int bars = MOST_BARS; bars > 0; bars--) {
                for (int tune = 0; tune < tunes; tune++) {
                    if (isWaitingAt(tune, roof) && barsOfTune(tune) == bars) {
                        if (before == place) {
                            return tune;
                        }
                        before++;
                    }
                }
            }
            return NONE;
        }

        int numberOfTune(int tune, int what) {
            switch (what) {
                case 9:
                    return barsOfTune(tune);
                case 10:
                    return notesUnlikeSent(tune);
                default:
                    return tuneRows.get(tune, what);
            }
        }

        static int barsOf(int notes) {
            return (notes + 3) / 4;
        }

        int barsOfTune(int tune) {
            return barsOf(tuneRows.get(tune, NOTES));
        }

        int notesUnlikeSent(int tune) {
            int found = 0;
            int sent = tuneRows.get(tune, SENT);
            int heard = tuneRows.get(tune, HEARD);
            for (int index = 0; index < MOST_NOTES; index++) {
                if (noteOf(sent, index) != noteOf(heard, index)) {
                    found++;
                }
            }
            return found;
        }

        int nextOf(int tune) {
            return roads.nexts.get(tuneRows.get(tune, AT), tuneRows.get(tune, GOAL));
        }

        /** The coins that the sender's purse lacks for the fee where the tune waits; 0 or less if it has them. */
        int lackOf(int tune) {
            int fee = roofRows.get(tuneRows.get(tune, AT), FEE) * barsOf(tuneRows.get(tune, NOTES));
            return fee - roofRows.get(tuneRows.get(tune, SENDER), PURSE);
        }

        /** The tune that a whistler at leisure would whistle; NONE if there is none that can be. */
        int firstToGoFrom(int roof) {
            int first = NONE;
            for (int tune = 0; tune < tunes; tune++) {
                if (isWaitingAt(tune, roof) && nextOf(tune) != NONE && lackOf(tune) <= 0
                    && (first == NONE || barsOfTune(tune) > barsOfTune(first))) {
                    first = tune;
                }
            }
            return first;
        }

        int wrongOf(int far, int roof, int notes, int wind) {
            int gust = Math.max(0, wind * far - 3 * roofRows.get(roof, EAR));
            return Math.min(gust / 10, notes);
        }
    }

    /** Between all roofs: the fars of the ways, the least sums of fars, and the roofs by which such routes begin. */
    private static final class Roads {
        static final int TOO_FAR = 9999;
        final Table fars;
        final Table sums;
        final Table nexts;

        Roads() {
            fars = new Table(MOST_ROOFS, MOST_ROOFS);
            sums = new Table(MOST_ROOFS, MOST_ROOFS);
            nexts = new Table(MOST_ROOFS, MOST_ROOFS);
        }

        void copyFrom(Roads other) {
            fars.copyFrom(other.fars);
            sums.copyFrom(other.sums);
            nexts.copyFrom(other.nexts);
        }

        void lay(Post post) {
            layNone(post);
            for (int way = 0; way < post.ways; way++) {
                layWay(post.wayRows.get(way, Post.ONE_END), post.wayRows.get(way, Post.OTHER_END),
                    post.wayRows.get(way, Post.FAR));
            }
            for (int over = 0; over < post.roofs; over++) {
                for (int from = 0; from < post.roofs; from++) {
                    for (int to = 0; to < post.roofs; to++) {
                        shorten(from, to, sums.get(from, over) + sums.get(over, to));
                    }
                }
            }
            pointAll(post);
        }

        /** Works the sums alone out another way, for agree() to compare. */
        void sumByWays(Post post) {
            layNone(post);
            for (int round = 1; round < post.roofs; round++) {
                for (int way = 0; way < post.ways; way++) {
                    int one = post.wayRows.get(way, Post.ONE_END);
                    int other = post.wayRows.get(way, Post.OTHER_END);
                    int far = post.wayRows.get(way, Post.FAR);
                    for (int from = 0; from < post.roofs; from++) {
                        shorten(from, one, sums.get(from, other) + far);
                        shorten(from, other, sums.get(from, one) + far);
                    }
                }
            }
        }

        private void layNone(Post post) {
            fars.clearTo(NONE);
            sums.clearTo(TOO_FAR);
            nexts.clearTo(NONE);
            for (int roof = 0; roof < post.roofs; roof++) {
                sums.put(roof, roof, 0);
            }
        }

        private void layWay(int one, int other, int far) {
            fars.put(one, other, far);
            fars.put(other, one, far);
            sums.put(one, other, far);
            sums.put(other, one, far);
        }

        private void shorten(int from, int to, int sum) {
            if (sum < sums.get(from, to)) {
                sums.put(from, to, sum);
            }
        }

        private void pointAll(Post post) {
            for (int from = 0; from < post.roofs; from++) {
                for (int to = 0; to < post.roofs; to++) {
                    if (from != to && sums.get(from, to) < TOO_FAR) {
                        nexts.put(from, to, beginOf(from, to));
                    }
                }
            }
        }

        private int beginOf(int from, int to) {
            for (int begin = 0; begin < MOST_ROOFS; begin++) {
                int far = fars.get(from, begin);
                if (far != NONE && far + sums.get(begin, to) == sums.get(from, to)) {
                    return begin;
                }
            }
            return NONE;
        }

        boolean hasSameSums(Roads other, int roofs) {
            for (int from = 0; from < roofs; from++) {
                for (int to = 0; to < roofs; to++) {
                    if (sums.get(from, to) != other.sums.get(from, to)) {
                        return false;
                    }
                }
            }
            return true;
        }
    }

    /** What is done to a post as ticks go by. */
    private static final class Ticks {
        static void run(Post post, int ticks) {
            for (int tick = 0; tick < ticks; tick++) {
                post.time++;
                post.enter(TICKS, 1);
                landAll(post);
                if (post.time % DAY < post.setting(DUSK)) {
                    whistleAll(post);
                }
                loseAll(post);
            }
        }

        private static void landAll(Post post) {
            // Replies that come in between only wait: the tunes there were are enough.
            int tunes = post.tunes;
            for (int tune = 0; tune < tunes; tune++) {
                if (post.tuneRows.get(tune, Post.STATE) == Post.IN_AIR
                    && post.tuneRows.get(tune, Post.END) == post.time) {
                    land(post, tune);
                    if (post.tuneRows.get(tune, Post.AT) == post.tuneRows.get(tune, Post.GOAL)) {
                        reachGoal(post, tune);
                    }
                }
            }
        }

        private static void land(Post post, int tune) {
            int notes = post.tuneRows.get(tune, Post.NOTES);
            int wrong = post.wrongOf(post.tuneRows.get(tune, Post.FAR_IN_AIR),
                post.tuneRows.get(tune, Post.AT), notes, post.setting(WIND));
            int heard = post.tuneRows.get(tune, Post.HEARD);
            for (int nth = 0; nth < wrong && notes > 0; nth++) {
                heard = raised(heard, (tune + nth) % notes);
            }
            post.tuneRows.put(tune, Post.HEARD, heard);
            post.tuneRows.put(tune, Post.STATE, Post.WAITS);
            post.tuneRows.put(tune, Post.END, NONE);
            post.enter(NOTES_WRONG, wrong);
        }

        private static int raised(int notes, int index) {
            int shift = 3 * index;
            int note = (noteOf(notes, index) + 1) & 7;
            return (notes & ~(7 << shift)) | (note << shift);
        }

        private static void reachGoal(Post post, int tune) {
            int sent = post.tuneRows.get(tune, Post.SENT);
            boolean isRight = post.tuneRows.get(tune, Post.HEARD) == sent;
            if (!isRight && post.tuneRows.get(tune, Post.TRIES) < post.setting(AGAIN)) {
                post.tuneRows.grow(tune, Post.TRIES, 1);
                post.tuneRows.put(tune, Post.HEARD, sent);
                post.tuneRows.put(tune, Post.AT, post.tuneRows.get(tune, Post.SENDER));
                post.enter(SENT_ANEW, 1);
                return;
            }
            post.tuneRows.put(tune, Post.STATE, Post.ARRIVED);
            post.enter(TUNES_ARRIVED, 1);
            if (!isRight) {
                return;
            }
            post.enter(TUNES_RIGHT, 1);
            if (post.tuneRows.get(tune, Post.WANTS) == 1 && post.tunes < MOST_TUNES) {
                int notes = post.tuneRows.get(tune, Post.NOTES);
                post.addTune(post.tuneRows.get(tune, Post.GOAL), post.tuneRows.get(tune, Post.SENDER),
                    notes, turned(sent, notes), true, false);
                post.enter(REPLIES, 1);
            }
        }

        private static int turned(int notes, int size) {
            int turned = 0;
            for (int index = 0; index < size; index++) {
                turned = (turned << 3) | noteOf(notes, index);
            }
            return turned;
        }

        private static void whistleAll(Post post) {
            int crowded = roofsWithTunes(post);
            for (int roof = 0; roof < post.roofs; roof++) {
                if (((crowded >> roof) & 1) == 1 && !post.isBusy(roof, post.time)) {
                    int tune = post.firstToGoFrom(roof);
                    if (tune != NONE) {
                        whistle(post, roof, tune);
                    }
                }
            }
        }

        /** A bit for each roof at which a tune waits, so that the others need no look at all tunes. */
        private static int roofsWithTunes(Post post) {
            int crowded = 0;
            for (int tune = 0; tune < post.tunes; tune++) {
                if (post.tuneRows.get(tune, Post.STATE) == Post.WAITS) {
                    crowded |= 1 << post.tuneRows.get(tune, Post.AT);
                }
            }
            return crowded;
        }

        private static void whistle(Post post, int roof, int tune) {
            int fee = post.roofRows.get(roof, Post.FEE) * post.barsOfTune(tune);
            post.roofRows.grow(post.tuneRows.get(tune, Post.SENDER), Post.PURSE, -fee);
            post.roofRows.grow(roof, Post.PURSE, fee);
            post.enter(FEES, fee);
            int to = post.nextOf(tune);
            int far = post.roads.fars.get(roof, to);
            int until = post.time + breathsFor(post, roof, tune);
            post.roofRows.put(roof, Post.BUSY_UNTIL, until);
            post.roofRows.grow(roof, Post.WHISTLED, 1);
            post.tuneRows.put(tune, Post.STATE, Post.IN_AIR);
            post.tuneRows.put(tune, Post.AT, to);
            post.tuneRows.put(tune, Post.END, until + far);
            post.tuneRows.put(tune, Post.FAR_IN_AIR, far);
            post.tuneRows.grow(tune, Post.HOPS, 1);
            post.enter(TUNES_WHISTLED, 1);
        }

        private static int breathsFor(Post post, int roof, int tune) {
            int breath = Math.max(1, post.roofRows.get(roof, Post.BREATH));
            return (post.tuneRows.get(tune, Post.NOTES) + breath - 1) / breath;
        }

        private static void loseAll(Post post) {
            for (int tune = 0; tune < post.tunes; tune++) {
                if (post.tuneRows.get(tune, Post.STATE) == Post.WAITS && post.nextOf(tune) == NONE) {
                    post.tuneRows.put(tune, Post.STATE, Post.LOST);
                    post.enter(TUNES_LOST, 1);
                }
            }
        }
    }

    /** What is worked out from a post as it is. */
    private static final class Survey {
        /** Why a tune would not be whistled: its cause, whose hundreds are the reason; 0 if it would. */
        static int causeOf(Post post, int tune) {
            int state = post.tuneRows.get(tune, Post.STATE);
            int roof = post.tuneRows.get(tune, Post.AT);
            int when = post.time + 1;
            if (state != Post.WAITS) {
                return 100 + state;
            }
            if (post.nextOf(tune) == NONE) {
                return 200 + post.tuneRows.get(tune, Post.GOAL);
            }
            if (when % DAY >= post.setting(DUSK)) {
                return 300 + when % DAY;
            }
            if (post.isBusy(roof, when)) {
                return 400 + post.roofRows.get(roof, Post.BUSY_UNTIL) - when;
            }
            if (post.lackOf(tune) > 0) {
                return 500 + post.lackOf(tune);
            }
            int first = post.firstToGoFrom(roof);
            return first == tune ? 0 : 600 + first;
        }

        static int feesOn(Post post, int roof, int goal, int notes) {
            int fees = 0;
            int at = roof;
            for (int hop = 0; hop < MOST_ROOFS && at != goal; hop++) {
                int to = post.roads.nexts.get(at, goal);
                if (to == NONE) {
                    return NONE;
                }
                fees += Post.barsOf(notes) * post.roofRows.get(at, Post.FEE);
                at = to;
            }
            return fees;
        }

        static int wrongNotesOn(Post post, int roof, int goal, int notes, int wind) {
            int wrong = 0;
            int at = roof;
            for (int hop = 0; hop < MOST_ROOFS && at != goal; hop++) {
                int to = post.roads.nexts.get(at, goal);
                if (to == NONE) {
                    return NONE;
                }
                wrong += post.wrongOf(post.roads.fars.get(at, to), to, notes, wind);
                at = to;
            }
            return wrong;
        }

        static int mostNeededWay(Post post) {
            int needed = NONE;
            int most = NONE;
            for (int way = 0; way < post.ways; way++) {
                int pairs = pairsApartWithout(post, way);
                if (pairs > most) {
                    most = pairs;
                    needed = way;
                }
            }
            return needed;
        }

        private static int pairsApartWithout(Post post, int way) {
            int pairs = 0;
            int left = (1 << post.roofs) - 1;
            for (int roof = 0; roof < post.roofs; roof++) {
                if (((left >> roof) & 1) == 1) {
                    int part = partOf(post, roof, way);
                    left &= ~part;
                    pairs += Integer.bitCount(part) * Integer.bitCount(left);
                }
            }
            return pairs;
        }

        /** A bit for each roof to which there is a route without the way. */
        private static int partOf(Post post, int roof, int without) {
            int part = 1 << roof;
            for (int round = 1; round < post.roofs; round++) {
                int before = part;
                for (int way = 0; way < post.ways; way++) {
                    int ends = (1 << post.wayRows.get(way, Post.ONE_END))
                        | (1 << post.wayRows.get(way, Post.OTHER_END));
                    if (way != without && (part & ends) != 0) {
                        part |= ends;
                    }
                }
                if (part == before) {
                    return part;
                }
            }
            return part;
        }

        static boolean areTunesRight(Post post) {
            for (int tune = 0; tune < post.tunes; tune++) {
                int state = post.tuneRows.get(tune, Post.STATE);
                int at = post.tuneRows.get(tune, Post.AT);
                if (state < Post.WAITS || state > Post.LOST || at < 0 || at >= post.roofs) {
                    return false;
                }
                if (state == Post.ARRIVED && at != post.tuneRows.get(tune, Post.GOAL)) {
                    return false;
                }
            }
            return true;
        }

        static boolean areAccountsRight(Post post) {
            int loaded = 0;
            for (int roof = 0; roof < post.roofs; roof++) {
                loaded += post.roofRows.get(roof, Post.PURSE_LOADED);
            }
            int hops = 0;
            for (int tune = 0; tune < post.tunes; tune++) {
                hops += post.tuneRows.get(tune, Post.HOPS);
            }
            return post.accounts.get(0, TUNES_SENT) == post.tunes
                && post.accounts.get(0, TUNES_ARRIVED) == post.tunesIn(Post.ARRIVED)
                && post.accounts.get(0, TUNES_LOST) == post.tunesIn(Post.LOST)
                && post.pursesTogether() == loaded + post.accounts.get(0, COINS_GIVEN)
                && post.accounts.get(0, TUNES_WHISTLED) == hops
                && post.accounts.get(0, TUNES_RIGHT) <= post.accounts.get(0, TUNES_ARRIVED);
        }
    }

    /** The tokens of a text, one at a time, and the first error met. */
    private static final class Tokens {
        static final int MOST_NAME = 6;
        static final int LETTER_BITS = 5;
        static final int LETTER = 31;

        static final int TEXT_END = 0;
        static final int WORD = 1;
        static final int NUMBER = 2;
        static final int SEMICOLON = 3;
        /** A token that is too long or a byte of none: wherever it stands, it is a wrong one. */
        static final int STRAY = 4;

        private static final int BLANK = 5;
        private static final int MOST_LETTERS = 8;
        private static final int MOST_DIGITS = 3;

        private final Bytes text;
        private int start;
        private int behind;
        int kind;
        int number;
        int error;
        int errorAt;

        Tokens(Bytes text) {
            this.text = text;
            this.error = NO_ERROR;
            this.errorAt = NONE;
        }

        void open() {
            error = NO_ERROR;
            errorAt = NONE;
            behind = 0;
            step();
        }

        boolean fail(int code) {
            error = code;
            errorAt = start;
            return false;
        }

        private static int kindOf(int sign) {
            if (sign >= 'a' && sign <= 'z') {
                return WORD;
            }
            if (sign >= '0' && sign <= '9') {
                return NUMBER;
            }
            switch (sign) {
                case ';':
                    return SEMICOLON;
                case ' ':
                case '\n':
                    return BLANK;
                case NONE:
                    return TEXT_END;
                default:
                    return STRAY;
            }
        }

        void step() {
            start = behind;
            while (start < text.size() && kindOf(text.get(start)) == BLANK) {
                start++;
            }
            kind = kindOf(text.get(start));
            behind = kind == TEXT_END ? start : start + 1;
            boolean isRun = kind == WORD || kind == NUMBER;
            while (isRun && behind < text.size() && kindOf(text.get(behind)) == kind) {
                behind++;
            }
            if (isRun && behind - start > (kind == WORD ? MOST_LETTERS : MOST_DIGITS)) {
                kind = STRAY;
            }
            number = 0;
            for (int index = start; index < behind && kind == NUMBER; index++) {
                number = number * 10 + text.get(index) - '0';
            }
        }

        boolean isWord(String word) {
            if (kind != WORD || behind - start != word.length()) {
                return false;
            }
            for (int index = 0; index < word.length(); index++) {
                if (text.get(start + index) != word.charAt(index)) {
                    return false;
                }
            }
            return true;
        }

        int settingWord() {
            if (isWord("wind")) {
                return WIND;
            }
            if (isWord("dusk")) {
                return DUSK;
            }
            return isWord("again") ? AGAIN : NONE;
        }

        /** The letters of the name here in one number, the first one lowest; NONE if here is no name. */
        int nameHere() {
            if (kind != WORD || behind - start > MOST_NAME) {
                fail(SYNTAX);
                return NONE;
            }
            int name = 0;
            for (int index = behind - 1; index >= start; index--) {
                name = (name << LETTER_BITS) | (text.get(index) - 'a' + 1);
            }
            return name;
        }

        /** The roof whose name is here, which must be unlike another one; NONE if there is an error. */
        int roofHere(Post post, int unlike) {
            int name = nameHere();
            if (name == NONE) {
                return NONE;
            }
            int roof = post.roofNamed(name);
            if (roof == NONE || roof == unlike) {
                fail(NAME_ERROR);
                return NONE;
            }
            return roof;
        }

        boolean isNumberHere(int least, int most) {
            if (kind != NUMBER) {
                return fail(SYNTAX);
            }
            return number >= least && number <= most || fail(OUT_OF_RANGE);
        }

        int takeNumber(int least, int most) {
            if (!isNumberHere(least, most)) {
                return NONE;
            }
            int taken = number;
            step();
            return taken;
        }

        boolean isSemicolonTaken() {
            if (kind != SEMICOLON) {
                return fail(SYNTAX);
            }
            step();
            return true;
        }
    }

    /** Reads setups. */
    private static final class Setup {
        private final Tokens tokens;
        private final Post draft;

        Setup(Tokens tokens, Post draft) {
            this.tokens = tokens;
            this.draft = draft;
        }

        /** Reads the whole text into the draft; false if the text has an error. */
        boolean isRead() {
            draft.clear();
            tokens.open();
            for (int statement = 0; statement < MOST_INPUT && tokens.kind != Tokens.TEXT_END; statement++) {
                if (!isStatementRead()) {
                    return false;
                }
            }
            if (draft.roofs < LEAST_ROOFS) {
                return tokens.fail(TOO_FEW);
            }
            draft.roads.lay(draft);
            return true;
        }

        private boolean isStatementRead() {
            if (tokens.isWord("roof")) {
                return isRoofRead();
            }
            if (tokens.isWord("way")) {
                return isWayRead();
            }
            int setting = tokens.settingWord();
            return setting == NONE ? tokens.fail(SYNTAX) : isSettingRead(setting);
        }

        private boolean isRoofRead() {
            if (draft.roofs >= MOST_ROOFS) {
                return tokens.fail(TOO_MANY);
            }
            tokens.step();
            int name = tokens.nameHere();
            if (name == NONE) {
                return false;
            }
            if (draft.roofNamed(name) != NONE) {
                return tokens.fail(NAME_ERROR);
            }
            tokens.step();
            int breath = tokens.takeNumber(1, 8);
            int ear = breath == NONE ? NONE : tokens.takeNumber(0, 9);
            int fee = ear == NONE ? NONE : tokens.takeNumber(0, 9);
            int purse = fee == NONE ? NONE : tokens.takeNumber(0, 999);
            if (purse == NONE || !tokens.isSemicolonTaken()) {
                return false;
            }
            draft.addRoof(name, breath, ear, fee, purse);
            return true;
        }

        private boolean isWayRead() {
            if (draft.ways >= MOST_WAYS) {
                return tokens.fail(TOO_MANY);
            }
            tokens.step();
            int one = tokens.roofHere(draft, NONE);
            if (one == NONE) {
                return false;
            }
            tokens.step();
            int other = tokens.roofHere(draft, one);
            if (other == NONE) {
                return false;
            }
            if (draft.wayBetween(one, other) != NONE) {
                return tokens.fail(REPEATED);
            }
            tokens.step();
            int far = tokens.takeNumber(1, 9);
            if (far == NONE || !tokens.isSemicolonTaken()) {
                return false;
            }
            draft.addWay(one, other, far);
            return true;
        }

        private boolean isSettingRead(int setting) {
            tokens.step();
            int value = tokens.takeNumber(Post.leastOf(setting), Post.mostOf(setting));
            if (value == NONE || !tokens.isSemicolonTaken()) {
                return false;
            }
            draft.settle(setting, value);
            return true;
        }
    }

    /** Reads scripts, whose statements are kept in rows until they are played. */
    private static final class Script {
        static final int WORD = 0;
        static final int ROOF = 1;
        static final int OTHER = 2;
        static final int NUMBER = 3;
        static final int NOTES = 4;
        static final int COLUMNS = 5;

        // Settings are their own words: WIND, DUSK and AGAIN are none of these.
        static final int SEND = 0;
        static final int ASK = 1;
        static final int TICK = 2;
        static final int GIVE = 3;
        static final int CUT = 4;

        private final Tokens tokens;
        private final Post post;
        final Table rows;
        int statements;

        Script(Tokens tokens, Post post) {
            this.tokens = tokens;
            this.post = post;
            this.rows = new Table(MOST_STATEMENTS, COLUMNS);
            this.statements = 0;
        }

        /** Reads the whole text into the rows; false if the text has an error. */
        boolean isRead() {
            statements = 0;
            tokens.open();
            for (int statement = 0; statement < MOST_INPUT && tokens.kind != Tokens.TEXT_END; statement++) {
                if (!isStatementRead(wordHere())) {
                    return false;
                }
                statements++;
            }
            return true;
        }

        private boolean isStatementRead(int word) {
            if (word == NONE) {
                return tokens.fail(SYNTAX);
            }
            if (statements >= MOST_STATEMENTS) {
                return tokens.fail(TOO_MANY);
            }
            rows.put(statements, WORD, word);
            tokens.step();
            boolean isRead;
            switch (word) {
                case SEND:
                case ASK:
                    isRead = isRoofRead(ROOF, NONE) && isRoofRead(OTHER, rows.get(statements, ROOF)) && areNotesRead();
                    break;
                case TICK:
                    isRead = isNumberRead(1, MOST_TICKS);
                    break;
                case GIVE:
                    isRead = isRoofRead(ROOF, NONE) && isNumberRead(1, MOST_COINS);
                    break;
                case CUT:
                    isRead = isRoofRead(ROOF, NONE) && isRoofRead(OTHER, rows.get(statements, ROOF));
                    break;
                default:
                    isRead = isNumberRead(Post.leastOf(word), Post.mostOf(word));
                    break;
            }
            return isRead && tokens.isSemicolonTaken();
        }

        private int wordHere() {
            if (tokens.isWord("send")) {
                return SEND;
            }
            if (tokens.isWord("ask")) {
                return ASK;
            }
            if (tokens.isWord("tick")) {
                return TICK;
            }
            if (tokens.isWord("give")) {
                return GIVE;
            }
            return tokens.isWord("cut") ? CUT : tokens.settingWord();
        }

        private boolean isRoofRead(int column, int unlike) {
            int roof = tokens.roofHere(post, unlike);
            if (roof == NONE) {
                return false;
            }
            rows.put(statements, column, roof);
            tokens.step();
            return true;
        }

        private boolean isNumberRead(int least, int most) {
            int number = tokens.takeNumber(least, most);
            rows.put(statements, NUMBER, number);
            return number != NONE;
        }

        private boolean areNotesRead() {
            int notes = 0;
            int packed = 0;
            do {
                if (!tokens.isNumberHere(0, HIGHEST_NOTE)) {
                    return false;
                }
                if (notes == MOST_NOTES) {
                    return tokens.fail(TOO_MANY);
                }
                packed |= tokens.number << (3 * notes);
                notes++;
                tokens.step();
            } while (notes <= MOST_NOTES && tokens.kind == Tokens.NUMBER);
            rows.put(statements, NUMBER, packed);
            rows.put(statements, NOTES, notes);
            return true;
        }
    }
}
