import java.util.ArrayDeque;
import java.util.ArrayList;
import java.util.Arrays;
import java.util.Collections;
import java.util.Deque;
import java.util.List;
import java.util.NoSuchElementException;

/**
 * The same post a second time, written plainly from the document: lists, deep copies, routes tried one by one.
 * ModelTest compares the program with it.
 */
final class PlainPost {
    static final class Roof implements Cloneable {
        String name;
        int breath, ear, fee, purse, busyUntil, whistled;

        Roof copy() {
            try {
                return (Roof) clone();
            } catch (CloneNotSupportedException e) {
                throw new IllegalStateException(e);
            }
        }
    }

    static final class Way {
        final int a, b, far;

        Way(int a, int b, int far) {
            this.a = a;
            this.b = b;
            this.far = far;
        }
    }

    static final class Tune {
        int number, sender, goal, state, at, end, tries, hops, hopFar;
        boolean reply, wants;
        int[] sent, heard;

        Tune copy() {
            Tune t = new Tune();
            t.number = number;
            t.sender = sender;
            t.goal = goal;
            t.state = state;
            t.at = at;
            t.end = end;
            t.tries = tries;
            t.hops = hops;
            t.hopFar = hopFar;
            t.reply = reply;
            t.wants = wants;
            t.sent = sent.clone();
            t.heard = heard.clone();
            return t;
        }

        int bars() {
            return (sent.length + 3) / 4;
        }
    }

    static final class World {
        int time, wind = 3, dusk = 50, again = 1;
        List<Roof> roofs = new ArrayList<>();
        List<Way> ways = new ArrayList<>();
        List<Tune> tunes = new ArrayList<>();
        int[] accounts = new int[11];

        World copy() {
            World w = new World();
            w.time = time;
            w.wind = wind;
            w.dusk = dusk;
            w.again = again;
            for (Roof r : roofs) w.roofs.add(r.copy());
            w.ways.addAll(ways);
            for (Tune t : tunes) w.tunes.add(t.copy());
            w.accounts = accounts.clone();
            return w;
        }

        int named(String name) {
            for (int i = 0; i < roofs.size(); i++) if (roofs.get(i).name.equals(name)) return i;
            return -1;
        }

        Way between(int a, int b) {
            for (Way w : ways) if (w.a == a && w.b == b || w.a == b && w.b == a) return w;
            return null;
        }

        /** Dijkstra without a queue. */
        int least(int from, int to) {
            int[] sum = new int[roofs.size()];
            boolean[] done = new boolean[roofs.size()];
            Arrays.fill(sum, -1);
            sum[from] = 0;
            while (true) {
                int best = -1;
                for (int i = 0; i < sum.length; i++) {
                    if (!done[i] && sum[i] >= 0 && (best < 0 || sum[i] < sum[best])) best = i;
                }
                if (best < 0) return sum[to];
                done[best] = true;
                for (int i = 0; i < sum.length; i++) {
                    Way w = between(best, i);
                    if (i != best && w != null && (sum[i] < 0 || sum[best] + w.far < sum[i])) sum[i] = sum[best] + w.far;
                }
            }
        }

        int nextRoof(int from, int to) {
            if (from == to || least(from, to) < 0) return -1;
            for (int i = 0; i < roofs.size(); i++) {
                Way w = i == from ? null : between(from, i);
                if (w != null && least(i, to) >= 0 && w.far + least(i, to) == least(from, to)) return i;
            }
            throw new IllegalStateException("no next");
        }

        List<Integer> routeOf(int from, int to) {
            List<Integer> route = new ArrayList<>(List.of(from));
            while (route.get(route.size() - 1) != to) {
                int n = nextRoof(route.get(route.size() - 1), to);
                if (n < 0) return null;
                route.add(n);
            }
            return route;
        }

        int wrong(int far, int to, int notes, int wind) {
            int x = wind * far - 3 * roofs.get(to).ear;
            if (x < 0) x = 0;
            x /= 10;
            return x > notes ? notes : x;
        }

        Tune newTune(int from, int to, int[] notes, boolean wants, boolean reply) {
            Tune t = new Tune();
            t.number = tunes.size();
            t.sender = from;
            t.goal = to;
            t.sent = notes.clone();
            t.heard = notes.clone();
            t.at = from;
            t.end = -1;
            t.wants = wants;
            t.reply = reply;
            tunes.add(t);
            accounts[1]++;
            if (reply) accounts[2]++;
            return t;
        }

        void oneTick() {
            time++;
            accounts[0]++;
            for (Tune t : new ArrayList<>(tunes)) {
                if (t.state != 1 || t.end != time) continue;
                int wrong = wrong(t.hopFar, t.at, t.sent.length, wind);
                for (int k = 0; k < wrong; k++) {
                    int i = (t.number % t.sent.length + k) % t.sent.length;
                    t.heard[i] = t.heard[i] == 7 ? 0 : t.heard[i] + 1;
                }
                accounts[4] += wrong;
                t.state = 0;
                t.end = -1;
                if (t.at != t.goal) continue;
                boolean same = Arrays.equals(t.sent, t.heard);
                if (!same && t.tries < again) {
                    t.tries++;
                    accounts[7]++;
                    t.heard = t.sent.clone();
                    t.at = t.sender;
                    continue;
                }
                t.state = 2;
                accounts[5]++;
                if (same) accounts[6]++;
                if (t.wants && same && tunes.size() < 30) {
                    int[] back = new int[t.sent.length];
                    for (int i = 0; i < back.length; i++) back[i] = t.sent[back.length - 1 - i];
                    newTune(t.goal, t.sender, back, false, true);
                }
            }
            if (time % 60 < dusk) {
                for (int r = 0; r < roofs.size(); r++) {
                    Roof roof = roofs.get(r);
                    if (roof.busyUntil > time) continue;
                    for (Tune t : queue(r)) {
                        if (!canGo(t)) continue;
                        int fee = roof.fee * t.bars();
                        roofs.get(t.sender).purse -= fee;
                        roof.purse += fee;
                        accounts[9] += fee;
                        accounts[3]++;
                        roof.whistled++;
                        t.hops++;
                        int to = nextRoof(r, t.goal);
                        roof.busyUntil = time + (int) Math.ceil(t.sent.length / (double) roof.breath);
                        t.hopFar = between(r, to).far;
                        t.end = roof.busyUntil + t.hopFar;
                        t.state = 1;
                        t.at = to;
                        break;
                    }
                }
            }
            for (Tune t : tunes) {
                if (t.state == 0 && nextRoof(t.at, t.goal) < 0) {
                    t.state = 3;
                    accounts[8]++;
                }
            }
        }

        List<Tune> queue(int roof) {
            List<Tune> queue = new ArrayList<>();
            for (Tune t : tunes) if (t.state == 0 && t.at == roof) queue.add(t);
            queue.sort((x, y) -> x.bars() != y.bars() ? y.bars() - x.bars() : x.number - y.number);
            return queue;
        }

        boolean canGo(Tune t) {
            return nextRoof(t.at, t.goal) >= 0 && roofs.get(t.sender).purse >= roofs.get(t.at).fee * t.bars();
        }

        int in(int state) {
            int n = 0;
            for (Tune t : tunes) if (t.state == state) n++;
            return n;
        }
    }

    static final class TextError extends RuntimeException {
        private static final long serialVersionUID = 1L;
        final int code;
        final int offset;

        TextError(int code, int offset) {
            this.code = code;
            this.offset = offset;
        }
    }

    /** A token: its text and where it begins; the end of the text is the token "" there. */
    static final class Token {
        final String text;
        final int offset;

        Token(String text, int offset) {
            this.text = text;
            this.offset = offset;
        }

        boolean isWord(int most) {
            return text.matches("[a-z]{1," + most + "}");
        }

        boolean isNumber() {
            return text.matches("[0-9]{1,3}");
        }

        TextError error(int code) {
            return new TextError(code, offset);
        }
    }

    private final StringBuilder input = new StringBuilder();
    private String output = "";
    private int error = 0;
    private int offset = -1;
    private World w;
    private World saved = null;
    private final Deque<World> past = new ArrayDeque<>();
    private List<Token> tokens = new ArrayList<>();
    private int place;

    PlainPost() {
        input.append("roof tower 4 2 1 30;roof barn 2 0 2 20;roof mill 3 5 0 9;roof inn 8 1 3 40;")
            .append("way tower barn 4;way barn mill 6;way tower mill 9;way mill inn 3;");
        loadPost();
    }

    int appendInput(int... words) {
        if (input.length() > 780) return -1;
        for (int word : words) for (int s = 24; s >= 0; s -= 8) input.append((char) (word >> s & 0xff));
        return input.length();
    }

    boolean truncateInput(int length) {
        if (length < 0 || length > input.length()) return false;
        input.setLength(length);
        return true;
    }

    private void cutTokens() {
        tokens = new ArrayList<>();
        place = 0;
        String text = input.toString();
        input.setLength(0);
        int i = 0;
        while (i < text.length()) {
            char c = text.charAt(i);
            int j = i + 1;
            if (c != ' ' && c != '\n') {
                String kind = c >= 'a' && c <= 'z' ? "[a-z]" : c >= '0' && c <= '9' ? "[0-9]" : null;
                while (kind != null && j < text.length() && text.substring(j, j + 1).matches(kind)) j++;
                tokens.add(new Token(text.substring(i, j), i));
            }
            i = j;
        }
        tokens.add(new Token("", text.length()));
    }

    private Token peek() {
        return tokens.get(place);
    }

    private Token take() {
        Token t = peek();
        if (!t.text.isEmpty()) place++;
        return t;
    }

    private int number(int least, int most) {
        Token t = take();
        if (!t.isNumber()) throw t.error(1);
        int n = Integer.parseInt(t.text);
        if (n < least || n > most) throw t.error(2);
        return n;
    }

    private int place(World world, int unlike) {
        Token t = take();
        if (!t.isWord(6)) throw t.error(1);
        int roof = world.named(t.text);
        if (roof < 0 || roof == unlike) throw t.error(3);
        return roof;
    }

    private void semicolon() {
        Token t = take();
        if (!t.text.equals(";")) throw t.error(1);
    }

    int loadPost() {
        cutTokens();
        World draft = new World();
        try {
            while (!peek().text.isEmpty()) {
                Token first = take();
                switch (first.text) {
                    case "roof" -> {
                        if (draft.roofs.size() == 10) throw first.error(5);
                        Token name = take();
                        if (!name.isWord(6)) throw name.error(1);
                        if (draft.named(name.text) >= 0) throw name.error(3);
                        Roof r = new Roof();
                        r.name = name.text;
                        r.breath = number(1, 8);
                        r.ear = number(0, 9);
                        r.fee = number(0, 9);
                        r.purse = number(0, 999);
                        draft.roofs.add(r);
                    }
                    case "way" -> {
                        if (draft.ways.size() == 20) throw first.error(5);
                        int a = place(draft, -1);
                        Token second = peek();
                        int b = place(draft, a);
                        if (draft.between(a, b) != null) throw second.error(4);
                        draft.ways.add(new Way(a, b, number(1, 9)));
                    }
                    case "wind" -> draft.wind = number(0, 9);
                    case "dusk" -> draft.dusk = number(1, 60);
                    case "again" -> draft.again = number(0, 3);
                    default -> throw first.error(1);
                }
                semicolon();
            }
            if (draft.roofs.size() < 2) throw peek().error(6);
        } catch (TextError e) {
            error = e.code;
            offset = e.offset;
            return -1;
        }
        error = 0;
        offset = -1;
        w = draft;
        saved = null;
        past.clear();
        return w.ways.size();
    }

    int playScript() {
        cutTokens();
        List<Runnable> statements = new ArrayList<>();
        try {
            while (!peek().text.isEmpty()) {
                Token first = take();
                if (!List.of("send", "ask", "tick", "give", "cut", "wind", "dusk", "again").contains(first.text)) {
                    throw first.error(1);
                }
                if (statements.size() == 30) throw first.error(5);
                statements.add(statement(first.text));
                semicolon();
            }
        } catch (TextError e) {
            error = e.code;
            offset = e.offset;
            return -1;
        }
        error = 0;
        offset = -1;
        keep();
        int done = 0;
        try {
            for (Runnable s : statements) {
                s.run();
                done++;
            }
        } catch (IllegalStateException e) {
            // the rest is not done
        }
        return done;
    }

    private Runnable statement(String word) {
        switch (word) {
            case "tick": {
                int n = number(1, 200);
                return () -> doTick(n);
            }
            case "give": {
                int p = place(w, -1);
                int n = number(1, 99);
                return () -> doGive(p, n);
            }
            case "cut": {
                int a = place(w, -1);
                int b = place(w, a);
                return () -> doCut(a, b);
            }
            case "wind": {
                int n = number(0, 9);
                return () -> w.wind = n;
            }
            case "dusk": {
                int n = number(1, 60);
                return () -> w.dusk = n;
            }
            case "again": {
                int n = number(0, 3);
                return () -> w.again = n;
            }
            default: {
                int a = place(w, -1);
                int b = place(w, a);
                List<Integer> notes = new ArrayList<>();
                notes.add(number(0, 7));
                while (peek().isNumber()) {
                    Token t = peek();
                    notes.add(number(0, 7));
                    if (notes.size() > 8) throw t.error(5);
                }
                int[] array = notes.stream().mapToInt(i -> i).toArray();
                return () -> doSend(a, b, array, word.equals("ask"));
            }
        }
    }

    private void keep() {
        past.addLast(w.copy());
        if (past.size() > 8) past.removeFirst();
    }

    int errorCode() {
        return error;
    }

    int errorOffset() {
        return offset;
    }

    private void roofs(int... numbers) {
        for (int n : numbers) if (n < 0 || n >= w.roofs.size()) throw new IndexOutOfBoundsException();
    }

    private Tune the(int tune) {
        if (tune < 0 || tune >= w.tunes.size()) throw new IndexOutOfBoundsException();
        return w.tunes.get(tune);
    }

    private static void range(int n, int least, int most) {
        if (n < least || n > most) throw new IllegalArgumentException();
    }

    int count(int what) {
        range(what, 0, 13);
        int busy = 0;
        int purses = 0;
        for (Roof r : w.roofs) {
            if (r.busyUntil > w.time) busy++;
            purses += r.purse;
        }
        return List.of(w.roofs.size(), w.ways.size(), w.tunes.size(), w.in(0), w.in(1), w.in(2), w.in(3)).size() > what
            ? List.of(w.roofs.size(), w.ways.size(), w.tunes.size(), w.in(0), w.in(1), w.in(2), w.in(3)).get(what)
            : List.of(w.time, w.wind, w.dusk, w.again, busy, purses, past.size()).get(what - 7);
    }

    int account(int what) {
        range(what, 0, 10);
        return w.accounts[what];
    }

    int nameByte(int roof, int index) {
        roofs(roof);
        String name = w.roofs.get(roof).name;
        return index < 0 || index >= name.length() ? -1 : name.charAt(index);
    }

    int roof(int roof, int what) {
        roofs(roof);
        range(what, 0, 7);
        Roof r = w.roofs.get(roof);
        int ends = 0;
        for (Way x : w.ways) if (x.a == roof || x.b == roof) ends++;
        int busy = r.busyUntil > w.time ? r.busyUntil - w.time : 0;
        return new int[] {r.breath, r.ear, r.fee, r.purse, busy, w.queue(roof).size(), ends, r.whistled}[what];
    }

    int way(int way, int what) {
        if (way < 0 || way >= w.ways.size()) throw new IndexOutOfBoundsException();
        range(what, 0, 2);
        Way x = w.ways.get(way);
        return new int[] {x.a, x.b, x.far}[what];
    }

    int route(int roof, int goal) {
        roofs(roof, goal);
        return w.least(roof, goal);
    }

    int next(int roof, int goal) {
        roofs(roof, goal);
        return w.nextRoof(roof, goal);
    }

    int tune(int tune, int what) {
        Tune t = the(tune);
        range(what, 0, 11);
        int unlike = 0;
        for (int i = 0; i < t.sent.length; i++) if (t.sent[i] != t.heard[i]) unlike++;
        return new int[] {t.sender, t.goal, t.sent.length, t.state, t.at, t.state == 1 ? t.end : -1, t.reply ? 1 : 0,
            t.wants ? 1 : 0, t.tries, t.bars(), unlike, t.hops}[what];
    }

    int note(int tune, int index, boolean heard) {
        Tune t = the(tune);
        return index < 0 || index >= t.sent.length ? -1 : (heard ? t.heard : t.sent)[index];
    }

    int waiting(int roof, int place) {
        roofs(roof);
        List<Tune> queue = w.queue(roof);
        return place < 0 || place >= queue.size() ? -1 : queue.get(place).number;
    }

    int why(int tune, int depth) {
        Tune t = the(tune);
        range(depth, 0, 1);
        int[] reason = reason(t);
        return depth == 0 ? reason[0] : reason[1];
    }

    private int[] reason(Tune t) {
        if (t.state != 0) return new int[] {1, 100 + t.state};
        if (w.nextRoof(t.at, t.goal) < 0) return new int[] {2, 200 + t.goal};
        int rest = (w.time + 1) % 60;
        if (rest >= w.dusk) return new int[] {3, 300 + rest};
        Roof r = w.roofs.get(t.at);
        int busy = r.busyUntil - (w.time + 1);
        if (busy > 0) return new int[] {4, 400 + busy};
        int lack = r.fee * t.bars() - w.roofs.get(t.sender).purse;
        if (lack > 0) return new int[] {5, 500 + lack};
        for (Tune x : w.queue(t.at)) {
            if (w.canGo(x)) return x == t ? new int[] {0, 0} : new int[] {6, 600 + x.number};
        }
        throw new IllegalStateException("it can go itself");
    }

    int costOf(int roof, int goal, int notes) {
        roofs(roof, goal);
        range(notes, 1, 8);
        List<Integer> route = w.routeOf(roof, goal);
        if (route == null) return -1;
        int sum = 0;
        for (int i = 0; i + 1 < route.size(); i++) sum += (notes + 3) / 4 * w.roofs.get(route.get(i)).fee;
        return sum;
    }

    private int wrongBy(int roof, int goal, int notes, int wind) {
        List<Integer> route = w.routeOf(roof, goal);
        if (route == null) return -1;
        int sum = 0;
        for (int i = 0; i + 1 < route.size(); i++) {
            sum += w.wrong(w.between(route.get(i), route.get(i + 1)).far, route.get(i + 1), notes, wind);
        }
        return sum;
    }

    int wrongOn(int roof, int goal, int notes) {
        roofs(roof, goal);
        range(notes, 1, 8);
        return wrongBy(roof, goal, notes, w.wind);
    }

    int calmest(int roof, int goal) {
        roofs(roof, goal);
        int calmest = -1;
        for (int wind = 0; wind <= 9; wind++) if (wrongBy(roof, goal, 1, wind) == 0) calmest = wind;
        return calmest;
    }

    int arrivesIn(int tune) {
        the(tune);
        World copy = w.copy();
        for (int n = 0; n <= 200; n++) {
            if (copy.tunes.get(tune).state == 2) return n;
            copy.oneTick();
        }
        return -1;
    }

    int growsBy(int what, int ticks) {
        range(what, 0, 10);
        range(ticks, 0, 200);
        World copy = w.copy();
        for (int n = 0; n < ticks; n++) copy.oneTick();
        return copy.accounts[what] - w.accounts[what];
    }

    int dearestWay() {
        int best = -1;
        int most = -1;
        for (int i = 0; i < w.ways.size(); i++) {
            World copy = w.copy();
            copy.ways.remove(i);
            int pairs = 0;
            for (int a = 0; a < w.roofs.size(); a++) {
                for (int b = a + 1; b < w.roofs.size(); b++) if (copy.least(a, b) < 0) pairs++;
            }
            if (pairs > most) {
                most = pairs;
                best = i;
            }
        }
        return best;
    }

    boolean agree() {
        return true;
    }

    double meanPurse() {
        return (double) count(12) / (double) w.roofs.size();
    }

    float rightPart() {
        return w.accounts[5] == 0 ? 0 : (float) w.accounts[6] / (float) w.accounts[5];
    }

    int send(int roof, int goal, int notes, boolean wants) {
        roofs(roof, goal);
        if (roof == goal || notes < 0 || notes > 77777777 || !String.valueOf(notes).matches("[0-7]+")) {
            throw new IllegalArgumentException();
        }
        int[] array = String.valueOf(notes).chars().map(c -> c - '0').toArray();
        if (w.tunes.size() >= 30) throw new IllegalStateException();
        keep();
        return doSend(roof, goal, array, wants);
    }

    private int doSend(int roof, int goal, int[] notes, boolean wants) {
        if (w.tunes.size() >= 30) throw new IllegalStateException();
        return w.newTune(roof, goal, notes, wants, false).number;
    }

    int tick(int ticks) {
        range(ticks, 1, 200);
        if (w.time + ticks > 9999) throw new IllegalStateException();
        keep();
        return doTick(ticks);
    }

    private int doTick(int ticks) {
        if (w.time + ticks > 9999) throw new IllegalStateException();
        int before = w.accounts[5];
        for (int n = 0; n < ticks; n++) w.oneTick();
        return w.accounts[5] - before;
    }

    int give(int roof, int coins) {
        roofs(roof);
        range(coins, 1, 99);
        if (w.roofs.get(roof).purse + coins > 9999) throw new IllegalStateException();
        keep();
        return doGive(roof, coins);
    }

    private int doGive(int roof, int coins) {
        if (w.roofs.get(roof).purse + coins > 9999) throw new IllegalStateException();
        w.accounts[10] += coins;
        return w.roofs.get(roof).purse += coins;
    }

    int cut(int roof, int other) {
        roofs(roof, other);
        if (w.between(roof, other) == null) throw new IllegalStateException();
        keep();
        return doCut(roof, other);
    }

    private int doCut(int roof, int other) {
        Way way = w.between(roof, other);
        if (way == null) throw new IllegalStateException();
        w.ways.removeAll(Collections.singletonList(way));
        return w.ways.size();
    }

    int set(int what, int value) {
        range(what, 8, 10);
        range(value, what == 9 ? 1 : 0, what == 8 ? 9 : what == 9 ? 60 : 3);
        keep();
        int before = count(what);
        if (what == 8) w.wind = value;
        if (what == 9) w.dusk = value;
        if (what == 10) w.again = value;
        return before;
    }

    int undo() {
        if (past.isEmpty()) throw new NoSuchElementException();
        w = past.removeLast();
        return past.size();
    }

    int printRoofs() {
        List<String> parts = new ArrayList<>();
        for (int i = 0; i < w.roofs.size(); i++) {
            int waiting = w.queue(i).size();
            parts.add(w.roofs.get(i).name + ":" + w.roofs.get(i).purse + (w.roofs.get(i).busyUntil > w.time ? "!" : "")
                + (waiting > 0 ? "/" + waiting : ""));
        }
        output = String.join(" ", parts);
        return output.length();
    }

    int printTune(int tune) {
        Tune t = the(tune);
        StringBuilder text = new StringBuilder();
        for (int i = 0; i < t.sent.length; i++) text.append(t.heard[i]).append(t.heard[i] == t.sent[i] ? "" : "'");
        output = text + ">" + w.roofs.get(t.goal).name;
        return output.length();
    }

    int outputByte(int index) {
        return index < 0 || index >= output.length() ? -1 : output.charAt(index);
    }

    int saveState() {
        saved = w.copy();
        return w.tunes.size();
    }

    int restoreState() {
        if (saved == null) throw new NoSuchElementException();
        w = saved.copy();
        past.clear();
        return w.tunes.size();
    }
}
