import java.util.ArrayList;
import java.util.Collections;
import java.util.List;
import java.util.Random;
import java.util.function.Supplier;

/** Random runs of at most 512 calls (from fixed seeds): the program and PlainPost must answer and throw alike. */
public final class ModelTest {
    private static final Check check = new Check();
    private static final int RUNS = 2000;

    private final Random random;
    private final CountedPost post = new CountedPost();
    private final PlainPost plain = new PlainPost();
    private final List<String> log = new ArrayList<>();
    private boolean isWrong = false;

    private ModelTest(long seed) {
        random = new Random(seed);
    }

    public static void main(String[] args) {
        int runs = args.length > 0 ? Integer.parseInt(args[0]) : RUNS;
        for (int seed = 0; seed < runs; seed++) {
            check.part("seed " + seed);
            new ModelTest(seed).run();
        }
        check.end();
    }

    private void run() {
        boolean isLong = random.nextInt(8) == 0;
        int left = any(60, 400);
        if (random.nextInt(4) > 0) text(setup(random.nextInt(6) == 0), true);
        for (int days = isLong ? any(0, 50) : 0; days > 0; days--) same("tick(200)", () -> post.tick(200), () -> plain.tick(200));
        while (post.callsLeft() > left && !isWrong) {
            change(isLong);
            if (random.nextInt(3) == 0) for (int i = 0; i < 4; i++) ask();
        }
        askAll();
    }

    private static String answerOf(Supplier<Object> call) {
        try {
            return String.valueOf(call.get());
        } catch (RuntimeException e) {
            return "throws " + e.getClass().getSimpleName();
        }
    }

    /** Compares nothing more behind the 512th call, of which nothing is promised. */
    private void same(String call, Supplier<Object> got, Supplier<Object> due) {
        if (post.callsLeft() == 0) return;
        String a = answerOf(got);
        String b = answerOf(due);
        log.add(call + " = " + a);
        check.is("so many wrong answers", a.equals(b) ? 0 : 1, 0);
        if (!a.equals(b) && !isWrong) {
            isWrong = true;
            check.complain(call + " answered " + a + ", due is " + b + "; last calls:\n  "
                + String.join("\n  ", log.subList(Math.max(0, log.size() - 40), log.size())));
        }
    }

    private int any(int least, int most) {
        return least + random.nextInt(most - least + 1);
    }

    /** A number that is mostly in its range. */
    private int wild(int least, int most) {
        switch (random.nextInt(40)) {
            case 0:
                return least - 1;
            case 1:
                return most + 1;
            case 2:
                return random.nextInt();
            case 3:
                return random.nextBoolean() ? Integer.MAX_VALUE : Integer.MIN_VALUE;
            default:
                return any(least, most);
        }
    }

    private int roof() {
        return wild(0, plain.count(0) - 1);
    }

    private int tune() {
        return wild(0, Math.max(0, plain.count(2) - 1));
    }

    private String name() {
        StringBuilder name = new StringBuilder();
        int roof = any(0, plain.count(0) - 1);
        for (int i = 0; plain.nameByte(roof, i) >= 0; i++) name.append((char) plain.nameByte(roof, i));
        return name.toString();
    }

    private String setup(boolean isWild) {
        StringBuilder text = new StringBuilder();
        int roofs = isWild ? any(0, 11) : any(2, 10);
        boolean arePoor = random.nextBoolean();
        List<String> names = new ArrayList<>();
        for (int i = 0; i < roofs; i++) {
            StringBuilder name = new StringBuilder();
            for (int size = any(1, 3); size > 0; size--) name.append((char) any('a', 'z'));
            if (names.contains(name.toString())) name.append("zzz".substring(any(0, 1))).setCharAt(0, (char) ('a' + i));
            names.add(name.toString());
            text.append("roof ").append(name).append(' ').append(any(1, 8)).append(' ').append(any(0, random.nextInt(10)))
                .append(' ').append(any(0, random.nextInt(10))).append(' ').append(any(0, arePoor ? 40 : 999)).append(';');
        }
        int ways = isWild ? any(0, 21) : any(0, Math.min(20, roofs * (roofs - 1) / 2));
        List<String> told = new ArrayList<>();
        for (int i = 0; i < ways * 3 && told.size() < ways && roofs > 1; i++) {
            String a = names.get(any(0, roofs - 1));
            String b = names.get(any(0, roofs - 1));
            if (!isWild && (a.equals(b) || told.contains(a + " " + b) || told.contains(b + " " + a))) continue;
            told.add(a + " " + b);
            text.append("way ").append(a).append(' ').append(b).append(' ').append(any(1, 9)).append(';');
        }
        if (random.nextBoolean()) text.append("wind ").append(any(0, 9)).append(';');
        if (random.nextInt(3) == 0) text.append("dusk ").append(any(1, 60)).append(';');
        if (random.nextBoolean()) text.append("again ").append(any(0, 3)).append(';');
        return text.length() > 790 ? text.substring(0, text.lastIndexOf(";", 780) + 1) : text.toString();
    }

    private String script() {
        StringBuilder text = new StringBuilder();
        int statements = random.nextInt(12) == 0 ? any(25, 32) : any(0, 6);
        for (int i = 0; i < statements; i++) {
            switch (random.nextInt(9)) {
                case 0, 1, 2, 3 -> {
                    text.append(random.nextBoolean() ? "send " : "ask ").append(name()).append(' ').append(name());
                    for (int n = any(random.nextInt(9) > 0 ? 1 : 0, random.nextInt(9) > 0 ? 8 : 9); n > 0; n--) {
                        text.append(' ').append(wild(0, 7) & 511);
                    }
                }
                case 4 -> text.append("tick ").append(any(1, 20));
                case 5 -> text.append("give ").append(name()).append(' ').append(any(1, 99));
                case 6 -> text.append("cut ").append(name()).append(' ').append(name());
                case 7 -> text.append("wind ").append(any(0, 9));
                default -> text.append(random.nextBoolean() ? "dusk " + any(1, 60) : "again " + any(0, 3));
            }
            text.append(';');
        }
        return text.length() > 790 ? text.substring(0, text.lastIndexOf(";", 780) + 1) : text.toString();
    }

    private String spoiled(String text) {
        StringBuilder spoiled = new StringBuilder(text);
        for (int n = any(1, 3); n > 0 && spoiled.length() > 0; n--) {
            int at = any(0, spoiled.length() - 1);
            String signs = ";; \n09az1#A\u00e9";
            char sign = signs.charAt(random.nextInt(signs.length()));
            switch (random.nextInt(5)) {
                case 0 -> spoiled.deleteCharAt(at);
                case 1 -> spoiled.setLength(at);
                case 2 -> spoiled.setCharAt(at, sign);
                case 3 -> spoiled.insert(at, sign);
                default -> spoiled.insert(at, spoiled.substring(at, Math.min(spoiled.length(), at + any(1, 8))));
            }
        }
        return spoiled.length() > 790 ? spoiled.substring(0, 790) : spoiled.toString();
    }

    private void text(String text, boolean isSetup) {
        for (int from = 0; from < text.length(); from += 20) {
            int[] x = new int[5];
            for (int i = 0; i < 20; i++) x[i / 4] = x[i / 4] << 8 | (from + i < text.length() ? text.charAt(from + i) : ' ');
            same("appendInput", () -> post.appendInput(x[0], x[1], x[2], x[3], x[4]), () -> plain.appendInput(x));
        }
        same("truncateInput", () -> post.truncateInput(text.length()), () -> plain.truncateInput(text.length()));
        if (isSetup) {
            same("loadPost " + text, post::loadPost, plain::loadPost);
        } else {
            same("playScript " + text, post::playScript, plain::playScript);
        }
        same("errorCode", post::errorCode, plain::errorCode);
        same("errorOffset", post::errorOffset, plain::errorOffset);
    }

    private void change(boolean isLong) {
        int a = roof();
        int b = roof();
        int n;
        switch (random.nextInt(30)) {
            case 0, 1, 2, 3, 4, 5, 6 -> {
                int notes = notes();
                boolean wants = random.nextBoolean();
                same("send(" + a + ", " + b + ", " + notes + ", " + wants + ")",
                    () -> post.send(a, b, notes, wants), () -> plain.send(a, b, notes, wants));
            }
            case 7, 8, 9, 10, 11, 12, 13, 14, 15 -> {
                n = isLong ? wild(100, 200) : wild(1, random.nextInt(4) == 0 ? 30 : 5);
                int ticks = n;
                same("tick(" + ticks + ")", () -> post.tick(ticks), () -> plain.tick(ticks));
            }
            case 16, 17, 18 -> {
                int coins = wild(1, 99);
                same("give(" + a + ", " + coins + ")", () -> post.give(a, coins), () -> plain.give(a, coins));
            }
            case 19 -> {
                if (random.nextInt(3) == 0) same("cut(" + a + ", " + b + ")", () -> post.cut(a, b), () -> plain.cut(a, b));
            }
            case 20, 21 -> {
                int what = wild(8, 10);
                int value = random.nextBoolean() ? wild(0, 9) : wild(0, 60);
                same("set(" + what + ", " + value + ")", () -> post.set(what, value), () -> plain.set(what, value));
            }
            case 22, 23 -> {
                for (n = any(1, random.nextInt(5) == 0 ? 9 : 2); n > 0; n--) same("undo()", post::undo, plain::undo);
            }
            case 24 -> same("saveState()", post::saveState, plain::saveState);
            case 25 -> same("restoreState()", post::restoreState, plain::restoreState);
            case 26, 27 -> text(random.nextInt(3) == 0 ? spoiled(script()) : script(), false);
            case 28 -> {
                if (random.nextInt(5) == 0) text(setup(random.nextInt(3) == 0), true);
            }
            default -> text(spoiled(setup(random.nextBoolean())), true);
        }
    }

    private int notes() {
        if (random.nextInt(30) == 0) return wild(0, 77777777);
        int notes = 0;
        for (int n = any(1, 8); n > 0; n--) notes = notes * 10 + any(0, 7);
        return notes;
    }

    private void ask() {
        int a = roof();
        int b = roof();
        int t = tune();
        int n = wild(1, 8);
        switch (random.nextInt(14)) {
            case 0 -> same("arrivesIn(" + t + ")", () -> post.arrivesIn(t), () -> plain.arrivesIn(t));
            case 1 -> {
                int what = wild(0, 10);
                int ticks = wild(0, random.nextBoolean() ? 20 : 200);
                same("growsBy(" + what + ", " + ticks + ")", () -> post.growsBy(what, ticks), () -> plain.growsBy(what, ticks));
            }
            case 2 -> same("costOf(" + a + ", " + b + ", " + n + ")", () -> post.costOf(a, b, n), () -> plain.costOf(a, b, n));
            case 3 -> same("wrongOn(" + a + ", " + b + ", " + n + ")", () -> post.wrongOn(a, b, n), () -> plain.wrongOn(a, b, n));
            case 4 -> same("printRoofs()", post::printRoofs, plain::printRoofs);
            case 5 -> same("printTune(" + t + ")", () -> post.printTune(t), () -> plain.printTune(t));
            case 6 -> same("why(" + t + ", " + n + ")", () -> post.why(t, n), () -> plain.why(t, n));
            case 7 -> same("note", () -> post.note(t, n, true), () -> plain.note(t, n, true));
            case 8 -> same("waiting", () -> post.waiting(a, n), () -> plain.waiting(a, n));
            case 9 -> same("nameByte", () -> post.nameByte(a, n), () -> plain.nameByte(a, n));
            case 10 -> same("roof", () -> post.roof(a, n), () -> plain.roof(a, n));
            case 11 -> same("way", () -> post.way(b, n - 1), () -> plain.way(b, n - 1));
            case 12 -> same("tune", () -> post.tune(t, n + 3), () -> plain.tune(t, n + 3));
            default -> same("count", () -> post.count(n + 6), () -> plain.count(n + 6));
        }
        same("outputByte", () -> post.outputByte(n), () -> plain.outputByte(n));
    }

    /** Each question about the end of a run, in any order, for the calls that are left are not enough for all. */
    private void askAll() {
        List<Runnable> questions = new ArrayList<>();
        for (int i = -1; i <= 14; i++) {
            int what = i;
            questions.add(() -> same("count(" + what + ")", () -> post.count(what), () -> plain.count(what)));
            questions.add(() -> same("account(" + what + ")", () -> post.account(what), () -> plain.account(what)));
        }
        for (int i = -1; i <= plain.count(0); i++) addQuestionsOfRoof(questions, i);
        for (int i = -1; i <= plain.count(1); i++) {
            for (int j = -1; j <= 3; j++) {
                int way = i;
                int what = j;
                questions.add(() -> same("way(" + way + ", " + what + ")", () -> post.way(way, what), () -> plain.way(way, what)));
            }
        }
        for (int i = -1; i <= plain.count(2); i++) addQuestionsOfTune(questions, i);
        questions.add(() -> same("dearestWay()", post::dearestWay, plain::dearestWay));
        questions.add(() -> same("agree()", post::agree, plain::agree));
        questions.add(() -> same("meanPurse()", post::meanPurse, plain::meanPurse));
        questions.add(() -> same("rightPart()", post::rightPart, plain::rightPart));
        questions.add(() -> {
            same("printRoofs()", post::printRoofs, plain::printRoofs);
            askOutput();
        });
        Collections.shuffle(questions, random);
        for (Runnable question : questions) question.run();
    }

    private void addQuestionsOfRoof(List<Runnable> questions, int roof) {
        for (int i = -1; i <= plain.count(0); i++) {
            int n = i;
            questions.add(() -> same("route(" + roof + ", " + n + ")", () -> post.route(roof, n), () -> plain.route(roof, n)));
            questions.add(() -> same("next(" + roof + ", " + n + ")", () -> post.next(roof, n), () -> plain.next(roof, n)));
            questions.add(() -> same("calmest(" + roof + ", " + n + ")", () -> post.calmest(roof, n), () -> plain.calmest(roof, n)));
            questions.add(() -> same("costOf(" + roof + ", " + n + ", 5)", () -> post.costOf(roof, n, 5), () -> plain.costOf(roof, n, 5)));
            questions.add(() -> same("wrongOn(" + roof + ", " + n + ", 3)", () -> post.wrongOn(roof, n, 3), () -> plain.wrongOn(roof, n, 3)));
        }
        for (int i = -1; i <= 8; i++) {
            int n = i;
            questions.add(() -> same("roof(" + roof + ", " + n + ")", () -> post.roof(roof, n), () -> plain.roof(roof, n)));
            questions.add(() -> same("nameByte(" + roof + ", " + n + ")", () -> post.nameByte(roof, n), () -> plain.nameByte(roof, n)));
            questions.add(() -> same("waiting(" + roof + ", " + n + ")", () -> post.waiting(roof, n), () -> plain.waiting(roof, n)));
        }
    }

    private void addQuestionsOfTune(List<Runnable> questions, int tune) {
        for (int i = -1; i <= 12; i++) {
            int n = i;
            questions.add(() -> same("tune(" + tune + ", " + n + ")", () -> post.tune(tune, n), () -> plain.tune(tune, n)));
            questions.add(() -> same("note(" + tune + ", " + n + ", true)", () -> post.note(tune, n, true), () -> plain.note(tune, n, true)));
            questions.add(() -> same("note(" + tune + ", " + n + ", false)", () -> post.note(tune, n, false), () -> plain.note(tune, n, false)));
        }
        for (int i = -1; i <= 2; i++) {
            int n = i;
            questions.add(() -> same("why(" + tune + ", " + n + ")", () -> post.why(tune, n), () -> plain.why(tune, n)));
        }
        questions.add(() -> {
            same("printTune(" + tune + ")", () -> post.printTune(tune), () -> plain.printTune(tune));
            askOutput();
        });
    }

    private void askOutput() {
        for (int i = -1; i == -1 || plain.outputByte(i - 1) >= 0; i++) {
            int n = i;
            same("outputByte(" + n + ")", () -> post.outputByte(n), () -> plain.outputByte(n));
        }
    }
}
