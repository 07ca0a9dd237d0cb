import java.io.IOException;
import java.nio.file.Files;
import java.nio.file.Path;
import java.util.List;
import java.util.regex.Matcher;
import java.util.regex.Pattern;

/** Runs the examples of README.md, which must stand here line by line, and compares the answers that it tells. */
public final class ReadmeTest {
    private static final Check check = new Check();
    private static String readme = "";

    private ReadmeTest() {
    }

    public static void main(String[] args) throws IOException {
        readme = Files.readString(Path.of("README.md"));
        blocksStandHere(Files.readString(Path.of("src/test/java/ReadmeTest.java")));
        sectionsAreThere();
        codesAreTold();
        examples();
        textsThatDoNotFit();
        check.end();
    }

    private static void blocksStandHere(String source) {
        check.part("blocks of README.md");
        Matcher block = Pattern.compile("```java\n(.*?)```", Pattern.DOTALL).matcher(readme);
        int blocks = 0;
        while (block.find()) {
            blocks++;
            check.is("runs here: " + block.group(1), plain(source).contains(plain(block.group(1))), true);
        }
        check.is("blocks", blocks > 7, true);
    }

    /** Without comments and the white space in which the two files differ. */
    private static String plain(String code) {
        return code.replaceAll(" *// [^\n]*", "").replaceAll("\n\\s*", "\n").trim();
    }

    private static void sectionsAreThere() {
        check.part("sections of README.md");
        for (String title : List.of("Making a post", "Texts into the input buffer", "Loads and scripts", "What an error tells",
            "Undo", "Saving and restoring", "The output")) {
            check.is(title, readme.contains("\n### " + title + "\n"), true);
        }
        check.is("tests", readme.contains("\n## How to run its tests\n\n    .ci/run\n"), true);
    }

    private static void codesAreTold() {
        check.part("codes in README.md");
        isCodeTold(WhistlePosts.NO_ERROR, "NO_ERROR");
        isCodeTold(WhistlePosts.SYNTAX, "SYNTAX");
        isCodeTold(WhistlePosts.OUT_OF_RANGE, "OUT_OF_RANGE");
        isCodeTold(WhistlePosts.NAME_ERROR, "NAME_ERROR");
        isCodeTold(WhistlePosts.REPEATED, "REPEATED");
        isCodeTold(WhistlePosts.TOO_MANY, "TOO_MANY");
        isCodeTold(WhistlePosts.TOO_FEW, "TOO_FEW");
    }

    private static void isCodeTold(int code, String constant) {
        check.is(constant, readme.contains("\n| " + code + " | `" + constant + "` | "), true);
    }

    /** What README.md tells behind the line that declares a variable: all up to a colon or a bracket. */
    private static String told(String variable) {
        Matcher line = Pattern.compile("\\n\\w+ " + variable + " = [^\n]*; +// (\"[^\"\n]*\"|[^:,( \n]+)").matcher(readme);
        return line.find() ? line.group(1) : "not told";
    }

    private static void isAsTold(String variable, int got) {
        check.isText(variable, Integer.toString(got), told(variable));
    }

    private static void isAsTold(String variable, String got) {
        check.isText(variable, '"' + got + '"', told(variable));
    }

    private static void examples() {
        check.part("examples of README.md");
        WhistlePosts post = new WhistlePosts();
        int tune = post.send(0, 3, 1234, true);
        int arrived = post.tick(50);
        int state = post.tune(tune, 3);
        isAsTold("tune", tune);
        isAsTold("arrived", arrived);
        isAsTold("state", state);
        loadsAndScripts(post);
        errors(post);
        undo(post);
        savedState(post);
        outputs(post);
    }

    static boolean feed(WhistlePosts post, String text) {
        post.truncateInput(0);
        for (int from = 0; from < text.length(); from += 20) {
            int[] four = new int[5];
            for (int i = 0; i < 20; i++) {
                int sign = from + i < text.length() ? text.charAt(from + i) : ' ';
                four[i / 4] = four[i / 4] << 8 | sign;
            }
            if (post.appendInput(four[0], four[1], four[2], four[3], four[4]) < 0) {
                return false;
            }
        }
        return post.truncateInput(text.length());
    }

    private static void loadsAndScripts(WhistlePosts post) {
        feed(post, "roof ann 8 9 1 10;roof bob 4 9 2 20;roof cid 2 0 0 0;way ann bob 1;way bob cid 2;wind 5;again 0;");
        int ways = post.loadPost();
        isAsTold("ways", ways);
        feed(post, "send ann cid 1 2 3;ask cid ann 7;give bob 5;tick 12;cut bob cid;cut bob cid;dusk 1;");
        int done = post.playScript();
        isAsTold("done", done);
        check.is("dusk stays", post.count(9), 50);
        check.is("the buffer is empty", post.truncateInput(1), false);
    }

    private static void errors(WhistlePosts post) {
        feed(post, "wind 4; tick 201;");
        int none = post.playScript();
        int code = post.errorCode();
        int offset = post.errorOffset();
        isAsTold("none", none);
        check.isText("code", told("code"), "WhistlePosts.OUT_OF_RANGE");
        check.is("code", code, WhistlePosts.OUT_OF_RANGE);
        isAsTold("offset", offset);
        check.is("wind stays", post.count(8), 5);
    }

    private static void undo(WhistlePosts post) {
        post.give(2, 99);
        post.set(8, 0);
        int left = post.undo();
        isAsTold("left", left);
        check.is("wind is 5 again", post.count(8), 5);
    }

    private static void savedState(WhistlePosts post) {
        int saved = post.saveState();
        int third = post.send(1, 0, 7, false);
        int restored = post.restoreState();
        isAsTold("saved", saved);
        isAsTold("third", third);
        isAsTold("restored", restored);
        check.is("nothing can be undone", post.count(13), 0);
    }

    static String output(WhistlePosts post) {
        StringBuilder text = new StringBuilder();
        for (int sign = post.outputByte(0); sign >= 0; sign = post.outputByte(text.length())) {
            text.append((char) sign);
        }
        return text.toString();
    }

    private static void outputs(WhistlePosts post) {
        post.printRoofs();
        String roofs = output(post);
        post.printTune(0);
        String heard = output(post);
        isAsTold("roofs", roofs);
        isAsTold("heard", heard);
    }

    private static void textsThatDoNotFit() {
        check.part("feed of README.md");
        WhistlePosts post = new WhistlePosts();
        check.is("800 bytes", feed(post, " ".repeat(800)), true);
        check.is("801 bytes", feed(post, " ".repeat(801)), false);
        check.is("none", feed(post, ""), true);
        check.is("nothing is left of them", post.truncateInput(1), false);
    }
}
