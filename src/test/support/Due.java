import java.io.IOException;
import java.nio.file.Files;
import java.nio.file.Path;

/** What the tests share: the ERRORS, ways to make an object ready, and how a wrong answer is told. */
class Due {
    static final int LOW = -1000000000;
    static final int BEYOND = LOW - 1;
    static final int NONE = LOW - 2;
    static final int STATE = LOW - 3;
    static final int FULL = LOW - 4;
    static final int KIND = LOW - 5;
    static final int FAR = Integer.MAX_VALUE;
    static final int DEEP = Integer.MIN_VALUE;

    private static final Path DOC = Path.of("../shared/DOC.md");

    private static String document = null;
    private static String sentence = "";
    static int wrong = 0;

    /** Empty, if the document isn't there: then what is quoted can't be looked up, and all else is tested. */
    private static String document() {
        if (document == null) {
            try {
                document = Files.readString(DOC);
            } catch (IOException e) {
                document = "";
                System.out.println("the document is not at " + DOC + ": what is quoted is not looked up");
            }
        }
        return document;
    }

    static void fail(String what) {
        wrong++;
        System.out.println(what);
    }

    /** What follows tests this sentence, which must stand in the document word for word. */
    static void says(String quoted) {
        sentence = quoted;
        if (!document().isEmpty() && !document().contains(quoted)) fail("the document doesn't say: " + quoted);
    }

    static void due(String what, long got, long want) {
        if (got != want) {
            fail((sentence.isEmpty() ? "" : "\"" + sentence + "\": ") + what + " answered " + got + ", due is " + want);
        }
    }

    /** An object with MEN of these KINDS and numbers. */
    static OtherHat men(int... kms) {
        OtherHat x = new OtherHat();
        for (int km : kms) x.man(km);
        return x;
    }

    static void wear(OtherHat x, int world) {
        for (int i = 0; i < x.count(0); i++) x.tellMan(i, 2, world >> i & 1);
    }

    /** What each MAN SEES, from the first on. */
    static void sees(OtherHat x, int... sets) {
        for (int i = 0; i < sets.length; i++) x.tellMan(i, 3, sets[i]);
    }

    static void feed(OtherHat x, String text) {
        for (int i = 0; i < text.length(); i++) x.feed(text.charAt(i), 1);
    }

    static int text(OtherHat x, int use, String text) {
        feed(x, text);
        return x.text(use);
    }

    /** MEN with a RULE and HATS, THE GATE open. */
    static OtherHat opened(String rule, int world, int... kms) {
        OtherHat x = men(kms);
        text(x, 0, rule);
        wear(x, world);
        x.open();
        return x;
    }

    /** Leaves just these WORLDS POSSIBLE, by SHEET 3. */
    static int only(OtherHat x, int... worlds) {
        x.sheet(3, 8, worlds.length);
        for (int i = 0; i < worlds.length; i++) x.put(3, i, worlds[i]);
        return x.worlds(3);
    }

    static void end() {
        System.out.println(wrong == 0 ? "all answers are as due" : wrong + " answers are not as due");
        if (wrong != 0) System.exit(1);
    }
}
