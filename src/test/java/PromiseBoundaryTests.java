/** The edges that each promise's own sentences name, in their order. */
public final class PromiseBoundaryTests extends Due {
    /** Far and near numbers that are nobody's and no SHEET's. */
    private static final int[] OUTSIDE = {-1, DEEP, FAR, 64, 1 << 16};

    private static OtherHat sixClosed() {
        return men(0, 0, 0, 0, 0, 0);
    }

    private static OtherHat sixOpen() {
        OtherHat x = sixClosed();
        x.open();
        return x;
    }

    // ---- men

    private static void newObject() {
        says("All as at first; no MEN, THE GATE is closed, FINE is 3.");
        OtherHat x = new OtherHat();
        int[] first = {0, 0, 0, 0, 0, 3, 0, 0, 0, 1};
        for (int i = 0; i < first.length; i++) due("count(" + i + ")", x.count(i), first[i]);
        due("no MAN 0", x.ofMan(0, 0), BEYOND);
        due("no RULE", x.law(0, 0, 0, 0, 0), 1);
        due("no PAYS", x.law(1, 1, 0, 0, 0), 15);
        due("closed", x.close(), STATE);
        due("no IMAGE", x.restore(), NONE);
        due("no TRACE", x.trace(0), NONE);
        for (int s = 0; s < 4; s++) due("no SHEET", x.put(s, 0, 0), NONE);
        OtherHat other = new OtherHat();
        other.man(0);
        due("another object is another", x.count(0), 0);
        due("its ERRORS, too", other.told(1), 0);
    }

    private static void man() {
        says("A MAN (km: 10 times the KIND, and m): his number. BEYOND. STATE: THE GATE is open. FULL.");
        OtherHat x = new OtherHat();
        for (int km : new int[] {-1, -10, 70, DEEP, FAR}) due("BEYOND " + km, x.man(km), BEYOND);
        due("the least", x.man(0), 0);
        due("the greatest", x.man(69), 1);
        due("its KIND", x.ofMan(1, 0), 6);
        due("its m", x.ofMan(1, 1), 9);
        x.open();
        due("BEYOND ahead of STATE", x.man(70), BEYOND);
        due("STATE", x.man(0), STATE);
        x.close();
        for (int i = 2; i < 6; i++) due("his number", x.man(10 * i + i), i);
        due("FULL", x.man(0), FULL);
        due("BEYOND ahead of FULL", x.man(-1), BEYOND);
        x.open();
        due("STATE ahead of FULL", x.man(0), STATE);
        due("six", x.count(0), 6);
    }

    private static void ofMan() {
        says("Of a MAN: 0 KIND, 1 m, 2 HAT, 3 SEES, 4 PAID. BEYOND.");
        OtherHat x = men(69, 0);
        for (int man : OUTSIDE) due("MAN " + man, x.ofMan(man, 0), BEYOND);
        due("MAN 2 of two", x.ofMan(2, 0), BEYOND);
        for (int what : new int[] {-1, 5, DEEP, FAR}) due("what " + what, x.ofMan(0, what), BEYOND);
        due("what 0", x.ofMan(0, 0), 6);
        due("what 4", x.ofMan(1, 4), 0);
        due("no MEN", new OtherHat().ofMan(0, 0), BEYOND);
    }

    private static void tellMan() {
        says("HAT (what 2), SEES (3; a set of MEN there are, not himself) of a MAN becomes v: what it was. "
            + "BEYOND: also another what. STATE: THE GATE is open.");
        OtherHat x = men(0, 0, 0);
        for (int man : OUTSIDE) {
            due("MAN " + man, x.tellMan(man, 2, 0), BEYOND);
            due("SEES of MAN " + man, x.tellMan(man, 3, 0), BEYOND);
        }
        due("MAN 3 of three", x.tellMan(3, 2, 0), BEYOND);
        for (int what : new int[] {0, 1, 4, -1, DEEP, FAR}) due("what " + what, x.tellMan(0, what, 0), BEYOND);
        for (int v : new int[] {-1, 2, DEEP, FAR}) due("a HAT of " + v, x.tellMan(0, 2, v), BEYOND);
        for (int v : new int[] {-1, 8, 64, 1, 2 + 1, DEEP, FAR}) due("SEES of " + v, x.tellMan(0, 3, v), BEYOND);
        due("himself, the last", x.tellMan(2, 3, 4), BEYOND);
        due("nobody", x.tellMan(0, 3, 0), 6);
        due("all others", x.tellMan(0, 3, 6), 0);
        due("as it was", x.tellMan(0, 3, 6), 6);
        due("black", x.tellMan(0, 2, 1), 0);
        due("black again", x.tellMan(0, 2, 1), 1);
        x.open();
        due("STATE", x.tellMan(0, 2, 0), STATE);
        due("STATE of SEES", x.tellMan(0, 3, 0), STATE);
        due("BEYOND ahead of STATE", x.tellMan(0, 1, 0), BEYOND);
        due("of the MAN, too", x.tellMan(3, 2, 0), BEYOND);
        due("of the HAT, too", x.tellMan(0, 2, 2), BEYOND);
        due("of SEES, too", x.tellMan(0, 3, 1), BEYOND);
    }

    private static void become() {
        says("A MAN becomes one of a KIND, with m (km): the KIND that he was (THE GATE may be open). BEYOND.");
        OtherHat x = men(0, 15);
        for (int man : OUTSIDE) due("MAN " + man, x.become(man, 0), BEYOND);
        due("MAN 2 of two", x.become(2, 0), BEYOND);
        for (int km : new int[] {-1, 70, DEEP, FAR}) due("km " + km, x.become(0, km), BEYOND);
        due("the greatest", x.become(0, 69), 0);
        due("the same again", x.become(0, 69), 6);
        x.open();
        due("it is open", x.become(0, 0), 6);
        due("KIND", x.ofMan(0, 0), 0);
        due("m", x.ofMan(0, 1), 0);
        due("the other is as he was", x.ofMan(1, 0) * 10 + x.ofMan(1, 1), 15);
    }

    private static void as() {
        says("A MAN as one of a KIND: m. BEYOND. KIND: he isn't of that KIND, nor of one under it.");
        OtherHat x = men(59);
        for (int man : OUTSIDE) due("MAN " + man, x.as(man, 0), BEYOND);
        due("MAN 1 of one", x.as(1, 0), BEYOND);
        for (int kind : new int[] {-1, 7, DEEP, FAR}) due("KIND " + kind, x.as(0, kind), BEYOND);
        int[] above = {-1, 0, 0, 0, 1, 2, 3};
        for (int own = 0; own < 7; own++) {
            x.become(0, own * 10 + 9 - own);
            for (int kind = 0; kind < 7; kind++) {
                boolean is = kind == own || kind == above[own] || own != 0 && kind == 0;
                due(own + " as " + kind, x.as(0, kind), is ? 9 - own : KIND);
            }
        }
    }

    private static void fine() {
        says("FINE becomes v (0 to 99): what it was. BEYOND.");
        OtherHat x = new OtherHat();
        for (int v : new int[] {-1, 100, DEEP, FAR}) due("FINE of " + v, x.fine(v), BEYOND);
        due("the greatest", x.fine(99), 3);
        due("the least", x.fine(0), 99);
        due("it was", x.fine(1), 0);
        x.man(10);
        x.open();
        due("it may be open", x.fine(99), 1);
        x.bells(1);
        due("99 less", x.ofMan(0, 4), -99);
    }

    // ---- texts

    private static void feeding() {
        says("The n lowest bytes (1 .. 8) of a word, the lowest first, come to THE TAPE: how many there are. BEYOND. FULL.");
        OtherHat x = new OtherHat();
        for (int n : new int[] {0, -1, 9, DEEP, FAR}) due("n " + n, x.feed('1', n), BEYOND);
        due("one of a word of eight", x.feed(0x3131313131313138L, 1), 1);
        x.text(0);
        due("the lowest", x.law(0, 0, 0, 0, 0), 8);
        due("eight", x.feed(0x392B372B352B332BL << 8 | '1', 8), 8);
        due("the eighth is a + behind 1+3+5+7", x.text(0), -18);
        x.feed(0x392B372B352B332BL << 8 | '1', 8);
        due("nine more", x.feed('9', 1), 9);
        due("a TEXT", x.text(0), 1);
        due("1+3+5+7+9", x.law(0, 0, 0, 0, 0), 25);
        x.feed(0xB1L << 56 | '1', 8);
        due("a byte of 0", x.text(0), -11);
        for (int i = 1; i <= 6; i++) due("eight", x.feed(-1L, 8), 8 * i);
        due("three for two", x.feed(0, 3), FULL);
        due("eight for two", x.feed(0, 8), FULL);
        due("48 are there", x.count(6), 48);
        due("two for two", x.feed(0, 2), 50);
        due("FULL", x.feed(0, 1), FULL);
        due("BEYOND ahead of FULL", x.feed(0, 9), BEYOND);
        due("50 are there", x.count(6), 50);
        x.text(0);
        due("room again", x.feed(0, 8), 8);
    }

    private static void texts() {
        says("THE TAPE, which is empty then, is the TEXT of a USE (0, 1), in place of one ahead: 1. BEYOND (THE TAPE stays).");
        OtherHat x = new OtherHat();
        feed(x, "7");
        for (int use : new int[] {-1, 2, DEEP, FAR}) due("USE " + use, x.text(use), BEYOND);
        due("THE TAPE stays", x.count(6), 1);
        due("1", x.text(1), 1);
        due("it is empty", x.count(6), 0);
        due("it is of that USE", x.law(1, 0, 0, 0, 0), 7);
        due("not of the other", x.law(0, 0, 0, 0, 0), 1);
        due("in place of it", text(x, 1, "8"), 1);
        due("8", x.law(1, 0, 0, 0, 0), 8);
        due("the other one", text(x, 0, "9"), 1);
        due("8 still", x.law(1, 0, 0, 0, 0), 8);
        x.man(0);
        x.open();
        due("it may be open", text(x, 0, "0"), 1);

        says("-10 less the FAULT (no ERROR; the one ahead stays; THE TAPE is empty, too).");
        due("an empty TAPE", x.text(1), -10);
        due("at the third", text(x, 1, "5+x"), -12);
        due("THE TAPE is empty", x.count(6), 0);
        due("too early", text(x, 1, "5+"), -12);
        due("THE TAPE is empty, too", x.count(6), 0);
        due("the one ahead stays", x.law(1, 0, 0, 0, 0), 8);
        due("no ERROR", x.told(1), 4);
        x = new OtherHat();
        due("a FAULT without one ahead", text(x, 0, "1+"), -12);
        due("there is still none", x.law(0, 0, 0, 0, 0), 1);
        due("nor for the other", x.law(1, 1, 0, 0, 0), 15);
    }

    private static void law() {
        says("What a USE gives with its NAMES in order as a, b, c, d (RULE: as it is). BEYOND.");
        OtherHat x = new OtherHat();
        for (int use : new int[] {-1, 2, DEEP, FAR}) due("USE " + use, x.law(use, 0, 0, 0, 0), BEYOND);
        text(x, 0, "b*1000+n*100+f*10+l");
        due("in order", x.law(0, 1, 2, 3, 4), 1234);
        text(x, 1, "h*100+t*10+c");
        due("in order, too", x.law(1, 1, 2, 3, 4), 123);
        text(x, 0, "b");
        due("the least", x.law(0, DEEP, 0, 0, 0), DEEP);
        due("the greatest", x.law(0, FAR, 0, 0, 0), FAR);
        int told = x.told(3);
        due("one like an ERROR", x.law(0, STATE, 0, 0, 0), STATE);
        due("that is none", x.told(3), told);
        text(x, 1, "h");
        due("held above", x.law(1, 1000, 0, 0, 0), 999);
        due("held below", x.law(1, -1, 0, 0, 0), 0);
    }

    // ---- the gate, bells

    private static void opening() {
        says("THE GATE opens: how many WORLDS are POSSIBLE. STATE: it is open; THE WORLD isn't among them.");
        OtherHat x = sixClosed();
        due("all", x.open(), 64);
        due("it is open", x.open(), STATE);
        x.close();
        text(x, 0, "b>0");
        due("THE WORLD isn't", x.open(), STATE);
        due("it is closed", x.count(1), 0);
        x.tellMan(5, 2, 1);
        due("all but one", x.open(), 63);
        x.close();
        text(x, 0, "0");
        due("none is", x.open(), STATE);
        x = new OtherHat();
        due("no MEN", x.open(), 1);
        x.close();
        text(x, 0, "n");
        due("no MEN, none is", x.open(), STATE);
    }

    private static void closing() {
        says("THE GATE closes: how many have SPOKEN. STATE: it is closed.");
        OtherHat x = opened("b=n", 63, 0, 0, 0, 0, 0, 0);
        due("none", x.close(), 0);
        due("it is closed", x.close(), STATE);
        x.open();
        x.bells(1);
        due("six", x.close(), 6);
        due("they have still", x.count(3), 63);
        due("closed again", x.close(), STATE);
        due("at first, too", new OtherHat().close(), STATE);
    }

    private static void bells() {
        says("n (1 to 30) BELLS ring: SPOKE. BEYOND. STATE: THE GATE is closed; BELL would be above 99.");
        OtherHat x = sixOpen();
        for (int n : new int[] {0, -1, 31, DEEP, FAR}) due("n " + n, x.bells(n), BEYOND);
        due("one", x.bells(1), 0);
        for (int i = 0; i < 3; i++) due("thirty", x.bells(30), 0);
        due("BELL 91", x.count(2), 91);
        due("to 100", x.bells(9), STATE);
        due("by 30", x.bells(30), STATE);
        due("BELL is still 91", x.count(2), 91);
        due("to 99", x.bells(8), 0);
        due("to 100 by one", x.bells(1), STATE);
        due("BEYOND ahead of STATE", x.bells(31), BEYOND);
        x.close();
        due("closed", x.bells(1), STATE);
        due("BEYOND ahead of that", x.bells(0), BEYOND);
        x.open();
        due("from 0 again", x.bells(30), 0);
    }

    private static void loose() {
        says("n (1 to 30) LOOSE BELLS: likewise. BEYOND. STATE.");
        OtherHat x = sixOpen();
        for (int n : new int[] {0, -1, 31, DEEP, FAR}) due("n " + n, x.loose(n), BEYOND);
        due("one", x.loose(1), 0);
        for (int i = 0; i < 3; i++) due("thirty", x.loose(30), 0);
        due("to 100", x.loose(9), STATE);
        due("BELL is still 91", x.count(2), 91);
        due("to 99", x.loose(8), 0);
        due("to 100 by one", x.loose(1), STATE);
        due("BEYOND ahead of STATE", x.loose(31), BEYOND);
        x.close();
        due("closed", x.loose(1), STATE);
        due("BEYOND ahead of that", x.loose(0), BEYOND);
        x = opened("b=n", 1, 0);
        due("SPOKE", x.loose(1), 1);
        x = opened("b=n", 1, 0);
        x.close();
        x.loose(1);
        due("refused, nobody draws", x.count(9), 1);
    }

    // ---- what is thought

    private static void possible() {
        says("Whether a WORLD (a set) is POSSIBLE: 1, 0. BEYOND: a set of others than MEN. STATE.");
        OtherHat x = sixClosed();
        due("closed", x.possible(0), STATE);
        due("BEYOND ahead of it", x.possible(64), BEYOND);
        x.open();
        due("the least", x.possible(0), 1);
        due("the greatest", x.possible(63), 1);
        for (int w : OUTSIDE) due("WORLD " + w, x.possible(w), BEYOND);
        x = new OtherHat();
        x.open();
        due("no MEN", x.possible(0), 1);
        due("no MAN 0", x.possible(1), BEYOND);
        x = opened("b<2", 0, 0, 0);
        due("1", x.possible(2), 1);
        due("0", x.possible(3), 0);
        due("of two", x.possible(4), BEYOND);
    }

    private static void thinks() {
        says("Of a MAN in THE WORLD: 0 BLACK, 1 WHITE, 2 whether he KNOWS, 3 what he WOULD SAY, 4 whether he SPEAKS (0, if he has). "
            + "BEYOND. STATE.");
        OtherHat x = men(0, 0);
        due("closed", x.thinks(0, 0), STATE);
        due("BEYOND ahead of it", x.thinks(2, 0), BEYOND);
        due("of what, too", x.thinks(0, 5), BEYOND);
        text(x, 0, "b=n");
        wear(x, 3);
        x.open();
        for (int man : OUTSIDE) due("MAN " + man, x.thinks(man, 0), BEYOND);
        due("MAN 2 of two", x.thinks(2, 4), BEYOND);
        for (int what : new int[] {-1, 5, DEEP, FAR}) due("what " + what, x.thinks(0, what), BEYOND);
        int[] due = {1, 0, 1, 1, 1};
        for (int what = 0; what < 5; what++) due("what " + what, x.thinks(1, what), due[what]);
        x.bells(1);
        due("he has", x.thinks(1, 4), 0);
        due("he knows still", x.thinks(1, 2), 1);
    }

    private static void then() {
        says("AHEAD by n: SPOKE (what 0), how many WORLDS are POSSIBLE (1). BEYOND. STATE.");
        OtherHat x = opened("b>0", 1, 0, 0);
        for (int n : new int[] {-1, 31, DEEP, FAR}) due("n " + n, x.then(n, 0), BEYOND);
        for (int what : new int[] {-1, 2, DEEP, FAR}) due("what " + what, x.then(0, what), BEYOND);
        due("by 0", x.then(0, 0) * 10 + x.then(0, 1), 3);
        due("by 1", x.then(1, 0) * 10 + x.then(1, 1), 11);
        due("by 30", x.then(30, 0) * 10 + x.then(30, 1), 31);
        x.close();
        due("closed", x.then(0, 0), STATE);
        due("BEYOND of n ahead of it", x.then(31, 0), BEYOND);
        due("of what, too", x.then(0, 2), BEYOND);
    }

    private static void thenPaid() {
        says("AHEAD by n: PAID of a MAN. BEYOND. STATE.");
        OtherHat x = opened("b>0", 1, 0, 0);
        for (int n : new int[] {-1, 31, DEEP, FAR}) due("n " + n, x.thenPaid(n, 0), BEYOND);
        for (int man : OUTSIDE) due("MAN " + man, x.thenPaid(0, man), BEYOND);
        due("MAN 2 of two", x.thenPaid(0, 2), BEYOND);
        due("by 0", x.thenPaid(0, 0), 0);
        due("by 1", x.thenPaid(1, 0), 15);
        due("by 30", x.thenPaid(30, 1), 4);
        x.close();
        due("closed", x.thenPaid(0, 0), STATE);
        due("BEYOND of n ahead of it", x.thenPaid(31, 0), BEYOND);
        due("of the MAN, too", x.thenPaid(0, 2), BEYOND);
    }

    private static void when() {
        says("WHEN. BEYOND. STATE. NONE: not within 30.");
        OtherHat x = opened("b>0", 1, 0, 0, 30);
        for (int man : OUTSIDE) due("MAN " + man, x.when(man), BEYOND);
        due("MAN 3 of three", x.when(3), BEYOND);
        due("1", x.when(0), 1);
        due("2", x.when(1), 2);
        due("never", x.when(2), NONE);
        x.bells(1);
        due("0", x.when(0), 0);
        x.close();
        due("closed", x.when(0), STATE);
        due("STATE ahead of NONE", x.when(2), STATE);
        due("BEYOND ahead of STATE", x.when(3), BEYOND);
    }

    private static void silence() {
        says("SILENCE by n. BEYOND. STATE.");
        OtherHat x = opened("b>0", 1, 0, 0);
        for (int man : OUTSIDE) due("MAN " + man, x.silence(man, 0), BEYOND);
        due("MAN 2 of two", x.silence(2, 0), BEYOND);
        for (int n : new int[] {-1, 31, DEEP, FAR}) due("n " + n, x.silence(0, n), BEYOND);
        due("by 0", x.silence(0, 0), 0);
        due("by 30", x.silence(0, 30), 1);
        due("he is of his KIND", x.ofMan(0, 0), 0);
        x.close();
        due("closed", x.silence(0, 0), STATE);
        due("BEYOND of the MAN ahead of it", x.silence(2, 0), BEYOND);
        due("of n, too", x.silence(0, 31), BEYOND);
    }

    private static void trick() {
        says("TRICK by n: what 0 the WORLD, 1 how many have spoken. BEYOND. STATE.");
        OtherHat x = opened("b>0", 1, 0, 0);
        for (int n : new int[] {-1, 31, DEEP, FAR}) due("n " + n, x.trick(n, 0), BEYOND);
        for (int what : new int[] {-1, 2, DEEP, FAR}) due("what " + what, x.trick(0, what), BEYOND);
        due("by 0", x.trick(0, 0) * 10 + x.trick(0, 1), 10);
        due("by 1", x.trick(1, 0) * 10 + x.trick(1, 1), 30);
        due("by 30", x.trick(30, 0) * 10 + x.trick(30, 1), 12);
        due("THE WORLD is as it was", x.ofMan(0, 2) * 10 + x.ofMan(1, 2), 10);
        x.close();
        due("closed", x.trick(0, 0), STATE);
        due("BEYOND of n ahead of it", x.trick(31, 0), BEYOND);
        due("of what, too", x.trick(0, 2), BEYOND);
    }

    private static void longest() {
        says("LONGEST. STATE.");
        OtherHat x = opened("b>0", 1, 0, 0);
        due("two", x.longest(), 2);
        x.close();
        due("closed", x.longest(), STATE);
        due("at first, too", new OtherHat().longest(), STATE);
    }

    private static void signal() {
        says("How many MEN (those that have spoken, too) would KNOW in THE WORLD by a SIGNAL of a MAN by a set. "
            + "BEYOND: also a set of others than he SEES. STATE.");
        OtherHat x = men(40, 0, 0);
        sees(x, 6, 1, 3);
        x.open();
        for (int man : OUTSIDE) due("MAN " + man, x.signal(man, 0), BEYOND);
        due("MAN 3 of three", x.signal(3, 0), BEYOND);
        for (int set : new int[] {-1, 1, 7, 8, 64, DEEP, FAR}) due("set " + set, x.signal(0, set), BEYOND);
        due("one he doesn't SEE", x.signal(1, 4), BEYOND);
        due("with one he SEES", x.signal(1, 5), BEYOND);
        due("himself", x.signal(2, 4), BEYOND);
        due("nobody", x.signal(0, 0), 0);
        due("all he SEES: each of both KNOWS then", x.signal(2, 3), 2);
        x.bells(1);
        due("one has spoken", x.count(3), 1);
        due("he would KNOW, too", x.signal(2, 1), 1);
        x.close();
        due("closed", x.signal(0, 0), STATE);
        due("BEYOND of the MAN ahead of it", x.signal(3, 0), BEYOND);
        due("of the set, too", x.signal(1, 4), BEYOND);
    }

    private static void bestSignal() {
        says("BEST SIGNAL: what 0 the set, 1 how many would KNOW. BEYOND. STATE.");
        OtherHat x = sixClosed();
        sees(x, 62, 61, 59, 55, 47, 0);
        x.open();
        for (int man : OUTSIDE) due("MAN " + man, x.bestSignal(man, 0), BEYOND);
        due("MAN 6 of six", x.bestSignal(6, 0), BEYOND);
        for (int what : new int[] {-1, 2, DEEP, FAR}) due("what " + what, x.bestSignal(0, what), BEYOND);
        due("four of five that see the rest", x.bestSignal(0, 0) * 10 + x.bestSignal(0, 1), 304);
        due("who sees nobody", x.bestSignal(5, 0) * 10 + x.bestSignal(5, 1), 0);
        x.close();
        due("closed", x.bestSignal(0, 0), STATE);
        due("BEYOND of the MAN ahead of it", x.bestSignal(6, 0), BEYOND);
        due("of what, too", x.bestSignal(0, 2), BEYOND);
    }

    private static void look() {
        says("BEST LOOK. BEYOND. STATE. NONE: he SEES all, or speaks by none within 30.");
        OtherHat x = men(0, 0, 30);
        sees(x, 0, 5, 0);
        text(x, 0, "f=l");
        x.open();
        for (int man : OUTSIDE) due("MAN " + man, x.look(man), BEYOND);
        due("MAN 3 of three", x.look(3), BEYOND);
        due("the last", x.look(0), 2);
        due("he SEES all", x.look(1), NONE);
        due("SILENT", x.look(2), NONE);
        x.close();
        due("closed", x.look(0), STATE);
        due("STATE ahead of NONE", x.look(1), STATE);
        due("BEYOND ahead of STATE", x.look(3), BEYOND);
        due("alone", opened("b=n", 1, 0).look(0), NONE);
    }

    private static void odds() {
        says("ODDS: part 0 above, 1 below the line. BEYOND. STATE.");
        OtherHat x = men(0, 0);
        x.open();
        for (int man : OUTSIDE) due("MAN " + man, x.odds(man, 0), BEYOND);
        due("MAN 2 of two", x.odds(2, 0), BEYOND);
        for (int part : new int[] {-1, 2, DEEP, FAR}) due("part " + part, x.odds(0, part), BEYOND);
        due("1 by 2", x.odds(1, 0) * 10 + x.odds(1, 1), 12);
        x.close();
        due("closed", x.odds(0, 0), STATE);
        due("BEYOND of the MAN ahead of it", x.odds(2, 0), BEYOND);
        due("of the part, too", x.odds(0, 2), BEYOND);
    }

    // ---- draws, voices, sheets, images, what is told

    private static void seed() {
        says("z becomes v: what it was (any number).");
        OtherHat x = new OtherHat();
        due("1", x.seed(DEEP), 1);
        due("the least", x.seed(FAR), DEEP);
        due("the greatest", x.seed(BEYOND), FAR);
        due("one like an ERROR", x.seed(0), BEYOND);
        due("that is none", x.told(1), 0);
        due("0", x.count(9), 0);
    }

    private static void voice() {
        says("A VOICE of a MAN: any number. BEYOND.");
        OtherHat x = men(0, 0);
        for (int man : OUTSIDE) due("MAN " + man, x.voice(man, 0, 0), BEYOND);
        due("MAN 2 of two", x.voice(2, 0, 0), BEYOND);
        for (int act : new int[] {-1, 4, DEEP, FAR}) due("act " + act, x.voice(0, act, 0), BEYOND);
        int told = x.told(4);
        due("one like an ERROR", x.voice(0, 0, FULL), FULL);
        due("that is none", x.told(4), told);
        due("round", x.voice(1, 0, FAR), DEEP);
    }

    private static void trace() {
        says("THE TRACE's i-th. NONE: there is none such.");
        OtherHat x = men(0);
        due("ahead of the first voice", x.trace(0), NONE);
        x.voice(0, 3, 0);
        int[] due = {13, 11, 10, 12};
        for (int i = 0; i < due.length; i++) due("number " + i, x.trace(i), due[i]);
        for (int i : new int[] {-1, 4, 39, 40, DEEP, FAR}) due("number " + i, x.trace(i), NONE);
    }

    private static void sheet() {
        says("A SHEET has n numbers, all 0, of so many bits (8, 16, 32; 0: it is missing, n doesn't matter): 1. BEYOND. "
            + "STATE: n is below 0 (ahead of BEYOND of n).");
        OtherHat x = new OtherHat();
        for (int s : new int[] {-1, 4, DEEP, FAR}) due("SHEET " + s, x.sheet(s, 8, 1), BEYOND);
        for (int bits : new int[] {-8, -1, 1, 7, 9, 24, 31, 33, 64, DEEP, FAR}) due(bits + " bits", x.sheet(0, bits, 1), BEYOND);
        for (int n : new int[] {41, 100, FAR}) due("n " + n, x.sheet(0, 8, n), BEYOND);
        for (int n : new int[] {-1, -41, DEEP}) due("n " + n, x.sheet(0, 8, n), STATE);
        due("BEYOND of the SHEET ahead of STATE", x.sheet(4, 8, -1), BEYOND);
        due("of the bits, too", x.sheet(0, 7, -1), BEYOND);
        due("it is missing still", x.put(0, 0, 0), NONE);
        for (int bits : new int[] {8, 16, 32}) {
            due("none on it", x.sheet(3, bits, 0), 1);
            due("no number 0", x.put(3, 0, 0), BEYOND);
            due("40 on it", x.sheet(3, bits, 40), 1);
            due("the last", x.put(3, 39, 1), 1);
        }
        for (int n : new int[] {-1, 0, 41, DEEP, FAR}) {
            x.sheet(3, 8, 1);
            due("missing, n " + n, x.sheet(3, 0, n), 1);
            due("it is", x.put(3, 0, 0), NONE);
        }
        due("missing twice", x.sheet(3, 0, 0), 1);
        due("no SHEET to be missing", x.sheet(4, 0, 0), BEYOND);
        x = men(0, 0);
        x.sheet(0, 8, 2);
        x.put(0, 0, 3);
        x.put(0, 1, 3);
        x.sheet(0, 8, 2);
        x.open();
        due("all 0", x.worlds(0), 1);
        x.put(0, 0, 3);
        due("a smaller one", x.sheet(0, 8, 1), 1);
        due("its second is gone", x.put(0, 1, 0), BEYOND);
    }

    private static void put() {
        says("Number i of a SHEET becomes v (its lowest bits): 1. BEYOND: no such SHEET. NONE: it is missing. BEYOND: no such number.");
        OtherHat x = men(0, 0);
        for (int s : new int[] {-1, 4, DEEP, FAR}) due("SHEET " + s, x.put(s, 0, 0), BEYOND);
        due("missing", x.put(0, 0, 0), NONE);
        due("NONE ahead of BEYOND of i", x.put(0, -1, 0), NONE);
        x.sheet(0, 8, 3);
        for (int i : new int[] {-1, 3, 40, DEEP, FAR}) due("number " + i, x.put(0, i, 0), BEYOND);
        due("the first", x.put(0, 0, FAR), 1);
        due("the last", x.put(0, 2, DEEP), 1);
        due("the middle", x.put(0, 1, 0x7FFFFF03), 1);
        wear(x, 3);
        x.open();
        due("its lowest 8 bits are 3; DEEP's are 0", x.worlds(0), 2);
        due("3", x.possible(3), 1);
        due("0", x.possible(0), 1);
        x.sheet(1, 16, 1);
        x.put(1, 0, 0x7FFF0003);
        due("its lowest 16 are 3", x.worlds(1), 1);
        x.sheet(1, 16, 1);
        x.put(1, 0, 0x00000103);
        due("its lowest 16 are 259", x.worlds(1), STATE);
        x.sheet(2, 32, 1);
        x.put(2, 0, 0x7FFF0003);
        due("32 are as told", x.worlds(2), STATE);
        x.put(2, 0, 3);
        due("3 is 3", x.worlds(2), 1);
    }

    /** Whether just these WORLDS are numbers of a SHEET of an object of three MEN, THE GATE closed. */
    private static void holds(String what, OtherHat x, int sheet, int... worlds) {
        x.open();
        due(what + ": how many", x.worlds(sheet), worlds.length);
        for (int w : worlds) due(what + ": " + w, x.possible(w), 1);
        x.close();
    }

    private static void move() {
        says("n numbers of a SHEET, from number i on, come to another one (or the same), from its number j on, as they all were: n. "
            + "BEYOND: no such SHEET. NONE: one is missing. KIND: they are of unlike bits. "
            + "BEYOND: n, i, or j is below 0, or they don't stand there (n 0, too).");
        OtherHat x = men(0, 0, 0);
        x.sheet(0, 8, 4);
        x.sheet(1, 8, 3);
        x.sheet(2, 16, 4);
        for (int s : new int[] {-1, 4, DEEP, FAR}) {
            due("from SHEET " + s, x.move(s, 0, 0, 0, 1), BEYOND);
            due("to SHEET " + s, x.move(0, 0, s, 0, 1), BEYOND);
        }
        due("BEYOND ahead of NONE", x.move(3, 0, 4, 0, 1), BEYOND);
        due("the first is missing", x.move(3, 0, 0, 0, 1), NONE);
        due("the other is missing", x.move(0, 0, 3, 0, 1), NONE);
        due("NONE ahead of BEYOND of n", x.move(0, 0, 3, 0, -1), NONE);
        due("unlike", x.move(0, 0, 2, 0, 1), KIND);
        due("unlike the other way", x.move(2, 0, 0, 0, 1), KIND);
        due("KIND ahead of BEYOND of n", x.move(0, 0, 2, 0, 99), KIND);
        for (int v : new int[] {-1, DEEP}) {
            due("n " + v, x.move(0, 0, 1, 0, v), BEYOND);
            due("i " + v, x.move(0, v, 1, 0, 1), BEYOND);
            due("j " + v, x.move(0, 0, 1, v, 1), BEYOND);
            due("i " + v + " of none", x.move(0, v, 1, 0, 0), BEYOND);
            due("j " + v + " of none", x.move(0, 0, 1, v, 0), BEYOND);
        }
        due("one too many of the first", x.move(1, 1, 0, 0, 3), BEYOND);
        due("one too many for the other", x.move(0, 0, 1, 1, 3), BEYOND);
        due("from behind its last", x.move(0, 4, 1, 0, 1), BEYOND);
        due("to behind its last", x.move(0, 0, 1, 3, 1), BEYOND);
        due("far", x.move(0, FAR, 1, 0, FAR), BEYOND);
        due("far, one", x.move(0, FAR, 1, 0, 1), BEYOND);
        due("to far", x.move(0, 1, 1, FAR, 1), BEYOND);
        due("none at the ends", x.move(0, 4, 1, 3, 0), 0);
        due("none at the beginnings", x.move(0, 0, 1, 0, 0), 0);
        due("none behind the end", x.move(0, 5, 1, 0, 0), BEYOND);
        due("none to behind the end", x.move(0, 0, 1, 4, 0), BEYOND);
        moved();
    }

    private static void moved() {
        OtherHat x = men(0, 0, 0);
        x.sheet(0, 8, 4);
        x.sheet(1, 8, 3);
        for (int i = 1; i < 4; i++) x.put(0, i, i);
        due("all of it", x.move(1, 0, 1, 0, 3), 3);
        due("1, 2, 3 to the other", x.move(0, 1, 1, 0, 3), 3);
        x.put(1, 0, 0);
        holds("the first went", x, 1, 0, 2, 3);
        holds("it stays where it was", x, 0, 0, 1, 2, 3);
        due("up in the same one: 0, 0, 1, 2", x.move(0, 0, 0, 1, 3), 3);
        holds("3 is gone", x, 0, 0, 1, 2);
        x.put(0, 3, 5);
        x.put(0, 0, 6);
        due("down in the same one: 0, 1, 5, 5", x.move(0, 1, 0, 0, 3), 3);
        holds("6 is gone, all others are there", x, 0, 0, 1, 5);
        x.sheet(2, 32, 1);
        x.sheet(3, 32, 1);
        x.put(2, 0, 0x10007);
        due("whole numbers", x.move(2, 0, 3, 0, 1), 1);
        wear(x, 7);
        x.open();
        due("no WORLD comes of it", x.worlds(3), STATE);
    }

    private static void worlds() {
        says("POSSIBLE are those WORLDS alone that are numbers of a SHEET and were POSSIBLE: how many. BEYOND: no such SHEET. "
            + "NONE: it is missing. STATE: THE GATE is closed; THE WORLD isn't among them.");
        OtherHat x = men(0, 0, 0);
        for (int s : new int[] {-1, 4, DEEP, FAR}) due("SHEET " + s, x.worlds(s), BEYOND);
        due("NONE ahead of STATE", x.worlds(0), NONE);
        x.sheet(0, 32, 0);
        due("closed", x.worlds(0), STATE);
        text(x, 0, "b<2");
        x.open();
        due("an empty SHEET", x.worlds(0), STATE);
        due("they stay", x.count(4), 4);
        x.sheet(0, 32, 40);
        x.put(0, 0, 7);
        x.put(0, 1, 4);
        x.put(0, 39, 2);
        x.put(0, 5, -1);
        x.put(0, 6, 64);
        x.put(0, 7, 8);
        x.put(0, 8, FAR);
        x.put(0, 9, DEEP);
        x.put(0, 10, DEEP + 1);
        due("0, 2, 4; 7 wasn't POSSIBLE", x.worlds(0), 3);
        due("7 isn't", x.possible(7), 0);
        due("1 is no more", x.possible(1), 0);
        due("the last number counts", x.possible(2), 1);
        x.sheet(1, 8, 2);
        x.put(1, 0, 2);
        x.put(1, 1, 4);
        due("THE WORLD isn't among them", x.worlds(1), STATE);
        due("still three", x.count(4), 3);
        x.put(1, 0, 0);
        due("twice the same is once", x.worlds(1), 2);
        x.sheet(1, 8, 1);
        due("THE WORLD alone", x.worlds(1), 1);
        x.sheet(1, 0, 0);
        due("missing again", x.worlds(1), NONE);
        x.close();
        wear(x, 1);
        x.open();
        x.sheet(1, 8, 4);
        for (int i = 0; i < 4; i++) x.put(1, i, new int[] {1, 64, -64, 8}[i]);
        due("64 is not WORLD 0, nor is -64, or 8 of three MEN", x.worlds(1), 1);
        x.close();
        due("closed again", x.worlds(0), STATE);
        due("BEYOND ahead of STATE", x.worlds(4), BEYOND);
    }

    private static void image() {
        says("All (but SHEETS, THE TRACE, what told() tells, and how often this was done) is kept as an IMAGE, in place of one ahead: "
            + "how often that was done.");
        OtherHat x = new OtherHat();
        for (int i = 1; i <= 5; i++) due("how often", x.image(), i);
        x.restore();
        due("that isn't kept", x.image(), 6);
        x.man(15);
        x.image();
        x.man(0);
        x.sheet(0, 8, 1);
        x.voice(0, 3, 0);
        x.man(70);
        x.restore();
        due("the latest", x.count(0), 1);
        due("SHEETS are not kept", x.put(0, 0, 0), 1);
        due("nor is THE TRACE", x.count(8), 6);
        due("nor what told() tells", x.told(1), 1);
    }

    private static void restore() {
        says("All is as the IMAGE has it, which stays: BELL. NONE: there is none.");
        OtherHat x = men(10, 21);
        due("none", x.restore(), NONE);
        sees(x, 0, 0);
        text(x, 1, "h*50+t");
        text(x, 0, "b>0");
        wear(x, 1);
        x.open();
        x.bells(2);
        x.fine(9);
        x.seed(-5);
        x.tell(1);
        x.tell(1);
        feed(x, "b<");
        x.image();
        x.bells(30);
        x.close();
        x.man(0);
        x.become(0, 69);
        wear(x, 2);
        sees(x, 2, 1);
        text(x, 0, "7");
        x.text(0);
        text(x, 0, "7");
        text(x, 1, "8");
        x.fine(1);
        x.seed(1);
        x.check();
        for (int twice = 0; twice < 2; twice++) {
            due("BELL", x.restore(), 2);
            int[] due = {2, 1, 2, 1, 3, 9, 2, 2, 0, -5};
            for (int i = 0; i < due.length; i++) due("count(" + i + ")", x.count(i), due[i]);
            due("KIND", x.ofMan(0, 0), 1);
            due("m", x.ofMan(1, 1), 1);
            due("HAT", x.ofMan(0, 2) * 10 + x.ofMan(1, 2), 10);
            due("SEES", x.ofMan(0, 3), 0);
            due("PAID", x.ofMan(0, 4), 50);
            due("RULE", x.law(0, 0, 0, 0, 0) * 10 + x.law(0, 1, 0, 0, 0), 1);
            due("PAYS", x.law(1, 1, 7, 0, 0), 57);
            due("no MAN 2", x.ofMan(2, 0), BEYOND);
            due("the numbers that wait", x.check(), 0);
            x.feed('1', 1);
            due("THE TAPE", x.text(0), 1);
            due("its bytes", x.law(0, 0, 0, 0, 0), 1);
            x.become(1, 30);
            x.close();
        }
        x = new OtherHat();
        x.image();
        x.man(0);
        x.open();
        x.bells(3);
        due("BELL of one that was empty", x.restore(), 0);
        due("no MEN", x.count(0), 0);
        due("closed", x.count(1), 0);
        due("a MAN again", x.man(0), 0);
        due("he is new", x.ofMan(0, 3), 0);
    }

    private static void newMenBehindAnImage() {
        says("SEES (a set of other MEN, as bits; a new MAN SEES all the others, and all of them SEE him), PAID (0 at first).");
        OtherHat x = men(0);
        x.image();
        x.man(10);
        wear(x, 3);
        x.open();
        x.bells(1);
        x.close();
        due("he was paid", x.ofMan(1, 4), 15);
        x.restore();
        x.man(59);
        due("a new one isn't", x.ofMan(1, 4), 0);
        due("nor has he a black HAT", x.ofMan(1, 2), 0);
        due("his KIND", x.ofMan(1, 0), 5);
        due("he SEES the first", x.ofMan(1, 3), 1);
        due("the first SEES him", x.ofMan(0, 3), 2);
    }

    private static void tell() {
        says("One more number waits: how many. FULL: 20 wait.");
        OtherHat x = new OtherHat();
        for (int i = 1; i <= 20; i++) due("how many", x.tell(i % 2 == 0 ? DEEP : FAR), i);
        due("FULL", x.tell(0), FULL);
        due("20 wait", x.count(7), 20);
        x.check();
        due("room again", x.tell(0), 1);
    }

    private static void check() {
        says("The numbers that wait (none do then) are SPOKE behind 1, 2, .. BELLS AHEAD: 0; else 1 and the place (from 0) of the first "
            + "that isn't so. STATE (none wait then, too).");
        OtherHat x = opened("b>0", 3, 0, 0, 0);
        due("none wait", x.check(), 0);
        x.tell(0);
        due("one is so", x.check(), 0);
        due("none do then", x.count(7), 0);
        x.tell(1);
        due("the first isn't", x.check(), 1);
        due("none do then, too", x.count(7), 0);
        int[] spoke = {0, 3, 7};
        for (int i = 0; i < 20; i++) x.tell(spoke[Math.min(i, 2)]);
        due("twenty are", x.check(), 0);
        for (int i = 0; i < 20; i++) x.tell(i == 19 ? 3 : spoke[Math.min(i, 2)]);
        due("the twentieth isn't", x.check(), 20);
        for (int i = 0; i < 20; i++) x.tell(i == 4 || i == 9 ? -1 : spoke[Math.min(i, 2)]);
        due("the first of two", x.check(), 5);
        x.tell(7 + 64);
        due("one more bit", x.check(), 1);
        due("nothing rang", x.count(2) + x.count(3), 0);
        x.tell(0);
        x.tell(3);
        x.close();
        due("closed", x.check(), STATE);
        due("none wait then", x.count(7), 0);
        due("closed, none waited", x.check(), STATE);
        due("told", x.told(3), 2);
    }

    private static void count() {
        says("0 MEN, 1 1 if THE GATE is open, else 0, 2 BELL, 3 SPOKE, 4 how many WORLDS are POSSIBLE (0, if it is closed), 5 FINE, "
            + "6 bytes of THE TAPE, 7 numbers that wait, 8 BODIES in THE TRACE, 9 z (any number). BEYOND.");
        OtherHat x = sixOpen();
        for (int what : new int[] {-1, 10, DEEP, FAR}) due("what " + what, x.count(what), BEYOND);
        due("six", x.count(0), 6);
        due("open", x.count(1), 1);
        due("all 64", x.count(4), 64);
        x.close();
        due("closed", x.count(1), 0);
        due("none", x.count(4), 0);
        x.open();
        x.image();
        x.close();
        x.restore();
        due("64 by an IMAGE", x.count(4), 64);
        x.seed(NONE);
        due("z like an ERROR", x.count(9), NONE);
        due("that is none", x.told(2), 0);
    }

    private static void told() {
        says("How many acts have answered an ERROR LOW - k (k 1 .. 5); BEYOND: another k (counted, too).");
        OtherHat x = new OtherHat();
        for (int k = 1; k <= 5; k++) due("at first", x.told(k), 0);
        int many = 0;
        for (int k : new int[] {0, 6, -1, DEEP, FAR}) {
            due("k " + k, x.told(k), BEYOND);
            many++;
            due("counted", x.told(1), many);
        }
        x.restore();
        due("NONE", x.told(2), 1);
        x.close();
        due("STATE", x.told(3), 1);
        for (int i = 0; i < 22; i++) x.tell(0);
        due("FULL twice", x.told(4), 2);
        x.man(0);
        x.as(0, 4);
        due("KIND", x.told(5), 1);
        x.odds(0, 0);
        due("a long's", x.told(3), 2);
        x.text(0);
        due("a FAULT is none", x.told(1) + x.told(2) + x.told(3), many + 3);
    }

    public static void main(String[] args) {
        newObject();
        man();
        ofMan();
        tellMan();
        become();
        as();
        fine();
        feeding();
        texts();
        law();
        opening();
        closing();
        bells();
        loose();
        possible();
        thinks();
        then();
        thenPaid();
        when();
        silence();
        trick();
        longest();
        signal();
        bestSignal();
        look();
        odds();
        seed();
        voice();
        trace();
        sheet();
        put();
        move();
        worlds();
        image();
        restore();
        newMenBehindAnImage();
        tell();
        check();
        count();
        told();
        end();
    }
}
