/** The edges that the document's Terms name, sentence by sentence. */
public final class TermBoundaryTests extends Due {

    private static void manyCalls() {
        says("An object is used for at most 512 calls after it has been made; what later calls answer is free.");
        OtherHat x = new OtherHat();
        for (int i = 0; i < 511; i++) x.man(70);
        due("the 512th call", x.told(1), 511);
        x = new OtherHat();
        for (int i = 1; i < 512; i++) x.image();
        due("the 512th image", x.image(), 512);
    }

    // ---- ERRORS

    private static void errors() {
        says("ERRORS are answers below -1000000000: LOW is -1000000000; LOW - 1 BEYOND, LOW - 2 NONE, LOW - 3 STATE, LOW - 4 FULL, "
            + "LOW - 5 KIND (in longs, too).");
        OtherHat x = new OtherHat();
        due("BEYOND", x.fine(100), -1000000001L);
        due("NONE", x.restore(), -1000000002L);
        due("STATE", x.close(), -1000000003L);
        for (int i = 0; i < 20; i++) x.tell(0);
        due("FULL", x.tell(0), -1000000004L);
        x.man(0);
        due("KIND", x.as(0, 1), -1000000005L);
        due("BEYOND in a long", x.odds(1, 0), -1000000001L);
        due("STATE in a long", x.odds(0, 0), -1000000003L);

        says("Quotients are cut.");
        text(x, 0, "b/n");
        due("7 by 2", x.law(0, 7, 2, 0, 0), 3);
        due("-7 by 2", x.law(0, -7, 2, 0, 0), -3);
        due("7 by -2", x.law(0, 7, -2, 0, 0), -3);
        due("-7 by -2", x.law(0, -7, -2, 0, 0), 3);
        due("1 by 2", x.law(0, 1, 2, 0, 0), 0);
        due("-1 by 2", x.law(0, -1, 2, 0, 0), 0);
    }

    // ---- point 1

    private static void men() {
        says("MEN 0, 1, .. (at most 6), of KINDS");
        OtherHat x = new OtherHat();
        for (int i = 0; i < 6; i++) due("man", x.man(0), i);
        due("the seventh", x.man(0), FULL);
        due("six are there", x.count(0), 6);
        due("the last of them", x.ofMan(5, 0), 0);
        due("none behind", x.ofMan(6, 0), BEYOND);

        says("each with a number m (0 to 9)");
        for (int kind = 0; kind <= 6; kind++) {
            for (int m = 0; m <= 9; m++) {
                x.become(0, kind * 10 + m);
                due("kind", x.ofMan(0, 0), kind);
                due("m", x.ofMan(0, 1), m);
            }
        }
        due("above the last KIND", x.become(0, 70), BEYOND);
        due("below the first", x.become(0, -1), BEYOND);

        says("a HAT (0 white, 1 black; 0 at first)");
        for (int i = 0; i < 6; i++) due("at first", x.ofMan(i, 2), 0);
        due("none of 2", x.tellMan(0, 2, 2), BEYOND);
        due("none of -1", x.tellMan(0, 2, -1), BEYOND);
        due("black", x.tellMan(5, 2, 1), 0);
        due("white", x.tellMan(5, 2, 0), 1);

        says("SEES (a set of other MEN, as bits; a new MAN SEES all the others, and all of them SEE him)");
        for (int i = 0; i < 6; i++) due("of six", x.ofMan(i, 3), 63 & ~(1 << i));
        x = new OtherHat();
        x.man(0);
        due("the first sees nobody", x.ofMan(0, 3), 0);
        x.man(0);
        due("the second sees him", x.ofMan(1, 3), 1);
        sees(x, 0, 0);
        x.man(0);
        due("one that saw nobody sees the new one alone", x.ofMan(0, 3), 4);
        due("the other, too", x.ofMan(1, 3), 4);
        due("the new one sees both", x.ofMan(2, 3), 3);

        says("PAID (0 at first)");
        for (int i = 0; i < 3; i++) due("at first", x.ofMan(i, 4), 0);
    }

    private static void gate() {
        says("POSSIBLE: a set of WORLDS (of all MEN there are), those that all can think possible together; it is made as THE GATE opens");
        OtherHat x = new OtherHat();
        due("of no MEN: the empty one alone", x.open(), 1);
        x.close();
        for (int i = 1; i <= 6; i++) {
            x.man(0);
            due("of " + i, x.open(), 1 << i);
            x.close();
        }
        x.open();
        text(x, 0, "0");
        due("a RULE of later changes nothing", x.count(4), 64);
        x.close();
        due("it does at the next time", x.open(), STATE);

        says("as long as that is open no MAN comes, and no HAT, no SEES is told anew");
        x = men(0, 0);
        x.open();
        due("no MAN", x.man(0), STATE);
        due("no HAT", x.tellMan(0, 2, 1), STATE);
        due("not the same one", x.tellMan(0, 2, 0), STATE);
        due("no SEES", x.tellMan(0, 3, 0), STATE);
        due("not the same", x.tellMan(0, 3, 2), STATE);
        due("MEN stay", x.count(0), 2);
        due("the HAT stays", x.ofMan(0, 2), 0);
        due("SEES stays", x.ofMan(0, 3), 2);
        x.close();
        due("a HAT then", x.tellMan(0, 2, 1), 0);
        due("SEES then", x.tellMan(0, 3, 0), 2);
        due("a MAN then", x.man(0), 2);

        says("SPOKE: the MEN that have spoken (as bits; none at first). BELL (0 to 99; 0 at first).");
        x = opened("b=n", 63, 0, 0, 0, 0, 0, 0);
        due("none at first", x.count(3), 0);
        due("BELL at first", x.count(2), 0);
        due("all six", x.bells(9), 63);
        for (int i = 0; i < 3; i++) x.bells(30);
        due("BELL 99", x.count(2), 99);
        due("no more", x.bells(1), STATE);
        due("BELL stays 99", x.count(2), 99);

        says("THE GATE opens: POSSIBLE are all WORLDS for which RULE (a TEXT) gives another number than 0; SPOKE is empty, BELL is 0.");
        x.close();
        due("SPOKE stays till then", x.count(3), 63);
        due("BELL stays till then", x.count(2), 99);
        due("it opens again", x.open(), 1);
        due("SPOKE is empty", x.count(3), 0);
        due("BELL is 0", x.count(2), 0);
        x = men(0, 0);
        text(x, 0, "b-1");
        due("-1 and 1 are others than 0, 0 is not", x.open(), 2);
        due("none black", x.possible(0), 1);
        due("both black", x.possible(3), 1);
        due("one black", x.possible(1) + x.possible(2), 0);

        says("It closes by hand.");
        x = opened("b=n", 1, 0);
        x.bells(1);
        due("all have spoken, it is open", x.count(1), 1);
        x.bells(30);
        x.bells(30);
        x.bells(30);
        x.bells(8);
        due("at BELL 99, too", x.count(1), 1);
        due("by hand", x.close(), 1);
        due("it is closed", x.count(1), 0);
    }

    /** MAN 0 errs at a LOOSE BELL, so that THE WORLD, 1, isn't POSSIBLE: 2 alone is. MAN 2 is SILENT. */
    private static OtherHat lost() {
        OtherHat x = men(10, 30, 30);
        sees(x, 2, 4, 2);
        text(x, 0, "b<2&!l");
        wear(x, 1);
        x.open();
        x.seed(0);
        x.loose(1);
        return x;
    }

    private static void thinking() {
        says("WHAT ONE THINKS in a WORLD: those POSSIBLE WORLDS that are like it in all MEN he SEES.");
        OtherHat x = men(0, 0, 0, 0, 0, 0);
        sees(x, 0, 61, 1);
        wear(x, 36);
        x.open();
        due("who sees nobody: all", x.thinks(0, 0) * 100 + x.thinks(0, 1), 3232);
        due("who sees all: two", x.thinks(1, 0) * 100 + x.thinks(1, 1), 101);
        due("who sees one: half", x.thinks(2, 0) * 100 + x.thinks(2, 1), 1616);
        only(x, 36);
        due("one is POSSIBLE, he is white", x.thinks(0, 0) * 100 + x.thinks(0, 1), 1);
        due("one is POSSIBLE, he is black", x.thinks(2, 0) * 100 + x.thinks(2, 1), 100);

        says("He KNOWS, if one of both, or each, is 0.");
        due("BLACK is 0", x.thinks(0, 2), 1);
        due("WHITE is 0", x.thinks(2, 2), 1);
        x = lost();
        due("THE WORLD is not POSSIBLE", x.possible(1), 0);
        due("BLACK", x.thinks(2, 0), 0);
        due("WHITE", x.thinks(2, 1), 0);
        due("each is 0", x.thinks(2, 2), 1);
        x = men(0);
        x.open();
        due("1 and 1", x.thinks(0, 2), 0);

        says("He WOULD SAY black, if BLACK is WHITE or more, else white.");
        due("as many", x.thinks(0, 3), 1);
        due("none of both", lost().thinks(2, 3), 1);
        x = men(0, 0);
        sees(x, 0);
        text(x, 0, "b<2");
        x.open();
        due("one fewer", x.thinks(0, 3), 0);
        x.close();
        text(x, 0, "b>0");
        wear(x, 1);
        x.open();
        due("one more", x.thinks(0, 3), 1);
    }

    private static void speaking() {
        says("SPEAKS in a WORLD (one that has not spoken): MAN: he KNOWS.");
        OtherHat x = opened("b=n", 1, 0);
        due("he does", x.thinks(0, 4), 1);
        x.bells(1);
        due("not again", x.thinks(0, 4), 0);
        int paid = x.ofMan(0, 4);
        x.bells(5);
        due("nor is he paid again", x.ofMan(0, 4), paid);
        due("a MAN that doesn't know", opened("1", 0, 9).thinks(0, 4), 0);
        hasty();
        slowOnes();
        last();
        blind();
    }

    /** MAN 0 sees nobody; of the POSSIBLE WORLDS so many give him a black HAT, so many a white one. */
    private static OtherHat shares(int km, int black, int white) {
        OtherHat x = men(km, 30, 30, 30, 30, 30);
        sees(x, 0);
        x.tellMan(0, 2, black > 0 ? 1 : 0);
        x.open();
        int[] worlds = new int[black + white];
        for (int i = 0; i < black; i++) worlds[i] = 2 * i + 1;
        for (int i = 0; i < white; i++) worlds[black + i] = 2 * i;
        due("so many are POSSIBLE", only(x, worlds), black + white);
        return x;
    }

    private static void hasty() {
        says("HASTY: he KNOWS, or one of BLACK, WHITE is more than m times the other.");
        due("9 by 9 to 1", shares(19, 9, 1).thinks(0, 4), 0);
        due("9 by 10 to 1", shares(19, 10, 1).thinks(0, 4), 1);
        due("9 by 1 to 9", shares(19, 1, 9).thinks(0, 4), 0);
        due("9 by 1 to 10", shares(19, 1, 10).thinks(0, 4), 1);
        due("2 by 6 to 3", shares(12, 6, 3).thinks(0, 4), 0);
        due("2 by 7 to 3", shares(12, 7, 3).thinks(0, 4), 1);
        due("2 by 3 to 7", shares(12, 3, 7).thinks(0, 4), 1);
        due("1 by 1 to 1", shares(11, 1, 1).thinks(0, 4), 0);
        due("1 by 2 to 1", shares(11, 2, 1).thinks(0, 4), 1);
        due("0 by 1 to 1", shares(10, 1, 1).thinks(0, 4), 1);
        due("9 by 1 to 0", shares(19, 1, 0).thinks(0, 4), 1);
        due("9 by 0 to 1", shares(19, 0, 1).thinks(0, 4), 1);
        due("the last of six, 1 by 1 to 1", opened("1", 0, 30, 30, 30, 30, 30, 11).thinks(5, 4), 0);
        due("the last of six, 0 by 1 to 1", opened("1", 0, 30, 30, 30, 30, 30, 10).thinks(5, 4), 1);
        OtherHat x = lost();
        x.become(1, 19);
        due("9 by 0 to 0", x.thinks(1, 4), 1);
    }

    private static void slowOnes() {
        says("SLOW: as MAN, but not while BELL is below m.");
        due("0 at once", opened("b=n", 1, 20).bells(1), 1);
        OtherHat x = opened("b=n", 1, 29);
        due("9 not while BELL is 8", x.bells(9), 0);
        due("9 at BELL 9", x.bells(1), 1);
        due("who doesn't know, never", opened("1", 0, 20).bells(30), 0);

        says("SILENT: never.");
        due("who knows", opened("b=n", 1, 30).bells(30), 0);
        due("who knows, with 9", opened("b=n", 1, 39).bells(30), 0);

        says("BOLD: as HASTY, or BELL is m or more.");
        due("0 at once", opened("1", 0, 40).bells(1), 1);
        x = opened("1", 0, 49);
        due("9 not while BELL is 8", x.bells(9), 0);
        due("9 at BELL 9", x.bells(1), 1);
        due("who knows, ahead of it", opened("b=n", 1, 49).bells(1), 1);
        due("9 by 9 to 1", shares(49, 9, 1).thinks(0, 4), 0);
        due("9 by 10 to 1", shares(49, 10, 1).thinks(0, 4), 1);
        x = opened("1", 0, 49);
        x.bells(2);
        x.become(0, 41);
        due("he became one of a smaller m", x.bells(1), 1);
    }

    private static void last() {
        says("LAST: as SLOW, and all he SEES have spoken.");
        due("who sees nobody", opened("b=n", 1, 50).bells(1), 1);
        OtherHat x = opened("b=n", 1, 52);
        due("2 not while BELL is 1", x.bells(2), 0);
        due("2 at BELL 2", x.bells(1), 1);
        due("two that see each other", opened("b=n", 3, 50, 50).bells(30), 0);
        due("one that he sees is SILENT", opened("b=n", 7, 50, 0, 30).bells(30), 2);
        x = opened("b=n", 7, 50, 0, 0);
        due("both speak at this BELL", x.bells(1), 6);
        due("so he does at the next", x.bells(1), 7);
        x = men(50, 0, 30);
        sees(x, 2, 0, 0);
        text(x, 0, "b=n");
        wear(x, 7);
        x.open();
        x.bells(1);
        due("whom he doesn't see doesn't matter", x.bells(1), 3);
        x = men(50, 40);
        text(x, 0, "1");
        x.open();
        x.bells(1);
        due("all have, but he doesn't know", x.bells(30), 2);
    }

    private static void blind() {
        says("BLIND: he KNOWS as he would if he saw nobody (what he says is by those he SEES).");
        OtherHat x = opened("b=1", 1, 60, 30);
        due("by what he sees he knows", x.thinks(0, 2), 1);
        due("he doesn't speak", x.thinks(0, 4), 0);
        due("never", x.bells(30), 0);
        due("who would know seeing nobody", opened("b=n", 3, 69, 30).bells(1), 1);
        // All that is POSSIBLE gives MAN 2 a white HAT; by what he SEES nothing is, so he says black.
        x = lost();
        x.become(2, 60);
        due("he speaks", x.thinks(2, 4), 1);
        due("he would say black", x.thinks(2, 3), 1);
        due("he does", x.bells(1), 5);
        due("that is wrong", x.ofMan(2, 4), -3);
    }

    private static void ringing() {
        says("(by POSSIBLE, SPOKE, BELL as they are ahead of it)");
        OtherHat x = opened("b>0", 1, 0, 0);
        due("the second learns it by this BELL", x.bells(1), 1);
        due("so he speaks at the next", x.bells(1), 3);
        x = men(20);
        text(x, 0, "b=n");
        text(x, 1, "t*10+c");
        wear(x, 1);
        x.open();
        x.bells(1);
        due("t is BELL ahead of it", x.ofMan(0, 4), 1);

        says("POSSIBLE are those WORLDS then, of the ones ahead, in which just these SPEAK and say just that");
        x = opened("b<n", 0, 0, 0, 0);
        due("nobody", x.bells(1) * 10 + x.count(4), 4);
        due("nobody still: WORLD 0 is left", x.bells(1) * 10 + x.count(4), 1);
        due("all", x.bells(1) * 10 + x.count(4), 71);

        says("(if there is none such, POSSIBLE stays as it is)");
        x = opened("b=n", 3, 0, 0);
        x.seed(0);
        x.loose(1);
        due("one erred: no WORLD has that", x.ofMan(0, 4), -3);
        due("it stays", x.count(4), 1);
        due("as it was", x.possible(3), 1);
        x = lost();
        x.become(2, 0);
        due("a BELL when THE WORLD is lost", x.bells(1), 5);
        due("none such: it stays", x.count(4) * 10 + x.possible(2), 11);

        says("whoever said his HAT rightly has PAID more by what PAYS gives, whoever didn't has FINE less (held within -99999 to 99999).");
        paying();

        says("BELL is 1 more.");
        x = opened("1", 0, 0);
        x.bells(1);
        due("one", x.count(2), 1);
        x.loose(1);
        due("two", x.count(2), 2);
        x.bells(30);
        due("thirty-two", x.count(2), 32);
    }

    private static void payOnce(OtherHat x) {
        x.open();
        x.bells(1);
        x.close();
    }

    /** A HASTY one alone, who always says black. */
    private static void paying() {
        OtherHat x = men(10);
        text(x, 1, "999");
        wear(x, 1);
        for (int i = 0; i < 100; i++) payOnce(x);
        due("a hundred times 999", x.ofMan(0, 4), 99900);
        x.open();
        due("held AHEAD, too", x.thenPaid(1, 0), 99999);
        x.bells(1);
        x.close();
        due("held", x.ofMan(0, 4), 99999);
        payOnce(x);
        due("still held", x.ofMan(0, 4), 99999);
        wear(x, 0);
        payOnce(x);
        due("FINE less", x.ofMan(0, 4), 99996);
        x.fine(0);
        payOnce(x);
        due("no FINE", x.ofMan(0, 4), 99996);
        // No run of 512 calls comes down so far; the class holds it there all the same.
        x = men(10);
        x.fine(99);
        for (int i = 0; i < 1010; i++) payOnce(x);
        due("a thousand and ten FINES", x.ofMan(0, 4), -99990);
        payOnce(x);
        due("held below", x.ofMan(0, 4), -99999);
        payOnce(x);
        due("still held below", x.ofMan(0, 4), -99999);
    }

    // ---- point 2

    private static void fault(String text, int place) {
        due(text, text(new OtherHat(), 0, text), -10 - place);
    }

    private static void gives(String text, int value) {
        OtherHat x = new OtherHat();
        due(text + " is one", text(x, 0, text), 1);
        due(text, x.law(0, 0, 0, 0, 0), value);
    }

    private static void texts() {
        says("TEXTS are read from THE TAPE (bytes, at most 50)");
        OtherHat x = new OtherHat();
        StringBuilder ones = new StringBuilder("1");
        while (ones.length() < 49) ones.append("+1");
        due("49 bytes", text(x, 0, ones.toString()), 1);
        due("25 ones", x.law(0, 0, 0, 0, 0), 25);
        feed(x, ones.toString());
        due("the fiftieth", x.feed('0', 1), 50);
        due("the fifty-first", x.feed('0', 1), FULL);
        due("50 bytes", x.text(0), 1);
        due("24 ones and 10", x.law(0, 0, 0, 0, 0), 34);

        says("T: A { | A }. A: B { & B }. B: S, or S < S, S = S, S > S. S: P { + P, - P }. P: Q { * Q, / Q, % Q }.");
        gives("7", 7);
        gives("0|0|0|7", 1);
        gives("0|0|0", 0);
        gives("1&1&0&1", 0);
        gives("0&0|1", 1);
        gives("1|1&0", 1);
        gives("1<2", 1);
        gives("9-3-2+1", 5);
        gives("2*3/4*5%3", 2);
        for (String sign : new String[] {"|", "&", "<", "=", ">", "+", "-", "*", "/", "%"}) {
            fault(sign + "1", 0);
            fault("1" + sign, 2);
            fault("1" + sign + sign + "1", 2);
        }
        for (String first : new String[] {"<", "=", ">"}) {
            for (String second : new String[] {"<", "=", ">"}) {
                fault("1" + first + "2" + second + "3", 3);
                gives("(1" + first + "1)" + second + "9", second.equals("<") ? 1 : 0);
                due("another one behind & may", text(new OtherHat(), 0, "1" + first + "2&3" + second + "4"), 1);
            }
        }

        says("Q: a NUMBER of 1 to 4 digits, a NAME, ! Q, ( T ). No blanks.");
        gives("0", 0);
        gives("9", 9);
        gives("9999", 9999);
        gives("0009", 9);
        fault("10000", 4);
        fault("00000", 4);
        fault("1+12345", 6);
        fault("()", 1);
        fault(")", 0);
        fault("(1", 2);
        fault("1)", 1);
        fault("(1))", 3);
        fault("!", 1);
        fault("1!", 1);
        fault("(1)(1)", 3);
        fault("b1", 1);
        fault("1b", 1);
        fault("bn", 1);
        fault(" 1", 0);
        fault("1 ", 1);
        fault("1+ 1", 2);
        fault("B", 0);
        for (int sign : new int[] {0, 10, 32, 47, 58, 127, 128, 176, 226, 255}) {
            OtherHat y = new OtherHat();
            y.feed(sign, 1);
            due("byte " + sign, y.text(0), -10);
            feed(y, "1");
            y.feed(sign == 47 ? 46 : sign, 1);
            due("byte " + sign + " behind a digit", y.text(0), -11);
        }
        nested();
    }

    private static void nested() {
        says("At most 5 of ! and ( are open at once.");
        gives("(((((7)))))", 7);
        gives("!!!!!7", 0);
        gives("!(!(!7))", 0);
        fault("((((((7))))))", 5);
        fault("!!!!!!7", 5);
        fault("(!(!(!7", 5);
        fault("!(!(!(7", 5);
        fault("(((((!7", 5);
        fault("!!!!!(7", 5);
        gives("(((((1)))))+(((((2)))))", 3);
        gives("!!!!!1+!!!!!0+!!!!!1", 1);
        gives("((((!1+!1+(2)))))", 2);
        gives("((((!1))))*((((!0))))", 0);
        fault("((((!1+!!1))))", 8);

        says("Ints that wrap; / cut, % the rest that it leaves, both by 0 are 0; | & < = > ! are 1 or 0, what is not 0 being true; "
            + "all is worked out.");
        OtherHat x = new OtherHat();
        text(x, 0, "b+n");
        due("above the greatest", x.law(0, FAR, 1, 0, 0), DEEP);
        text(x, 0, "b-n");
        due("below the least", x.law(0, DEEP, 1, 0, 0), FAR);
        text(x, 0, "b*n");
        due("twice the greatest", x.law(0, FAR, 2, 0, 0), -2);
        due("the least by -1", x.law(0, DEEP, -1, 0, 0), DEEP);
        gives("9999*9999*9999", 9999 * 9999 * 9999);
        text(x, 0, "b/n");
        due("the least, parted by -1", x.law(0, DEEP, -1, 0, 0), DEEP);
        due("by 0", x.law(0, 7, 0, 0, 0), 0);
        due("0 by 0", x.law(0, 0, 0, 0, 0), 0);
        text(x, 0, "b%n");
        due("rest of -7 by 3", x.law(0, -7, 3, 0, 0), -1);
        due("rest of 7 by -3", x.law(0, 7, -3, 0, 0), 1);
        due("rest of the least by -1", x.law(0, DEEP, -1, 0, 0), 0);
        due("rest by 0", x.law(0, 7, 0, 0, 0), 0);
        text(x, 0, "!b*1000+(b&n)*100+(b|n)*10+!!b");
        due("-5 is true", x.law(0, -5, 0, 0, 0), 11);
        due("0 is not", x.law(0, 0, DEEP, 0, 0), 1010);
        due("both are", x.law(0, 2, 4, 0, 0), 111);
        text(x, 0, "(b<n)*100+(b=n)*10+(b>n)");
        due("the least and the greatest", x.law(0, DEEP, FAR, 0, 0), 100);
        due("the greatest and the least", x.law(0, FAR, DEEP, 0, 0), 1);
        due("the same", x.law(0, DEEP, DEEP, 0, 0), 10);
        gives("1|1/0", 1);
        gives("0&1/0", 0);

        says("FAULT: the place of the first byte with which no TEXT, however long, goes on; how many there are, if it ends too early.");
        fault("", 0);
        fault("x", 0);
        fault("1+x+x", 2);
        fault("1+", 2);
        fault("((((1", 5);
        StringBuilder long50 = new StringBuilder();
        while (long50.length() < 50) long50.append("1+");
        fault(long50.toString(), 50);
        fault(long50.substring(0, 49) + "x", 49);
        fault(long50.substring(0, 48) + "((", 50);
        fault(long50.substring(0, 48) + "!!", 50);
    }

    private static void uses() {
        says("0 RULE, NAMES b how many HATS are black, n how many MEN, f the HAT of MAN 0, l that of the last MAN; without a TEXT 1.");
        OtherHat x = new OtherHat();
        due("without one", x.law(0, 0, 0, 0, 0), 1);
        text(x, 0, "!b&!n&!f&!l");
        due("no MEN: each is 0", x.open(), 1);
        x = men(0);
        text(x, 0, "f=l&f=b&n=1");
        due("the first is the last one", x.open(), 2);
        x = men(0, 0, 0, 0, 0, 0);
        text(x, 0, "f&!l&b=5&n=6");
        wear(x, 31);
        due("all but the last", x.open(), 1);
        due("no other", x.possible(31), 1);
        x.close();
        text(x, 0, "l&!f&b=1");
        wear(x, 32);
        due("the last alone", x.open(), 1);
        due("no other one", x.possible(32), 1);
        due("a name of PAYS", text(x, 0, "h"), -10);
        due("another", text(x, 0, "b+t"), -12);
        due("the third", text(x, 0, "(c"), -11);

        says("1 PAYS, NAMES h his HAT, t BELL, c how many SPEAK in it; held within 0 to 999; without h*10+5-t, held, too.");
        due("without one", x.law(1, 1, 0, 0, 0), 15);
        due("just 0", x.law(1, 0, 5, 0, 0), 0);
        due("below 0", x.law(1, 0, 6, 0, 0), 0);
        due("999", x.law(1, 100, 6, 0, 0), 999);
        due("1000", x.law(1, 100, 5, 0, 0), 999);
        due("it wraps first", x.law(1, 0, DEEP, 0, 0), 0);
        for (String name : new String[] {"b", "n", "f", "l"}) due("a name of RULE", text(x, 1, name), -10);
        text(x, 1, "h-t");
        due("-1", x.law(1, 0, 1, 0, 0), 0);
        due("0", x.law(1, 0, 0, 0, 0), 0);
        due("1", x.law(1, 1, 0, 0, 0), 1);
        due("999", x.law(1, 999, 0, 0, 0), 999);
        due("1000", x.law(1, 1000, 0, 0, 0), 999);
        due("the least", x.law(1, DEEP, 0, 0, 0), 0);
        due("the greatest", x.law(1, FAR, 0, 0, 0), 999);
        int[] due = {5, 4, 3, 2, 1, 0, 0, 0};
        for (int m = 0; m < due.length; m++) {
            x = opened("!b", 0, 20 + m);
            x.bells(m + 1);
            due("a white HAT at BELL " + m, x.ofMan(0, 4), due[m]);
        }
        x = opened("b=n", 63, 0, 0, 0, 0, 0, 30);
        text(x, 1, "c");
        x.bells(1);
        due("five SPEAK", x.ofMan(0, 4), 5);
        due("the SILENT one is not paid", x.ofMan(5, 4), 0);
    }

    // ---- point 3

    private static void atBell99(OtherHat x) {
        for (int i = 0; i < 3; i++) x.bells(30);
        x.bells(9);
    }

    private static void ahead() {
        says("AHEAD by n (0 to 30) BELLS: as if so many rang (beyond BELL 99, too).");
        OtherHat x = opened("b>0", 7, 0, 0, 0);
        due("by 0", x.then(0, 1), 7);
        due("by 30", x.then(30, 0), 7);
        due("by 31", x.then(31, 0), BEYOND);
        due("by -1", x.then(-1, 0), BEYOND);
        x = opened("b=n", 3, 30, 50);
        text(x, 1, "t");
        atBell99(x);
        x.become(0, 20);
        due("the first at BELL 99", x.then(1, 0), 1);
        due("the second at BELL 100", x.then(2, 0), 3);
        due("his t is 100", x.thenPaid(2, 1), 100);
        due("WHEN", x.when(1), 2);
        due("SILENCE", x.silence(0, 2), 1);
        due("TRICK", x.trick(2, 1), 2);
        due("LONGEST", x.longest(), 2);
        x.tell(1);
        x.tell(3);
        due("numbers that wait", x.check(), 0);
        due("BELL stays", x.count(2), 99);
        due("nobody spoke", x.count(3), 0);
    }

    /** The bits of this are the POSSIBLE WORLDS of a long run. */
    private static final long LONG = 0xb55ba6556b6975fbL;

    /** MAN 3 speaks behind 31 BELLS, MAN 0 behind 30; found by trying many. */
    private static OtherHat longRun(int seenBy0, int seenBy3) {
        OtherHat x = men(53, 29, 4, 52, 29, 29);
        sees(x, seenBy0, 57, 10, seenBy3, 46, 21);
        wear(x, 36);
        x.open();
        int[] worlds = new int[Long.bitCount(LONG)];
        int many = 0;
        for (int w = 0; w < 64; w++) if ((LONG >>> w & 1L) == 1L) worlds[many++] = w;
        due("POSSIBLE", only(x, worlds), 39);
        return x;
    }

    private static void when() {
        says("WHEN of a MAN: behind how many BELLS from now he has spoken (0: he has; 1 to 30).");
        OtherHat x = longRun(36, 7);
        due("30", x.when(0), 30);
        due("31", x.when(3), NONE);
        due("never", x.when(4), NONE);
        due("by 29", x.then(29, 0), 38);
        due("by 30", x.then(30, 0), 39);
        due("LONGEST is no more than 30", x.longest(), 30);
        due("they ring", x.bells(1), 0);
        due("29 now", x.when(0), 29);
        due("30 now", x.when(3), 30);
        due("29 ring", x.bells(28), 38);
        due("1", x.when(0), 1);
        due("2", x.when(3), 2);
        due("he speaks", x.bells(1), 39);
        due("0", x.when(0), 0);
        due("LONGEST now", x.longest(), 1);
        due("he speaks, too", x.bells(1), 47);
        due("0, too", x.when(3), 0);
        due("LONGEST at last", x.longest(), 0);
    }

    private static void silence() {
        says("SILENCE of a MAN by n: how many fewer of the others (those that have already count, too) have spoken AHEAD by n, "
            + "if he were of KIND SILENT from now on (and all knew it; may be below 0).");
        OtherHat x = opened("b>0", 3, 0, 0, 0);
        due("by 0", x.silence(0, 0), 0);
        due("by 1", x.silence(0, 1), 0);
        due("by 2: the other black one", x.silence(0, 2), 1);
        due("by 3: the white one, too", x.silence(0, 3), 2);
        due("by 30", x.silence(0, 30), 2);
        x.bells(2);
        due("who has spoken is not silenced", x.silence(0, 30), 0);
        due("two that have count in both", x.silence(2, 30), 0);
        x = opened("b=n", 1, 0);
        due("he himself doesn't count", x.silence(0, 30), 0);
        // MAN 1 says white, and so lets all know what MAN 2 would have told alone: MAN 0 never hears of himself.
        x = men(60, 10, 21);
        sees(x, 0, 4, 1);
        wear(x, 5);
        x.open();
        due("four are left", only(x, 0, 2, 4, 5), 4);
        due("by 2", x.silence(1, 2), 0);
        due("one more speaks", x.silence(1, 3), -1);
        due("at last", x.silence(1, 30), -1);
        due("all with him", x.then(30, 0), 6);
        x.become(1, 30);
        due("all without him", x.then(30, 0), 5);
    }

    private static void tricks() {
        says("TRICK by n: of all WORLDS that are POSSIBLE now, that by which, if it were THE WORLD, fewest have spoken AHEAD by n; "
            + "of several the least.");
        OtherHat x = opened("b>0", 4, 0, 0, 0);
        due("by 0 all alike: the least POSSIBLE", x.trick(0, 0), 1);
        due("none have", x.trick(0, 1), 0);
        due("by 1: the least with two", x.trick(1, 0), 3);
        due("by 2", x.trick(2, 0), 7);
        due("by 30 all alike", x.trick(30, 0), 1);
        due("all have", x.trick(30, 1), 3);
        x.bells(1);
        due("one is POSSIBLE: that one", x.trick(30, 0), 4);
        due("one has spoken", x.trick(0, 1), 1);
        x = opened("b=n", 63, 0, 0, 0, 0, 0, 0);
        due("the greatest WORLD", x.trick(1, 0), 63);
        due("six", x.trick(1, 1), 6);
        x = lost();
        due("the WORLD that is POSSIBLE, not THE WORLD", x.trick(0, 0), 2);
        x = new OtherHat();
        x.open();
        due("no MEN", x.trick(30, 0), 0);
        due("nobody", x.trick(30, 1), 0);

        says("LONGEST: the greatest number of BELLS (0 to 30) behind which, in some POSSIBLE WORLD, somebody speaks (0: nobody ever).");
        due("no MEN", x.longest(), 0);
        due("nobody ever", opened("1", 0, 0, 0).longest(), 0);
        due("at once", opened("b=n", 1, 0).longest(), 1);
        due("in WORLD 0 alone", opened("!b", 0, 0).longest(), 1);
        due("not in THE WORLD", opened("b>0", 1, 0, 0, 0).longest(), 3);
        x = opened("b=n", 3, 0, 0);
        x.bells(1);
        due("all have", x.longest(), 0);
        due("30, in a run of 31", longRun(36, 7).longest(), 30);
    }

    private static void signals() {
        says("A SIGNAL of a MAN: whether he sees an even number of black HATS in a set of MEN he SEES: POSSIBLE were those WORLDS of the "
            + "ones now that are like THE WORLD in that (perhaps none).");
        OtherHat x = opened("1", 5, 0, 0, 0);
        due("of nobody: 0 is even, all stay", x.signal(0, 0), 0);
        due("of one", x.signal(0, 2), 1);
        due("of two", x.signal(0, 6), 2);
        x = opened("b=n", 7, 0, 30, 0);
        due("of nobody: who knows now does then", x.signal(0, 0), 3);
        x = men(0, 0);
        sees(x, 2, 0);
        wear(x, 2);
        x.open();
        due("an odd number: no WORLD of an even one stays", x.signal(0, 2), 1);
        x = men(10, 30, 30);
        sees(x, 2, 0, 0);
        wear(x, 1);
        x.open();
        only(x, 0, 1, 2, 6);
        x.seed(0);
        x.loose(1);
        due("MAN 0 erred: two are POSSIBLE in which MAN 1 is black", x.count(4) * 10 + x.possible(2) + x.possible(6), 22);
        due("MAN 2 doesn't know", x.signal(0, 0), 2);
        due("none are then: he KNOWS, too", x.signal(0, 2), 3);
        due("they stay", x.count(4), 2);

        says("BEST SIGNAL: the set by which most MEN (those that have spoken, too) would KNOW in THE WORLD (by what they SEE, of any KIND); "
            + "of several the least.");
        x = opened("1", 5, 40, 30, 60);
        due("both, of whatever KIND", x.bestSignal(0, 0), 6);
        due("two", x.bestSignal(0, 1), 2);
        x.bells(1);
        due("one has spoken", x.count(3), 1);
        due("of one that sees him", x.bestSignal(1, 0), 5);
        due("he counts, too", x.bestSignal(1, 1), 2);
        x = opened("b=n", 7, 0, 0, 0);
        due("all alike: the least, of nobody", x.bestSignal(0, 0), 0);
        due("three", x.bestSignal(0, 1), 3);
        x = men(0, 0);
        sees(x, 0, 0);
        x.open();
        due("who sees nobody", x.bestSignal(0, 0), 0);
        due("nobody knows", x.bestSignal(0, 1), 0);
    }

    private static void looks() {
        says("A LOOK of a MAN: if he also SAW another one (and all knew it), with POSSIBLE as it is: WHEN he speaks then. BEST LOOK: "
            + "the other one (whom he doesn't SEE) by whom that is soonest; of several the least.");
        due("by 30, not by 31", longRun(36, 6).look(3), 5);
        due("by 30 twice: the least", longRun(4, 7).look(0), 1);
        due("by 31 alone", longRun(36, 5).look(3), NONE);
        OtherHat x = men(40, 0, 0, 0, 0, 0);
        sees(x, 0);
        x.open();
        due("all alike: the least", x.look(0), 1);
        x.bells(1);
        due("who has spoken: 0 by each", x.look(0), 1);
        x = men(0, 0, 0, 0, 0, 0);
        sees(x, 30);
        text(x, 0, "f=l");
        x.open();
        due("one is left to look at, the last", x.look(0), 5);
        due("he sees as he did", x.ofMan(0, 3), 30);
        x = men(0, 0, 0);
        sees(x, 2, 0, 3);
        text(x, 0, "f=l");
        x.open();
        due("the first isn't himself", x.look(0), 2);
        due("by none", x.look(1), NONE);
        due("sees all", x.look(2), NONE);
        x.close();
        sees(x, 2, 0, 0);
        x.open();
        due("MAN 0 tells the last his own", x.look(2), 0);
    }

    private static void oddsAndDraws() {
        says("ODDS of a MAN: BLACK by BLACK and WHITE together, in THE WORLD: in lowest terms (0 by 1).");
        OtherHat x = shares(0, 6, 3);
        due("6 by 9", x.odds(0, 0) * 100 + x.odds(0, 1), 203);
        x = shares(0, 3, 4);
        due("3 by 7", x.odds(0, 0) * 100 + x.odds(0, 1), 307);
        x = shares(0, 5, 0);
        due("5 by 5", x.odds(0, 0) * 100 + x.odds(0, 1), 101);
        x = shares(0, 0, 5);
        due("0 by 5", x.odds(0, 0) * 100 + x.odds(0, 1), 1);
        x = lost();
        due("0 by 0", x.odds(2, 0) * 100 + x.odds(2, 1), 1);
        x = men(0, 0, 0, 0, 0, 0);
        sees(x, 0);
        x.open();
        due("32 by 64", x.odds(0, 0) * 100 + x.odds(0, 1), 102);

        says("DRAWS: z is told (1 at first); each makes it z * 1103515245 + 12345 (an int), and gives z >>> 8.");
        x = new OtherHat();
        due("1 at first", x.seed(1), 1);
        x = opened("b=n", 1, 0);
        x.loose(1);
        due("of 1", x.count(9), 1103515245 + 12345);
        for (int z : new int[] {0, -1, FAR, DEEP, 7}) {
            x = opened("b=n", 1, 0);
            x.seed(z);
            x.loose(1);
            due("of " + z, x.count(9), z * 1103515245 + 12345);
        }

        says("A LOOSE BELL: as a BELL, but each who SPEAKS draws first (by numbers): if its rest by 8 is 0, he says the other one of both; "
            + "all think as if nobody erred (POSSIBLE comes of what was said as told).");
        draws();
    }

    private static void draws() {
        OtherHat x = opened("1", 0, 0);
        x.loose(30);
        due("nobody SPEAKS, nobody draws", x.count(9), 1);
        x = opened("b=n", 1, 30);
        x.loose(1);
        due("nor does a SILENT one", x.count(9), 1);
        boolean[] seen = new boolean[8];
        for (int z = 0; z < 40; z++) {
            int rest = (z * 1103515245 + 12345 >>> 8) % 8;
            seen[rest] = true;
            x = opened("b=n", 1, 0);
            x.seed(z);
            x.loose(1);
            due("with a rest of " + rest, x.ofMan(0, 4), rest == 0 ? -3 : 15);
        }
        for (int rest = 0; rest < 8; rest++) due("a rest of " + rest + " was there", seen[rest] ? 1 : 0, 1);
        // The first draw from 0 errs, the second doesn't.
        x = opened("b=n", 3, 30, 0);
        x.seed(0);
        x.loose(1);
        due("who doesn't SPEAK draws none: the other errs", x.ofMan(1, 4), -3);
        x = opened("b=n", 3, 0, 0);
        x.seed(0);
        x.loose(1);
        due("by numbers: the first errs", x.ofMan(0, 4), -3);
        due("the second doesn't", x.ofMan(1, 4), 15);
        x = lost();
        due("what was said is believed", x.possible(2) * 10 + x.possible(1), 10);
        x = opened("b=n", 3, 0, 0);
        x.seed(0);
        x.loose(30);
        due("each draws once, whatever rings then", x.count(9), 12345 * 1103515245 + 12345);
    }

    /** Each VOICE of each KIND, all that is called within it written out. */
    private static int heard(int kind, int act, int x, int n, int m) {
        boolean isSlow = kind == 2 || kind == 5;
        int looks = isSlow ? (x + n) * 3 : x + n;
        int thinks = kind == 1 ? (x + n) * 2 - (1 - m) : kind == 4 ? (x + 1 + n) * 2 - (1 - m) : looks * 2;
        int says = kind == 3 ? -(x - m) : kind == 6 ? -(x - m) ^ n : x - m;
        int tells = thinks ^ says;
        if (kind == 5) tells = tells - (2 + n) * 3;
        if (kind == 6) tells = thinks - tells;
        return new int[] {looks, thinks, says, tells}[act];
    }

    private static void bodies() {
        OtherHat x = men(0, 0, 0, 0, 0, 0);
        int[] numbers = {0, 1, 7, -100, FAR, FAR - 4, DEEP, DEEP + 9, 0x55555555};
        for (int km = 0; km < 70; km++) {
            for (int n = 0; n < 6; n += 5) {
                x.become(n, km);
                for (int act = 0; act < 4; act++) {
                    for (int v : numbers) due("voice " + act + " of " + km, x.voice(n, act, v), heard(km / 10, act, v, n, km % 10));
                }
            }
        }
    }

    private static void traced(OtherHat x, int km, int... due) {
        x.become(0, km);
        x.voice(0, 3, 1);
        due("BODIES of " + km, x.count(8), due.length);
        for (int i = 0; i < due.length; i++) due("BODY " + i + " of " + km, x.trace(i), due[i]);
        due("no more of " + km, x.trace(due.length), NONE);
    }

    private static void voices() {
        says("VOICES of a MAN, with a number x (ints that go round); n is his number, m as told: 0 looks, 1 thinks, 2 says, 3 tells.");
        OtherHat x = men(9, 29, 39, 69);
        due("above the greatest", x.voice(0, 2, DEEP), FAR - 8);
        due("twice the greatest", x.voice(0, 1, FAR), -2);
        due("three times the greatest and 1", x.voice(1, 0, FAR), DEEP);
        due("less the least", x.voice(2, 2, DEEP + 9), DEEP);
        due("act 3", x.voice(0, 3, 0), -9);
        due("act 4", x.voice(0, 4, 0), BEYOND);
        due("act -1", x.voice(0, -1, 0), BEYOND);
        x.become(0, 0);
        due("m as told anew", x.voice(0, 2, 5), 5);
        bodies();

        says("looks(..) is the BODY of its KIND, or of the next KIND above that has one; super.looks(..) that from the KIND above the BODY's on.");
        due("BLIND thinks as MAN", x.voice(3, 1, 4), 14);
        due("two BODIES", x.count(8), 2);
        due("of MAN", x.trace(0), 11);
        due("of MAN, too", x.trace(1), 10);

        says("THE TRACE: the numbers of BODIES of the latest voice(), as they began (what stands left is worked out first), the first 40.");
        int longest = 0;
        for (int km = 0; km < 70; km++) {
            x.become(0, km);
            for (int act = 0; act < 4; act++) {
                x.voice(0, act, km);
                longest = Math.max(longest, x.count(8));
            }
        }
        due("no VOICE has more than nine, so none comes near 40", longest, 9);
        traced(x, 3, 13, 11, 10, 12);
        traced(x, 19, 13, 20, 11, 10, 12, 12);
        traced(x, 20, 13, 11, 30, 10, 12);
        traced(x, 33, 13, 11, 10, 40, 12);
        traced(x, 49, 13, 50, 20, 11, 10, 12, 12);
        traced(x, 50, 60, 13, 11, 30, 10, 12, 30, 10);
        traced(x, 69, 71, 11, 10, 13, 11, 10, 70, 40, 12);
        x.voice(0, 0, 0);
        due("the latest alone", x.count(8), 1);
        due("no more of the one ahead", x.trace(1), NONE);
        x.voice(0, 9, 0);
        due("one that was refused is none", x.count(8), 1);
    }

    // ---- point 4

    private static void sheets() {
        says("SHEETS 0 .. 3 are rows of 8, 16, 32 bits (with a sign), at most 40 numbers, or missing (as at first).");
        OtherHat x = men(0, 0, 0, 0, 0, 0);
        for (int s = 0; s < 4; s++) due("missing at first", x.put(s, 0, 0), NONE);
        due("no SHEET 4", x.sheet(4, 8, 1), BEYOND);
        due("no SHEET -1", x.sheet(-1, 8, 1), BEYOND);
        int[] bits = {8, 16, 32};
        for (int i = 0; i < 3; i++) {
            due("40", x.sheet(i, bits[i], 40), 1);
            due("the last of 40", x.put(i, 39, 0), 1);
            due("none behind", x.put(i, 40, 0), BEYOND);
            due("41", x.sheet(i, bits[i], 41), BEYOND);
            due("still 40", x.put(i, 39, 0), 1);
        }
        x.open();
        x.put(0, 0, 256 + 63);
        due("8 bits of 319 are 63", x.worlds(0), 2);
        x.close();
        x.open();
        x.put(1, 0, 256 + 63);
        x.put(1, 1, 65536 + 62);
        due("16 bits of 319 are no WORLD, of 65598 they are 62", x.worlds(1), 2);
        due("62", x.possible(62), 1);
        x.close();
        x.open();
        x.put(2, 0, 65536 + 62);
        x.put(2, 1, 61);
        due("32 bits of 65598 are no WORLD", x.worlds(2), 2);
        due("61", x.possible(61), 1);
        x.close();
        x.open();
        for (int i = 0; i < 40; i++) x.put(0, i, 0);
        x.put(0, 0, 128);
        x.put(0, 1, 255);
        x.put(0, 2, -64);
        x.put(0, 3, 192);
        due("with a sign they are below 0: no WORLDS", x.worlds(0), 1);
        due("0 alone", x.possible(0), 1);
    }

    public static void main(String[] args) {
        manyCalls();
        errors();
        men();
        gate();
        thinking();
        speaking();
        ringing();
        texts();
        uses();
        ahead();
        when();
        silence();
        tricks();
        signals();
        looks();
        oddsAndDraws();
        voices();
        sheets();
        end();
    }
}
