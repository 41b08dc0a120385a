/** Each promise by itself: ordinary calls, the edges that the document names, wrong inputs. */
public final class PromiseTests extends Due {
    private static void newObject() {
        OtherHat x = new OtherHat();
        int[] first = {0, 0, 0, 0, 0, 3, 0, 0, 0, 1};
        for (int i = 0; i < first.length; i++) due("1 count(" + i + ")", x.count(i), first[i]);
        for (int k = 1; k <= 5; k++) due("1 told(" + k + ")", x.told(k), 0);
        due("1 no image", x.restore(), NONE);
        due("1 no sheet", x.put(0, 0, 0), NONE);
        due("1 no trace", x.trace(0), NONE);
        due("1 rule", x.law(0, 7, 7, 7, 7), 1);
        due("1 pays", x.law(1, 1, 2, 0, 0), 13);
    }

    private static void man() {
        OtherHat x = new OtherHat();
        due("2 below", x.man(-1), BEYOND);
        due("2 above", x.man(70), BEYOND);
        due("2 first", x.man(69), 0);
        due("2 kind", x.ofMan(0, 0), 6);
        due("2 m", x.ofMan(0, 1), 9);
        due("2 hat", x.ofMan(0, 2), 0);
        due("2 sees", x.ofMan(0, 3), 0);
        due("2 paid", x.ofMan(0, 4), 0);
        x.man(0);
        x.tellMan(0, 3, 0);
        due("2 third", x.man(12), 2);
        due("2 he sees all", x.ofMan(2, 3), 3);
        due("2 one told to see nobody sees him", x.ofMan(0, 3), 4);
        x.open();
        due("2 beyond ahead of state", x.man(99), BEYOND);
        due("2 open", x.man(0), STATE);
        x.close();
        for (int i = 3; i < 6; i++) due("2 man", x.man(0), i);
        due("2 full", x.man(0), FULL);
        due("2 beyond ahead of full", x.man(DEEP), BEYOND);
        x.open();
        due("2 state ahead of full", x.man(0), STATE);
    }

    private static void ofMan() {
        OtherHat x = men(15, 20);
        due("3 kind", x.ofMan(0, 0), 1);
        due("3 m", x.ofMan(0, 1), 5);
        due("3 sees", x.ofMan(1, 3), 1);
        due("3 man -1", x.ofMan(-1, 0), BEYOND);
        due("3 man 2", x.ofMan(2, 0), BEYOND);
        due("3 what -1", x.ofMan(0, -1), BEYOND);
        due("3 what 5", x.ofMan(0, 5), BEYOND);
        due("3 far", x.ofMan(FAR, FAR), BEYOND);
    }

    private static void tellMan() {
        OtherHat x = men(0, 0, 0);
        due("4 hat", x.tellMan(1, 2, 1), 0);
        due("4 hat again", x.tellMan(1, 2, 1), 1);
        due("4 hat is", x.ofMan(1, 2), 1);
        due("4 another's isn't", x.ofMan(0, 2), 0);
        due("4 hat back", x.tellMan(1, 2, 0), 1);
        due("4 sees", x.tellMan(1, 3, 4), 5);
        due("4 sees is", x.ofMan(1, 3), 4);
        due("4 himself", x.tellMan(1, 3, 2), BEYOND);
        due("4 no such man in it", x.tellMan(1, 3, 8), BEYOND);
        due("4 below", x.tellMan(1, 3, -1), BEYOND);
        due("4 no hat", x.tellMan(1, 2, 2), BEYOND);
        due("4 no hat below", x.tellMan(1, 2, -1), BEYOND);
        due("4 what 1", x.tellMan(1, 1, 0), BEYOND);
        due("4 what 4", x.tellMan(1, 4, 0), BEYOND);
        due("4 no man", x.tellMan(3, 2, 0), BEYOND);
        due("4 no man below", x.tellMan(-1, 3, 0), BEYOND);
        due("4 stays", x.ofMan(1, 3), 4);
        x.open();
        due("4 beyond ahead of state", x.tellMan(1, 2, 5), BEYOND);
        due("4 open", x.tellMan(1, 2, 0), STATE);
        due("4 open, sees", x.tellMan(1, 3, 0), STATE);
    }

    private static void become() {
        OtherHat x = men(15);
        due("5 was", x.become(0, 69), 1);
        due("5 kind", x.ofMan(0, 0), 6);
        due("5 m", x.ofMan(0, 1), 9);
        due("5 above", x.become(0, 70), BEYOND);
        due("5 below", x.become(0, -1), BEYOND);
        due("5 no man", x.become(1, 0), BEYOND);
        x.open();
        due("5 open", x.become(0, 0), 6);
    }

    private static void as() {
        OtherHat x = men(0, 0, 0, 0, 0, 0);
        int[][] above = {{0}, {0, 1}, {0, 2}, {0, 3}, {0, 1, 4}, {0, 2, 5}, {0, 3, 6}};
        for (int own = 0; own < 7; own++) {
            x.become(0, own * 10 + own + 1);
            for (int kind = 0; kind < 7; kind++) {
                boolean is = false;
                for (int a : above[own]) is |= a == kind;
                due("6 " + own + " as " + kind, x.as(0, kind), is ? own + 1 : KIND);
            }
        }
        due("6 kind 7", x.as(0, 7), BEYOND);
        due("6 kind -1", x.as(0, -1), BEYOND);
        due("6 no man", x.as(6, 0), BEYOND);
        due("6 no man below", x.as(-1, 0), BEYOND);
    }

    private static void fine() {
        OtherHat x = new OtherHat();
        due("7 was", x.fine(99), 3);
        due("7 was then", x.fine(0), 99);
        due("7 above", x.fine(100), BEYOND);
        due("7 below", x.fine(-1), BEYOND);
        due("7 stays", x.count(5), 0);
    }

    private static void feeding() {
        OtherHat x = new OtherHat();
        due("8 none", x.feed(0, 0), BEYOND);
        due("8 nine", x.feed(0, 9), BEYOND);
        due("8 below", x.feed(0, DEEP), BEYOND);
        due("8 lowest first, no more than told", x.feed(0x77772B31L, 2), 2);
        due("8 second word", x.feed(0x32L, 1), 3);
        due("8 as told", x.text(0), 1);
        due("8 1+2", x.law(0, 0, 0, 0, 0), 3);
        for (int i = 1; i <= 6; i++) due("8 eight", x.feed(-1L, 8), 8 * i);
        due("8 full", x.feed(0, 3), FULL);
        due("8 stays", x.count(6), 48);
        due("8 fits", x.feed(0, 2), 50);
        due("8 full now", x.feed(0, 1), FULL);
        due("8 beyond ahead of full", x.feed(0, 0), BEYOND);
    }

    private static void texts() {
        OtherHat x = new OtherHat();
        due("9 empty", x.text(0), -10);
        feed(x, "1+1");
        due("9 use 2", x.text(2), BEYOND);
        due("9 use -1", x.text(-1), BEYOND);
        due("9 tape stays", x.count(6), 3);
        due("9 text", x.text(0), 1);
        due("9 tape is empty", x.count(6), 0);
        due("9 fault", text(x, 0, "3+x"), -12);
        due("9 tape is empty behind a fault", x.count(6), 0);
        due("9 the one ahead stays", x.law(0, 0, 0, 0, 0), 2);
        due("9 in its place", text(x, 0, "b"), 1);
        due("9 is", x.law(0, 8, 0, 0, 0), 8);
        String[] faulty = {"+", "1+", "1<2<3", "12345", "1 ", "(1", "(1))", "!", "!!!!!!1", "((((((1", "!(!(!(1", "1b", "bb",
            "()", "1|&1", "(1<2)<3<4", "B", "1=1=1", "(((((", "-1", "h", "1!", "(1)2", "1+(2*)", "00000"};
        int[] at = {0, 2, 3, 4, 1, 2, 3, 1, 5, 5, 5, 1, 1, 1, 2, 7, 0, 3, 5, 0, 0, 1, 3, 5, 4};
        for (int i = 0; i < faulty.length; i++) due("9 " + faulty[i], text(x, 0, faulty[i]), -10 - at[i]);
        due("9 sixth behind five", text(x, 0, "!(!(!"), -15);
        String[] good = {"!!!!!1", "(((((1)))))", "!1+!1+!1+!1+!1+!1", "(1<2)<3", "9999", "0000", "!(!(!b))", "n/l%f"};
        for (String g : good) due("9 " + g, text(x, 0, g), 1);
        due("9 names of the other use", text(x, 1, "b"), -10);
        due("9 its own names", text(x, 1, "h+t+c"), 1);
        due("9 no name l", text(x, 1, "h+l"), -12);
        String long50 = "1+1+1+1+1+1+1+1+1+1+1+1+1+1+1+1+1+1+1+1+1+1+1+1+1+";
        due("9 fifty bytes that end too early", text(x, 0, long50), -60);
        due("9 fifty bytes", text(x, 0, long50.substring(0, 48) + "99"), 1);
        due("9 twenty-four and 99", x.law(0, 0, 0, 0, 0), 24 + 99);
        x.feed(255, 1);
        due("9 byte 255", x.text(0), -10);
    }

    private static int given(String text, int a, int b, int c, int d) {
        OtherHat x = new OtherHat();
        due("10 " + text, text(x, 0, text), 1);
        return x.law(0, a, b, c, d);
    }

    private static void law() {
        OtherHat x = new OtherHat();
        due("10 use 2", x.law(2, 0, 0, 0, 0), BEYOND);
        due("10 use -1", x.law(-1, 0, 0, 0, 0), BEYOND);
        due("10 pays without", x.law(1, 1, 3, 9, 9), 12);
        due("10 pays held low", x.law(1, 0, 6, 0, 0), 0);
        due("10 pays held high", x.law(1, 100, 0, 0, 0), 999);
        due("10 pays text", text(x, 1, "h*100+t*10+c"), 1);
        due("10 pays names", x.law(1, 1, 2, 3, 4), 123);
        due("10 pays below", x.law(1, -1, 0, 0, 0), 0);
        due("10 pays above", x.law(1, 9, 9, 10, 0), 999);
        due("10 names", given("b*1000+n*100+f*10+l", 1, 2, 3, 4), 1234);
        due("10 as it is", given("b-n", 0, 5, 0, 0), -5);
        due("10 an error's number", given("b", BEYOND, 0, 0, 0), BEYOND);
        due("10 from left", given("9-3-2", 0, 0, 0, 0), 4);
        due("10 from left too", given("9/2*2%5", 0, 0, 0, 0), 3);
        due("10 closer", given("1+2*3", 0, 0, 0, 0), 7);
        due("10 brackets", given("(1+2)*3", 0, 0, 0, 0), 9);
        due("10 cut", given("b/2", -3, 0, 0, 0), -1);
        due("10 rest", given("b%2", -3, 0, 0, 0), -1);
        due("10 by 0", given("7/0+7%0", 0, 0, 0, 0), 0);
        due("10 least by -1", given("b/n", DEEP, -1, 0, 0), DEEP);
        due("10 rest of least by -1", given("b%n", DEEP, -1, 0, 0), 0);
        due("10 wrap", given("b+1", FAR, 0, 0, 0), DEEP);
        due("10 wrap of *", given("b*b", 65536, 0, 0, 0), 0);
        due("10 and of sums", given("1+1&4", 0, 0, 0, 0), 1);
        due("10 and is closer than or", given("1|0&0", 0, 0, 0, 0), 1);
        due("10 or", given("0|7", 0, 0, 0, 0), 1);
        due("10 not", given("!7+!0", 0, 0, 0, 0), 1);
        due("10 not is closest", given("!0*5", 0, 0, 0, 0), 5);
        due("10 less", given("(1<2)+(2<1)*2+(1>2)*4+(2>1)*8+(3=3)*16+(3=4)*32", 0, 0, 0, 0), 1 + 8 + 16);
        due("10 compare of sums", given("1+1=2", 0, 0, 0, 0), 1);
        due("10 no error counted", x.told(1), 2);
    }

    private static void opening() {
        OtherHat x = new OtherHat();
        due("11 nobody", x.open(), 1);
        due("11 open", x.open(), STATE);
        x.close();
        text(x, 0, "f+l");
        due("11 nobody's hats are 0", x.open(), STATE);
        due("11 stays closed", x.count(1), 0);
        x = men(0, 0, 0, 0, 0, 0);
        due("11 all", x.open(), 64);
        x.bells(5);
        x.close();
        text(x, 0, "b=2&f&!l");
        due("11 the world isn't", x.open(), STATE);
        due("11 bell stays", x.count(2), 5);
        wear(x, 3);
        due("11 rule", x.open(), 4);
        due("11 bell", x.count(2), 0);
        due("11 is open", x.count(1), 1);
        due("11 possible", x.possible(3) * 1000 + x.possible(5) * 100 + x.possible(17) * 10 + x.possible(33), 1110);
        x = men(0, 0);
        text(x, 0, "0-(b=n)");
        wear(x, 3);
        due("11 below 0 is another than 0", x.open(), 1);
        x.bells(1);
        due("11 all know", x.count(3), 3);
        x.close();
        x.open();
        due("11 nobody has spoken", x.count(3), 0);
        due("11 paid stays", x.ofMan(0, 4), 15);
    }

    private static void closing() {
        OtherHat x = opened("b>0", 1, 0, 0);
        x.bells(1);
        due("12 one", x.close(), 1);
        due("12 closed", x.close(), STATE);
        due("12 spoke stays", x.count(3), 1);
        due("12 none possible", x.count(4), 0);
        due("12 hats may be told", x.tellMan(0, 2, 0), 1);
    }

    private static void bells() {
        OtherHat x = opened("b>0", 7, 0, 0, 0);
        due("13 none", x.bells(0), BEYOND);
        due("13 above", x.bells(31), BEYOND);
        due("13 first", x.bells(1), 0);
        due("13 possible behind it", x.count(4), 4);
        due("13 second", x.bells(1), 0);
        due("13 one is left", x.count(4), 1);
        due("13 third", x.bells(1), 7);
        due("13 paid", x.ofMan(1, 4), 13);
        due("13 thirty", x.bells(30), 7);
        due("13 more", x.bells(30), 7);
        due("13 more", x.bells(30), 7);
        due("13 bell", x.count(2), 93);
        due("13 above 99", x.bells(7), STATE);
        due("13 stays", x.count(2), 93);
        due("13 to 99", x.bells(6), 7);
        due("13 at 99", x.bells(1), STATE);
        x.close();
        due("13 closed", x.bells(1), STATE);
        due("13 beyond ahead of state", x.bells(31), BEYOND);
        kindsAtBells();
        wages();
    }

    private static void kindsAtBells() {
        OtherHat x = opened("1", 0, 10, 11, 42, 30);
        due("13 hasty by 0, not by 1", x.bells(1), 1);
        due("13 bold not yet", x.bells(1), 1);
        due("13 bold", x.bells(1), 5);
        x = opened("b=n", 15, 23, 50, 60, 0);
        due("13 at once", x.bells(1), 12);
        due("13 slow not yet", x.bells(2), 12);
        due("13 slow", x.bells(1), 13);
        due("13 last behind all he sees", x.bells(1), 15);
        x = opened("b=1", 1, 60, 0);
        due("13 blind knows only what all know", x.bells(1), 2);
        due("13 then he does", x.bells(1), 3);
        x = opened("b<2", 0, 12, 0, 0);
        due("13 one to one", x.thinks(0, 4), 0);
        x.close();
        x.tellMan(0, 3, 0);
        x.open();
        due("13 white is three to one", x.thinks(0, 0) * 10 + x.thinks(0, 1), 13);
        due("13 that is more than two to one", x.thinks(0, 4), 1);
        x.become(0, 13);
        due("13 and no more than three to one", x.thinks(0, 4), 0);
        x = men(12, 0, 0);
        x.tellMan(0, 3, 0);
        text(x, 0, "b>1");
        wear(x, 3);
        x.open();
        due("13 black is three to one", x.thinks(0, 0) * 10 + x.thinks(0, 1), 31);
        due("13 that is enough", x.thinks(0, 4), 1);
        x.become(0, 43);
        due("13 not for a bold one by 3", x.thinks(0, 4), 0);
    }

    private static void wages() {
        OtherHat x = men(10, 10);
        x.tellMan(0, 3, 0);
        x.tellMan(1, 3, 0);
        x.tellMan(0, 2, 1);
        text(x, 1, "h*100+t*10+c");
        x.open();
        x.bells(1);
        due("13 he said black rightly, two spoke", x.ofMan(0, 4), 102);
        due("13 he said black wrongly", x.ofMan(1, 4), -3);
        x.close();
        x.fine(99);
        x.become(0, 43);
        x.become(1, 43);
        text(x, 1, "999");
        for (int i = 0; i < 110; i++) {
            x.open();
            x.bells(4);
            x.close();
        }
        due("13 held above", x.ofMan(0, 4), 99999);
        due("13 less", x.ofMan(1, 4), -3 - 99 * 110);
    }

    private static void loose() {
        OtherHat x = men(0, 0, 0);
        text(x, 0, "b=n");
        wear(x, 7);
        due("14 closed", x.loose(1), STATE);
        x.open();
        due("14 none", x.loose(0), BEYOND);
        due("14 above", x.loose(31), BEYOND);
        x.seed(0);
        // 12345 >>> 8 is 48, whose rest by 8 is 0: the first errs.
        due("14 all speak", x.loose(1), 7);
        int z = 0;
        for (int i = 0; i < 3; i++) {
            z = z * 1103515245 + 12345;
            due("14 paid " + i, x.ofMan(i, 4), (z >>> 8) % 8 == 0 ? -3 : 15);
        }
        due("14 the first erred", x.ofMan(0, 4), -3);
        due("14 z", x.count(9), z);
        due("14 nobody could say so: possible stays", x.count(4), 1);
        due("14 nobody draws", x.loose(30), 7);
        due("14 z stays", x.count(9), z);
        x.bells(30);
        x.bells(30);
        due("14 above 99", x.loose(9), STATE);
        due("14 to 99", x.loose(8), 7);
        losingTheWorld();
    }

    private static void losingTheWorld() {
        OtherHat x = men(10, 0);
        x.tellMan(1, 3, 0);
        wear(x, 1);
        text(x, 0, "b<2");
        due("14 three", x.open(), 3);
        x.seed(0);
        // MAN 0 sees a white HAT and would say black, but errs: white is said where MAN 1 is black.
        due("14 he speaks", x.loose(1), 1);
        due("14 one is left", x.count(4), 1);
        due("14 and that isn't the world", x.possible(1), 0);
        due("14 it is the other's", x.possible(2), 1);
        due("14 in the world he thinks nothing possible", x.thinks(0, 0) + x.thinks(0, 1), 0);
        due("14 so he knows", x.thinks(0, 2), 1);
        due("14 and would say black", x.thinks(0, 3), 1);
        due("14 odds of nothing", x.odds(0, 0), 0);
        due("14 by one", x.odds(0, 1), 1);
        due("14 the other errs now", x.bells(1), 3);
        due("14 he pays", x.ofMan(1, 4), -3);
    }

    private static void possible() {
        OtherHat x = men(0, 0);
        due("15 closed", x.possible(0), STATE);
        due("15 beyond ahead of state", x.possible(4), BEYOND);
        text(x, 0, "b<2");
        x.open();
        due("15 0", x.possible(0), 1);
        due("15 2", x.possible(2), 1);
        due("15 3", x.possible(3), 0);
        due("15 4", x.possible(4), BEYOND);
        due("15 below", x.possible(-1), BEYOND);
        due("15 far", x.possible(64), BEYOND);
    }

    private static void thinks() {
        OtherHat x = men(0, 0, 0);
        due("16 closed", x.thinks(0, 0), STATE);
        due("16 beyond ahead of state", x.thinks(0, 5), BEYOND);
        text(x, 0, "b<2");
        x.tellMan(0, 3, 0);
        x.open();
        int[] first = {1, 3, 0, 0, 0};
        int[] second = {1, 1, 0, 1, 0};
        for (int i = 0; i < 5; i++) {
            due("16 first " + i, x.thinks(0, i), first[i]);
            due("16 second " + i, x.thinks(1, i), second[i]);
        }
        x.close();
        wear(x, 4);
        x.open();
        int[] sees = {0, 1, 1, 0, 1};
        for (int i = 0; i < 5; i++) due("16 who sees it " + i, x.thinks(1, i), sees[i]);
        x.bells(1);
        due("16 who has spoken", x.thinks(1, 4), 0);
        due("16 still knows", x.thinks(1, 2), 1);
        due("16 what -1", x.thinks(0, -1), BEYOND);
        due("16 no man", x.thinks(3, 0), BEYOND);
    }

    private static void then() {
        OtherHat x = opened("b>0", 7, 0, 0, 0);
        int[] spoke = {0, 0, 0, 7, 7};
        int[] many = {7, 4, 1, 1, 1};
        for (int n = 0; n < 5; n++) {
            due("17 spoke " + n, x.then(n, 0), spoke[n]);
            due("17 many " + n, x.then(n, 1), many[n]);
        }
        due("17 thirty", x.then(30, 0), 7);
        due("17 nothing rang", x.count(2) + x.count(3), 0);
        due("17 31", x.then(31, 0), BEYOND);
        due("17 -1", x.then(-1, 0), BEYOND);
        due("17 what 2", x.then(0, 2), BEYOND);
        due("17 what -1", x.then(0, -1), BEYOND);
        for (int i = 0; i < 3; i++) x.bells(30);
        x.bells(9);
        due("17 beyond 99", x.then(30, 0), 7);
        x.close();
        due("17 closed", x.then(0, 0), STATE);
        due("17 beyond ahead of state", x.then(31, 0), BEYOND);
    }

    private static void thenPaid() {
        OtherHat x = opened("b>0", 3, 0, 0, 0);
        due("18 now", x.thenPaid(0, 0), 0);
        due("18 two", x.thenPaid(2, 0), 14);
        due("18 three", x.thenPaid(3, 2), 3);
        due("18 nobody was paid", x.ofMan(0, 4), 0);
        due("18 31", x.thenPaid(31, 0), BEYOND);
        due("18 -1", x.thenPaid(-1, 0), BEYOND);
        due("18 no man", x.thenPaid(0, 3), BEYOND);
        x.close();
        due("18 closed", x.thenPaid(0, 0), STATE);
        x = opened("b=n", 3, 30, 50);
        text(x, 1, "t");
        for (int i = 0; i < 3; i++) x.bells(30);
        x.bells(9);
        due("18 silent", x.thenPaid(30, 0), 0);
        x.become(0, 0);
        due("18 at 99", x.thenPaid(1, 0), 99);
        due("18 beyond 99", x.thenPaid(2, 1), 100);
    }

    private static void when() {
        OtherHat x = opened("b>0", 3, 0, 0, 30);
        due("19 second bell", x.when(0), 2);
        due("19 silent", x.when(2), NONE);
        x.bells(2);
        due("19 has", x.when(0), 0);
        due("19 no man", x.when(3), BEYOND);
        due("19 below", x.when(-1), BEYOND);
        x.close();
        due("19 closed", x.when(0), STATE);
        due("19 beyond ahead of state", x.when(3), BEYOND);
        x = opened("1", 0, 49);
        due("19 bold by 9", x.when(0), 10);
        x.bells(9);
        due("19 now", x.when(0), 1);
    }

    private static void silence() {
        OtherHat x = opened("b>0", 3, 0, 0, 0);
        due("20 two fewer", x.silence(0, 5), 2);
        due("20 not yet", x.silence(0, 1), 0);
        due("20 now", x.silence(0, 0), 0);
        due("20 white one", x.silence(2, 30), 0);
        due("20 he is as he was", x.ofMan(0, 0), 0);
        x.bells(2);
        due("20 he has spoken", x.silence(0, 5), 0);
        due("20 31", x.silence(0, 31), BEYOND);
        due("20 -1", x.silence(0, -1), BEYOND);
        due("20 no man", x.silence(3, 0), BEYOND);
        x.close();
        due("20 closed", x.silence(0, 0), STATE);
    }

    private static void trick() {
        OtherHat x = opened("b>0", 7, 0, 0, 0);
        due("21 now", x.trick(0, 0), 1);
        due("21 nobody has", x.trick(0, 1), 0);
        due("21 by one", x.trick(1, 0), 3);
        due("21 none by one", x.trick(1, 1), 0);
        due("21 by two", x.trick(2, 0), 7);
        due("21 none by two", x.trick(2, 1), 0);
        due("21 by three all speak", x.trick(3, 1), 3);
        due("21 the least", x.trick(3, 0), 1);
        x.bells(3);
        due("21 those that have count", x.trick(0, 1), 3);
        due("21 alone possible", x.trick(0, 0), 7);
        due("21 31", x.trick(31, 0), BEYOND);
        due("21 what 2", x.trick(0, 2), BEYOND);
        due("21 what -1", x.trick(0, -1), BEYOND);
        x.close();
        due("21 closed", x.trick(0, 0), STATE);
    }

    private static void longest() {
        OtherHat x = opened("b>0", 1, 0, 0, 0);
        due("22 three", x.longest(), 3);
        x.bells(1);
        due("22 the others are left", x.longest(), 1);
        x.bells(1);
        due("22 all have", x.longest(), 0);
        x.close();
        due("22 closed", x.longest(), STATE);
        x = opened("1", 0, 0, 0);
        due("22 nobody ever", x.longest(), 0);
        x = opened("1", 0, 0, 49);
        due("22 bold by 9", x.longest(), 10);
        x = opened("b>0", 1, 0, 0, 0, 0, 0, 0);
        due("22 six", x.longest(), 6);
    }

    private static void signal() {
        OtherHat x = opened("1", 5, 0, 0, 0);
        due("23 of both", x.signal(0, 6), 2);
        due("23 of one", x.signal(0, 2), 1);
        due("23 of none", x.signal(0, 0), 0);
        due("23 himself", x.signal(0, 1), BEYOND);
        due("23 no man in it", x.signal(0, 8), BEYOND);
        due("23 below", x.signal(0, -1), BEYOND);
        due("23 no man", x.signal(3, 0), BEYOND);
        due("23 possible stays", x.count(4), 8);
        x.close();
        due("23 closed", x.signal(0, 6), STATE);
        due("23 beyond ahead of state", x.signal(0, 1), BEYOND);
        x.tellMan(0, 3, 4);
        x.open();
        due("23 not seen", x.signal(0, 2), BEYOND);
        due("23 silent ones know, too", x.signal(0, 4), 1);
    }

    private static void bestSignal() {
        OtherHat x = opened("1", 5, 0, 0, 0);
        due("24 set", x.bestSignal(0, 0), 6);
        due("24 many", x.bestSignal(0, 1), 2);
        due("24 another's", x.bestSignal(1, 0), 5);
        due("24 what 2", x.bestSignal(0, 2), BEYOND);
        due("24 what -1", x.bestSignal(0, -1), BEYOND);
        due("24 no man", x.bestSignal(3, 0), BEYOND);
        x.close();
        due("24 closed", x.bestSignal(0, 0), STATE);
        x.tellMan(0, 3, 0);
        x.open();
        due("24 sees nobody", x.bestSignal(0, 0), 0);
        due("24 nobody knows", x.bestSignal(0, 1), 0);
        x = opened("b=n", 7, 0, 0, 30);
        due("24 all know: the least set", x.bestSignal(0, 0), 0);
        due("24 all", x.bestSignal(0, 1), 3);
    }

    private static void look() {
        OtherHat x = men(0, 0, 0);
        x.tellMan(0, 3, 0);
        text(x, 0, "f=l");
        due("25 closed", x.look(0), STATE);
        due("25 beyond ahead of state", x.look(3), BEYOND);
        x.open();
        due("25 the last tells his own", x.look(0), 2);
        due("25 sees all", x.look(1), NONE);
        due("25 below", x.look(-1), BEYOND);
        due("25 he sees as he did", x.ofMan(0, 3), 0);
        x.become(0, 30);
        due("25 by none", x.look(0), NONE);
        x = men(10, 0, 0);
        x.tellMan(0, 3, 0);
        x.open();
        due("25 the least of several", x.look(0), 1);
        x.bells(1);
        due("25 who has spoken", x.look(0), 1);
        x = opened("1", 0, 10);
        due("25 alone", x.look(0), NONE);
    }

    private static void odds() {
        OtherHat x = men(0, 0, 0);
        x.tellMan(0, 3, 0);
        text(x, 0, "b>0");
        wear(x, 1);
        due("26 closed", x.odds(0, 0), STATE);
        due("26 beyond ahead of state", x.odds(0, 2), BEYOND);
        x.open();
        due("26 four", x.odds(0, 0), 4);
        due("26 by seven", x.odds(0, 1), 7);
        due("26 one", x.odds(1, 0), 1);
        due("26 by two", x.odds(1, 1), 2);
        due("26 part -1", x.odds(0, -1), BEYOND);
        due("26 no man", x.odds(3, 0), BEYOND);
        x = opened("b=1", 1, 0, 0);
        due("26 sure", x.odds(0, 0), 1);
        due("26 by one", x.odds(0, 1), 1);
        due("26 never", x.odds(1, 0), 0);
        due("26 by one", x.odds(1, 1), 1);
        x = men(0, 0, 0);
        x.tellMan(0, 3, 0);
        x.open();
        due("26 lowest terms", x.odds(0, 0) * 10 + x.odds(0, 1), 12);
    }

    private static void seed() {
        OtherHat x = new OtherHat();
        due("27 first", x.seed(BEYOND), 1);
        due("27 any", x.seed(7), BEYOND);
        due("27 no error", x.told(1), 0);
        due("27 is", x.count(9), 7);
    }

    private static void voiceOf(int km, int act, int x, int due, int... trace) {
        OtherHat o = men(0, 0, km);
        due("28 voice of " + km, o.voice(2, act, x), due);
        due("29 bodies of " + km, o.count(8), trace.length);
        for (int i = 0; i < trace.length; i++) due("29 trace of " + km, o.trace(i), trace[i]);
        due("29 none behind", o.trace(trace.length), NONE);
    }

    private static void voices() {
        voiceOf(3, 0, 5, 7, 10);
        voiceOf(3, 1, 5, 14, 11, 10);
        voiceOf(3, 2, 5, 2, 12);
        voiceOf(3, 3, 5, 14 ^ 2, 13, 11, 10, 12);
        voiceOf(13, 1, 5, 14 + 2, 20, 11, 10, 12);
        voiceOf(23, 0, 5, 21, 30, 10);
        voiceOf(23, 1, 5, 42, 11, 30, 10);
        voiceOf(33, 2, 5, -2, 40, 12);
        voiceOf(43, 1, 5, 16 + 2, 50, 20, 11, 10, 12);
        voiceOf(53, 3, 5, (42 ^ 2) - 12, 60, 13, 11, 30, 10, 12, 30, 10);
        voiceOf(63, 2, 5, -2 ^ 2, 70, 40, 12);
        voiceOf(63, 3, 5, 14 - (14 ^ (-2 ^ 2)), 71, 11, 10, 13, 11, 10, 70, 40, 12);
        OtherHat x = men(0, 0);
        due("28 goes round", x.voice(1, 0, FAR), DEEP);
        due("28 an error's number", x.voice(0, 0, STATE), STATE);
        due("28 isn't counted", x.told(3), 0);
        x.voice(0, 1, 0);
        due("28 act 4", x.voice(0, 4, 0), BEYOND);
        due("28 act -1", x.voice(0, -1, 0), BEYOND);
        due("28 no man", x.voice(2, 0, 0), BEYOND);
        due("29 stays", x.count(8), 2);
        due("29 -1", x.trace(-1), NONE);
        due("29 far", x.trace(FAR), NONE);
    }

    private static void sheet() {
        OtherHat x = new OtherHat();
        due("30 8", x.sheet(0, 8, 40), 1);
        due("30 16, none on it", x.sheet(1, 16, 0), 1);
        due("30 32", x.sheet(3, 32, 1), 1);
        due("30 41", x.sheet(2, 8, 41), BEYOND);
        due("30 below", x.sheet(2, 8, -1), STATE);
        due("30 bits 64", x.sheet(2, 64, 1), BEYOND);
        due("30 bits ahead of n", x.sheet(2, 7, -1), BEYOND);
        due("30 sheet 4", x.sheet(4, 8, -1), BEYOND);
        due("30 sheet -1", x.sheet(-1, 8, 1), BEYOND);
        due("30 still missing", x.put(2, 0, 0), NONE);
        due("30 missing, n is free", x.sheet(0, 0, -5), 1);
        due("30 missing, n is free", x.sheet(3, 0, 99), 1);
        due("30 missing", x.put(0, 0, 0), NONE);
        x = men(0, 0);
        x.sheet(0, 8, 2);
        x.put(0, 0, 3);
        x.sheet(0, 8, 2);
        wear(x, 3);
        x.open();
        due("30 all 0", x.worlds(0), STATE);
    }

    private static void put() {
        OtherHat x = men(0, 0);
        x.sheet(0, 8, 2);
        due("31 put", x.put(0, 1, 256 + 2), 1);
        due("31 sheet 4", x.put(4, 0, 0), BEYOND);
        due("31 sheet -1", x.put(-1, 0, 0), BEYOND);
        due("31 missing ahead of number", x.put(1, 99, 0), NONE);
        due("31 number 2", x.put(0, 2, 0), BEYOND);
        due("31 number -1", x.put(0, -1, 0), BEYOND);
        x.sheet(1, 16, 2);
        x.put(1, 0, 65536 * 5 + 3);
        x.put(1, 1, 256 + 2);
        x.sheet(2, 32, 1);
        x.put(2, 0, 65536 + 3);
        wear(x, 3);
        x.open();
        due("31 32 bits", x.worlds(2), STATE);
        due("31 16 bits", x.worlds(1), 1);
        x.close();
        wear(x, 2);
        x.open();
        due("31 8 bits", x.worlds(0), 2);
    }

    private static void move() {
        OtherHat x = men(0, 0);
        x.sheet(0, 8, 4);
        x.sheet(1, 8, 3);
        x.sheet(2, 16, 4);
        due("32 sheet 4", x.move(4, 0, 0, 0, 1), BEYOND);
        due("32 other -1", x.move(0, 0, -1, 0, 1), BEYOND);
        due("32 missing", x.move(0, 0, 3, 0, 99), NONE);
        due("32 missing one", x.move(3, 0, 2, 0, 1), NONE);
        due("32 unlike", x.move(0, 0, 2, 0, 99), KIND);
        due("32 n", x.move(0, 0, 1, 0, -1), BEYOND);
        due("32 i", x.move(0, -1, 1, 0, 1), BEYOND);
        due("32 j", x.move(0, 0, 1, -1, 1), BEYOND);
        due("32 too many for the other", x.move(0, 0, 1, 0, 4), BEYOND);
        due("32 too many of the first", x.move(0, 2, 1, 0, 3), BEYOND);
        due("32 far", x.move(0, FAR, 1, 0, FAR), BEYOND);
        due("32 none, within", x.move(0, 4, 1, 3, 0), 0);
        due("32 none, beyond", x.move(0, 5, 1, 0, 0), BEYOND);
        due("32 none, other beyond", x.move(0, 0, 1, 4, 0), BEYOND);
        x.put(0, 0, 1);
        x.put(0, 1, 2);
        x.put(0, 2, 3);
        due("32 itself, as they were", x.move(0, 0, 0, 1, 3), 3);
        due("32 to another", x.move(0, 1, 1, 0, 3), 3);
        x.open();
        due("32 0 isn't there", x.worlds(1), STATE);
        x.close();
        wear(x, 3);
        x.open();
        due("32 1, 2, 3 are", x.worlds(1), 3);
    }

    private static void worlds() {
        OtherHat x = men(0, 0, 0);
        x.sheet(0, 8, 6);
        int[] numbers = {0, 1, 1, 7, -1, 64};
        for (int i = 0; i < 6; i++) x.put(0, i, numbers[i]);
        due("33 closed", x.worlds(0), STATE);
        due("33 sheet 4", x.worlds(4), BEYOND);
        due("33 sheet -1", x.worlds(-1), BEYOND);
        due("33 missing ahead of state", x.worlds(1), NONE);
        text(x, 0, "b<3");
        x.open();
        due("33 two", x.worlds(0), 2);
        due("33 0", x.possible(0), 1);
        due("33 2", x.possible(2), 0);
        due("33 7 wasn't", x.possible(7), 0);
        x.sheet(0, 8, 1);
        x.put(0, 0, 1);
        due("33 the world isn't", x.worlds(0), STATE);
        due("33 stays", x.count(4), 2);
        x.put(0, 0, 64);
        due("33 64 is no world, nor 0", x.worlds(0), STATE);
        x.sheet(0, 32, 1);
        x.put(0, 0, -64);
        due("33 nor is -64", x.worlds(0), STATE);
    }

    private static void images() {
        OtherHat x = opened("b>0", 3, 0, 0, 0);
        due("35 none", x.restore(), NONE);
        x.bells(1);
        x.tell(0);
        x.feed(98, 1);
        x.fine(7);
        x.seed(5);
        x.sheet(0, 8, 1);
        x.voice(0, 0, 0);
        due("34 first", x.image(), 1);
        x.bells(2);
        x.close();
        x.man(69);
        x.become(0, 15);
        x.tellMan(1, 2, 0);
        x.tellMan(1, 3, 0);
        x.check();
        x.text(0);
        text(x, 1, "h+1");
        x.fine(8);
        x.seed(6);
        x.sheet(0, 16, 2);
        x.voice(0, 3, 0);
        int bodies = x.count(8);
        int states = x.told(3);
        due("35 bell", x.restore(), 1);
        int[] due = {3, 1, 1, 0, 4, 7, 1, 1, bodies, 5};
        for (int i = 0; i < due.length; i++) due("35 count(" + i + ")", x.count(i), due[i]);
        due("35 kind", x.ofMan(0, 0), 0);
        due("35 hat", x.ofMan(1, 2), 1);
        due("35 sees", x.ofMan(1, 3), 5);
        due("35 paid", x.ofMan(0, 4), 0);
        due("35 pays", x.law(1, 1, 0, 0, 0), 15);
        due("35 rule", x.law(0, 5, 0, 0, 0), 1);
        due("35 sheets stay", x.put(0, 1, 0), 1);
        due("35 told stays", x.told(3), states);
        due("35 goes on", x.bells(1), 3);
        due("35 waits", x.check(), 1);
        due("34 second", x.image(), 2);
        x.close();
        due("35 the later one", x.restore(), 2);
        due("35 it stays", x.restore(), 2);
        due("35 spoke", x.count(3), 3);
    }

    private static void tell() {
        OtherHat x = new OtherHat();
        for (int i = 1; i <= 20; i++) due("36 tell", x.tell(FAR), i);
        due("36 full", x.tell(0), FULL);
        due("36 stays", x.count(7), 20);
    }

    private static void check() {
        OtherHat x = opened("b>0", 3, 0, 0, 0);
        due("37 none wait", x.check(), 0);
        x.tell(0);
        x.tell(3);
        x.tell(7);
        x.tell(7);
        due("37 all so", x.check(), 0);
        due("37 none wait then", x.count(7), 0);
        x.tell(0);
        x.tell(3);
        x.tell(6);
        x.tell(9);
        due("37 the third isn't", x.check(), 3);
        due("37 none wait then, too", x.count(7), 0);
        x.tell(1);
        due("37 the first isn't", x.check(), 1);
        due("37 nothing rang", x.count(2), 0);
        x.close();
        x.tell(1);
        due("37 closed", x.check(), STATE);
        due("37 none wait behind it", x.count(7), 0);
    }

    private static void count() {
        OtherHat x = opened("b>0", 3, 0, 0, 0);
        x.bells(2);
        x.feed(0, 4);
        x.tell(1);
        x.voice(0, 3, 0);
        int[] due = {3, 1, 2, 3, 1, 3, 4, 1, 4, 1};
        for (int i = 0; i < due.length; i++) due("38 count(" + i + ")", x.count(i), due[i]);
        due("38 -1", x.count(-1), BEYOND);
        due("38 10", x.count(10), BEYOND);
        x.close();
        due("38 closed", x.count(1), 0);
        due("38 bell stays", x.count(2), 2);
        due("38 none possible", x.count(4), 0);
    }

    private static void told() {
        OtherHat x = men(0, 0, 0, 0, 0, 0);
        x.man(70);
        x.trace(0);
        x.restore();
        x.close();
        x.close();
        x.close();
        x.man(0);
        x.as(0, 1);
        int[] due = {0, 1, 2, 3, 1, 1};
        for (int k = 1; k <= 5; k++) due("39 told(" + k + ")", x.told(k), due[k]);
        due("39 0", x.told(0), BEYOND);
        due("39 6", x.told(6), BEYOND);
        due("39 far", x.told(DEEP), BEYOND);
        due("39 counted, too", x.told(1), 4);
        x.text(0);
        due("39 a fault is no error", x.told(1), 4);
        x.odds(9, 0);
        due("39 longs, too", x.told(1), 5);
    }

    public static void main(String[] args) {
        newObject();
        man();
        ofMan();
        tellMan();
        become();
        as();
        fine();
        feeding();
        texts();
        law();
        opening();
        closing();
        bells();
        loose();
        possible();
        thinks();
        then();
        thenPaid();
        when();
        silence();
        trick();
        longest();
        signal();
        bestSignal();
        look();
        odds();
        seed();
        voices();
        sheet();
        put();
        move();
        worlds();
        images();
        tell();
        check();
        count();
        told();
        end();
    }
}
