/** Those sentences of the Terms that name no edge: what the words mean that all promises use, quoted. */
public final class TermMeaningTests extends Due {
    /** For each KIND those that it is of, as bits: itself and all above. */
    private static final int[] OF_KINDS = {1, 3, 5, 9, 19, 37, 73};

    private static void kinds() {
        says(": 0 MAN; 1 HASTY, 2 SLOW, 3 SILENT under MAN; 4 BOLD under HASTY; 5 LAST under SLOW; 6 BLIND under SILENT; ");
        OtherHat x = new OtherHat();
        x.man(0);
        for (int own = 0; own < 7; own++) {
            x.become(0, own * 10 + 4);
            for (int kind = 0; kind < 7; kind++) {
                due(own + " as " + kind, x.as(0, kind), (OF_KINDS[own] >> kind & 1) == 1 ? 4 : KIND);
            }
        }
    }

    private static void worlds() {
        says("A WORLD is a set of MEN that have black HATS (as bits).");
        OtherHat x = opened("f&!l&b=2", 3, 0, 0, 0);
        due("MEN 0 and 1 are black", x.possible(3), 1);
        due("MEN 1 and 2 are", x.possible(6), 0);
        due("MEN 0 and 2 are", x.possible(5), 0);
        due("no other", x.count(4), 1);

        says("THE WORLD: that of the HATS as they are.");
        for (int world = 0; world < 64; world++) {
            x = men(0, 0, 0, 0, 0, 0);
            wear(x, world);
            x.open();
            due("alone", only(x, world), 1);
            for (int i = 0; i < 6; i++) due("what MAN " + i + " would say in " + world, x.thinks(i, 3), world >> i & 1);
            due("who has no other WORLD speaks", x.bells(1), 63);
            for (int i = 0; i < 6; i++) due("that is right in " + world, x.ofMan(i, 4), 5 + 10 * (world >> i & 1));
        }
    }

    private static void colours() {
        says("BLACK, WHITE: how many of these give him a black, a white HAT.");
        OtherHat x = men(0, 0, 0);
        sees(x, 0, 4, 3);
        text(x, 0, "b>0");
        wear(x, 5);
        x.open();
        due("MAN 0, of all seven: black", x.thinks(0, 0), 4);
        due("white", x.thinks(0, 1), 3);
        due("MAN 1, of 4 to 7: black", x.thinks(1, 0), 2);
        due("white", x.thinks(1, 1), 2);
        due("MAN 2, of 1 and 5: black", x.thinks(2, 0), 1);
        due("white", x.thinks(2, 1), 1);
        only(x, 1, 2, 3, 5);
        due("MAN 1, of 5 alone: black", x.thinks(1, 0), 0);
        due("white", x.thinks(1, 1), 1);
    }

    private static void bell() {
        says("A BELL rings: all who SPEAK in THE WORLD ");
        OtherHat x = opened("b>0", 4, 0, 30, 0, 42);
        int speak = 0;
        for (int i = 0; i < 4; i++) speak |= x.thinks(i, 4) << i;
        due("MAN 2 alone", speak, 4);
        due("just he", x.bells(1), 4);

        says(" say what they WOULD SAY. ");
        x = opened("1", 2, 40, 40);
        due("MAN 0 would say black", x.thinks(0, 3), 1);
        due("MAN 1, too", x.thinks(1, 3), 1);
        due("both speak", x.bells(1), 3);
        due("MAN 0 is white", x.ofMan(0, 4), -3);
        due("MAN 1 is black", x.ofMan(1, 4), 15);

        says("They come to SPOKE; ");
        x = opened("b=1", 1, 0, 25, 0);
        due("two know at once", x.bells(1), 5);
        due("nobody more comes", x.bells(4), 5);
        due("the third comes, the others stay", x.bells(1), 7);
        due("that is SPOKE", x.count(3), 7);
    }

    /** Known since long: of n that see all others and are told that some are black, k black ones speak at BELL k. */
    private static void someAreBlack() {
        for (int n = 1; n <= 6; n++) {
            for (int world = 1; world < 1 << n; world++) {
                OtherHat x = opened("b>0", world, new int[n]);
                int black = Integer.bitCount(world);
                for (int i = 0; i < n; i++) due("WHEN of MAN " + i + " in " + world, x.when(i), black + 1 - (world >> i & 1));
                due("LONGEST of " + n, x.longest(), n == 1 ? 1 : n);
                due("ahead of the last BELL but one", x.bells(black), world);
                due("behind it", x.bells(1), (1 << n) - 1);
            }
        }
    }

    /** If all know whether the black ones are even, each knows his own; if one sees nobody, he never does. */
    private static void evenOnes() {
        for (int world = 0; world < 64; world++) {
            if (Integer.bitCount(world) % 2 != 0) continue;
            OtherHat x = men(0, 0, 0, 0, 0, 0);
            x.tellMan(5, 3, 0);
            text(x, 0, "b%2=0");
            wear(x, world);
            x.open();
            due("five speak at once", x.bells(1), 31);
            due("then he has heard all", x.when(5), 1);
        }
    }

    private static void said(int km, int act, int x, int due) {
        OtherHat y = men(0, 0, 0, km);
        due("act " + act + " of " + km, y.voice(3, act, x), due);
    }

    /** x is 10, n is 3, m is 4. */
    private static void bodies() {
        says(" BODIES: MAN: 10 looks: x + n. 11 thinks: looks(x) * 2. 12 says: x - m. 13 tells: thinks(x) ^ says(x).");
        said(4, 0, 10, 13);
        said(4, 1, 10, 26);
        said(4, 2, 10, 6);
        said(4, 3, 10, 28);
        says("HASTY: 20 thinks: super.thinks(x) - says(1).");
        said(14, 1, 10, 29);
        said(14, 3, 10, 27);
        says("SLOW: 30 looks: super.looks(x) * 3.");
        said(24, 0, 10, 39);
        said(24, 1, 10, 78);
        said(24, 3, 10, 72);
        says("SILENT: 40 says: -super.says(x).");
        said(34, 2, 10, -6);
        said(34, 3, 10, -32);
        says("BOLD: 50 thinks: super.thinks(x + 1).");
        said(44, 1, 10, 31);
        said(44, 3, 10, 25);
        says("LAST: 60 tells: super.tells(x) - looks(2).");
        said(54, 0, 10, 39);
        said(54, 3, 10, 57);
        says("BLIND: 70 says: super.says(x) ^ n. 71 tells: thinks(x) - super.tells(x).");
        said(64, 2, 10, -7);
        said(64, 3, 10, 55);
    }

    /** The calls that README.md shows. */
    private static void readme() {
        says("Paid by the other's hat: at the gate each of some men gets a hat, white or black, that he can't see; who sees whom is told");
        OtherHat x = new OtherHat();
        due("a MAN", x.man(0), 0);
        due("another", x.man(0), 1);
        due("a black hat", x.tellMan(0, 2, 1), 0);
        due("b>0", x.feed(3161698L, 3), 3);
        due("the rule", x.text(0), 1);
        due("open", x.open(), 3);
        due("who sees white", x.when(0), 1);
        due("who sees black", x.when(1), 2);
        due("a bell", x.bells(1), 1);
        due("paid", x.ofMan(0, 4), 15);
        due("close", x.close(), 1);
    }

    public static void main(String[] args) {
        readme();
        kinds();
        worlds();
        colours();
        bell();
        someAreBlack();
        evenOnes();
        bodies();
        end();
    }
}
