import java.util.ArrayList;
import java.util.List;

/**
 * Each refused call, beside a twin that was not asked: the ERROR is the first in order, it is counted once, and nothing
 * else has changed.
 */
public final class RefusalTests extends Due {
    private interface Act {
        long on(OtherHat x);
    }

    private interface Maker {
        OtherHat made();
    }

    private static int refused = 0;

    // ---- states

    private static OtherHat empty() {
        return new OtherHat();
    }

    /** Six MEN, all WORLDS POSSIBLE as an IMAGE, then something told of everything. */
    private static OtherHat busy() {
        OtherHat x = men(12, 0, 21, 30, 52, 60);
        x.open();
        x.image();
        x.close();
        sees(x, 62, 61, 3, 0, 2, 31);
        wear(x, 19);
        text(x, 0, "b>0");
        text(x, 1, "h*20+c-t");
        x.fine(17);
        x.seed(99);
        x.voice(5, 3, 4);
        feed(x, "b*3+n+7");
        int[] bits = {8, 16, 32};
        for (int s = 0; s < 3; s++) {
            x.sheet(s, bits[s], 3 + s);
            for (int i = 0; i < 3; i++) x.put(s, i, 5 * s + 7 * i);
        }
        return x;
    }

    private static OtherHat busyOpen() {
        OtherHat x = busy();
        x.open();
        x.loose(1);
        x.bells(1);
        for (int i = 1; i <= 3; i++) x.tell(x.then(i, 0));
        return x;
    }

    private static OtherHat busyClosed() {
        OtherHat x = busyOpen();
        x.close();
        return x;
    }

    /** As much of everything as there can be. */
    private static OtherHat filled() {
        OtherHat x = busyOpen();
        x.text(0);
        for (int i = 0; i < 25; i++) feed(x, i == 24 ? "11" : "n+");
        for (int i = 4; i <= 20; i++) x.tell(x.then(i, 0));
        for (int i = 0; i < 3; i++) x.bells(30);
        x.bells(7);
        return x;
    }

    private static OtherHat two() {
        return men(0, 15);
    }

    // ---- what can be seen of an object

    private static void see(OtherHat x, List<Long> seen) {
        for (int i = 0; i < 10; i++) seen.add((long) x.count(i));
        for (int man = 0; man < 6; man++) {
            for (int what = 0; what < 5; what++) {
                seen.add((long) x.ofMan(man, what));
                seen.add((long) x.thinks(man, what));
            }
            seen.add((long) x.when(man));
            seen.add((long) x.thenPaid(3, man));
            seen.add((long) x.voice(man, 2, 5));
        }
        for (int v = -1; v < 5; v++) {
            seen.add((long) x.law(0, v, 3, 1, 0));
            seen.add((long) x.law(1, v, 1, 2, 0));
        }
    }

    private static void seePossible(OtherHat x, List<Long> seen) {
        for (int w = 0; w < 64; w++) seen.add((long) x.possible(w));
    }

    /** All of it, by calls that change it. */
    private static List<Long> all(OtherHat x) {
        List<Long> seen = new ArrayList<>();
        for (int i = 0; i < 10; i++) seen.add((long) x.trace(i));
        see(x, seen);
        seePossible(x, seen);
        if (x.count(1) == 0) seen.add((long) x.open());
        seen.add((long) x.check());
        seen.add((long) x.text(0));
        see(x, seen);
        for (int s = 0; s < 4; s++) {
            seen.add((long) x.restore());
            seen.add((long) x.worlds(s));
            seePossible(x, seen);
            for (int i = 0; i < 7; i++) seen.add((long) x.put(s, i, 0));
        }
        x.restore();
        see(x, seen);
        seen.add((long) x.image());
        return seen;
    }

    private static void refuse(String what, Maker maker, long error, Act act) {
        OtherHat x = maker.made();
        OtherHat twin = maker.made();
        refused++;
        due(what, act.on(x), error);
        for (int k = 1; k <= 5; k++) due(what + ", told(" + k + ")", x.told(k), twin.told(k) + (LOW - k == error ? 1 : 0));
        List<Long> seen = all(x);
        List<Long> due = all(twin);
        for (int i = 0; i < due.size(); i++) due(what + ", seen as number " + i, seen.get(i), due.get(i));
    }

    // ---- what is refused

    private static void menRefused() {
        Maker open = RefusalTests::busyOpen;
        Maker closed = RefusalTests::busyClosed;
        refuse("man -1", open, BEYOND, x -> x.man(-1));
        refuse("man 70", open, BEYOND, x -> x.man(70));
        refuse("man, open", open, STATE, x -> x.man(0));
        refuse("man, full", closed, FULL, x -> x.man(0));
        refuse("ofMan", closed, BEYOND, x -> x.ofMan(6, 0));
        refuse("ofMan what", closed, BEYOND, x -> x.ofMan(0, 5));
        refuse("tellMan", closed, BEYOND, x -> x.tellMan(6, 2, 1));
        refuse("tellMan what", closed, BEYOND, x -> x.tellMan(0, 4, 1));
        refuse("tellMan hat", closed, BEYOND, x -> x.tellMan(0, 2, 3));
        refuse("tellMan sees", closed, BEYOND, x -> x.tellMan(0, 3, 1));
        refuse("tellMan, open", open, STATE, x -> x.tellMan(0, 2, 0));
        refuse("tellMan sees, open", open, STATE, x -> x.tellMan(0, 3, 0));
        refuse("become", open, BEYOND, x -> x.become(6, 0));
        refuse("become km", open, BEYOND, x -> x.become(0, 70));
        refuse("as", open, BEYOND, x -> x.as(6, 0));
        refuse("as kind", open, BEYOND, x -> x.as(0, 7));
        refuse("as another", open, KIND, x -> x.as(0, 6));
        refuse("fine", open, BEYOND, x -> x.fine(100));
    }

    private static void textsAndBellsRefused() {
        refuse("feed 0", RefusalTests::busyOpen, BEYOND, x -> x.feed('1', 0));
        refuse("feed 9", RefusalTests::busyOpen, BEYOND, x -> x.feed('1', 9));
        refuse("feed, full", RefusalTests::filled, FULL, x -> x.feed('1', 1));
        refuse("feed 9, full", RefusalTests::filled, BEYOND, x -> x.feed('1', 9));
        refuse("text", RefusalTests::busyOpen, BEYOND, x -> x.text(2));
        refuse("law", RefusalTests::busyOpen, BEYOND, x -> x.law(2, 0, 0, 0, 0));
        refuse("open, open", RefusalTests::busyOpen, STATE, OtherHat::open);
        refuse("open, not the world", RefusalTests::busyLost, STATE, OtherHat::open);
        refuse("close", RefusalTests::busyClosed, STATE, OtherHat::close);
        refuse("bells 0", RefusalTests::busyOpen, BEYOND, x -> x.bells(0));
        refuse("bells 31", RefusalTests::filled, BEYOND, x -> x.bells(31));
        refuse("bells, closed", RefusalTests::busyClosed, STATE, x -> x.bells(1));
        refuse("bells, 99", RefusalTests::filled, STATE, x -> x.bells(1));
        refuse("loose 0", RefusalTests::busyOpen, BEYOND, x -> x.loose(0));
        refuse("loose 31", RefusalTests::filled, BEYOND, x -> x.loose(31));
        refuse("loose, closed", RefusalTests::busyClosed, STATE, x -> x.loose(1));
        refuse("loose, 99", RefusalTests::filled, STATE, x -> x.loose(1));
    }

    /** Closed, with HATS that RULE doesn't give. */
    private static OtherHat busyLost() {
        OtherHat x = busyClosed();
        wear(x, 0);
        return x;
    }

    private static void thoughtRefused() {
        says("what is thought (all of these: STATE, if THE GATE is closed, behind BEYOND)");
        Maker open = RefusalTests::busyOpen;
        Maker closed = RefusalTests::busyClosed;
        Act[] beyond = {x -> x.possible(64), x -> x.thinks(6, 0), x -> x.thinks(0, 5), x -> x.then(31, 0), x -> x.then(0, 2),
            x -> x.thenPaid(31, 0), x -> x.thenPaid(0, 6), x -> x.when(6), x -> x.silence(6, 0), x -> x.silence(0, 31),
            x -> x.trick(31, 0), x -> x.trick(0, 2), x -> x.signal(6, 0), x -> x.signal(0, 1), x -> x.bestSignal(6, 0),
            x -> x.bestSignal(0, 2), x -> x.look(6), x -> x.odds(6, 0), x -> x.odds(0, 2)};
        for (int i = 0; i < beyond.length; i++) {
            refuse("thought beyond " + i, open, BEYOND, beyond[i]);
            refuse("thought beyond, closed " + i, closed, BEYOND, beyond[i]);
        }
        Act[] state = {x -> x.possible(0), x -> x.thinks(0, 0), x -> x.then(0, 0), x -> x.thenPaid(0, 0), x -> x.when(0), x -> x.when(3),
            x -> x.silence(0, 0), x -> x.trick(0, 0), OtherHat::longest, x -> x.signal(0, 0), x -> x.bestSignal(0, 0), x -> x.look(0),
            x -> x.look(3), x -> x.odds(0, 0)};
        for (int i = 0; i < state.length; i++) refuse("thought, closed " + i, closed, STATE, state[i]);
        refuse("when of a SILENT one", open, NONE, x -> x.when(3));
        refuse("look of a SILENT one", open, NONE, x -> x.look(3));
        refuse("look of one that SEES all", open, NONE, x -> x.look(0));
    }

    private static void restRefused() {
        Maker open = RefusalTests::busyOpen;
        refuse("voice", open, BEYOND, x -> x.voice(6, 0, 0));
        refuse("voice act", open, BEYOND, x -> x.voice(0, 4, 0));
        refuse("trace", open, NONE, x -> x.trace(9));
        refuse("trace -1", open, NONE, x -> x.trace(-1));
        refuse("sheet", open, BEYOND, x -> x.sheet(4, 8, 1));
        refuse("sheet bits", open, BEYOND, x -> x.sheet(0, 9, -1));
        refuse("sheet below 0", open, STATE, x -> x.sheet(0, 16, -1));
        refuse("sheet 41", open, BEYOND, x -> x.sheet(0, 16, 41));
        refuse("put", open, BEYOND, x -> x.put(4, 0, 9));
        refuse("put, missing", open, NONE, x -> x.put(3, 99, 9));
        refuse("put number", open, BEYOND, x -> x.put(0, 3, 9));
        refuse("move", open, BEYOND, x -> x.move(4, 0, 3, 0, 1));
        refuse("move, missing", open, NONE, x -> x.move(0, 0, 3, 0, 99));
        refuse("move, unlike", open, KIND, x -> x.move(0, 0, 1, 0, 99));
        refuse("move too many", open, BEYOND, x -> x.move(0, 1, 0, 0, 3));
        refuse("move too many to", open, BEYOND, x -> x.move(0, 0, 0, 1, 3));
        refuse("worlds", open, BEYOND, x -> x.worlds(4));
        refuse("worlds, missing", RefusalTests::busyClosed, NONE, x -> x.worlds(3));
        refuse("worlds, closed", RefusalTests::busyClosed, STATE, x -> x.worlds(0));
        refuse("worlds, not the world", open, STATE, x -> x.worlds(0));
        refuse("restore", RefusalTests::two, NONE, OtherHat::restore);
        refuse("tell", RefusalTests::filled, FULL, x -> x.tell(0));
        refuse("count", open, BEYOND, x -> x.count(10));
        refuse("told", open, BEYOND, x -> x.told(0));
        refuse("told 6", open, BEYOND, x -> x.told(6));
    }

    private static void nobodyThere() {
        Act[] beyond = {x -> x.ofMan(0, 0), x -> x.tellMan(0, 2, 0), x -> x.tellMan(0, 3, 0), x -> x.become(0, 0), x -> x.as(0, 0),
            x -> x.possible(1), x -> x.thinks(0, 0), x -> x.thenPaid(0, 0), x -> x.when(0), x -> x.silence(0, 0), x -> x.signal(0, 0),
            x -> x.bestSignal(0, 0), x -> x.look(0), x -> x.odds(0, 0), x -> x.voice(0, 0, 0)};
        for (int i = 0; i < beyond.length; i++) refuse("nobody there " + i, RefusalTests::empty, BEYOND, beyond[i]);
    }

    public static void main(String[] args) {
        says("Each act tells its ERRORS in the order in which they are asked; one that answers an ERROR changes nothing but what told() tells.");
        menRefused();
        textsAndBellsRefused();
        restRefused();
        nobodyThere();
        thoughtRefused();
        System.out.println(refused + " calls were refused");
        end();
    }
}
