/** Promises 1 to 9, 11 and 12. */
public final class HouseTest {
    private static final int NONE = EntailedJoke.NONE, BAD = EntailedJoke.BAD;
    private static final int NO = EntailedJoke.NO, FULL = EntailedJoke.FULL;
    private static final int[] WRONG_BRANCHES = {-1, 8, Integer.MIN_VALUE, Integer.MAX_VALUE};
    private static final int[] WRONG_TENS = {-1, 10, Integer.MIN_VALUE, Integer.MAX_VALUE};
    private static final Checks checks = new Checks();

    public static void main(String[] args) {
        newObject();
        house();
        say();
        hush();
        tale();
        kindsOfSlips();
        hand();
        undo();
        type();
        clear();
        at();
        parent();
        checks.end();
    }

    private static void newObject() {
        checks.about("promise 1");
        EntailedJoke joke = new EntailedJoke();
        for (int branch = 0; branch < 8; branch++) {
            checks.dueTale(joke, branch);
            checks.due("parent", joke.parent(branch), NONE);
        }
        for (int what = 0; what < 6; what++) {
            checks.due("count(" + what + ")", joke.count(what), 0);
        }
        checks.due("part(0)", joke.part(0), 0);
        checks.due("part(1)", joke.part(1), 1);
        checks.dueStatus(joke, 0, 0, 0);
        checks.due("from(0)", joke.from(0), NO);
        checks.due("from(1)", joke.from(1), NO);
        checks.due("undo()", joke.undo(), NO);
    }

    private static void house() {
        checks.about("promise 2");
        EntailedJoke joke = Checks.with(0, 1, 2, 3);
        joke.hand(0, 3, 1, 0, 0);
        joke.hand(0, 4, 4, 0, 0);
        joke.odds(0, 1, 1, 5);
        joke.image(0);
        joke.heard(1, 1);
        joke.say(4);
        joke.say(10);
        Checks.type(joke, "house;");
        checks.due("house()", joke.house(), 2);
        for (int what = 0; what < 5; what++) {
            checks.due("count(" + what + ")", joke.count(what), 0);
        }
        for (int branch = 0; branch < 8; branch++) {
            checks.dueTale(joke, branch);
            checks.due("parent", joke.parent(branch), NONE);
        }
        checks.due("bytes of THE TEXT", joke.count(5), 6);
        checks.due("part(0)", joke.part(0), 5);
        checks.due("part(1)", joke.part(1), 6);
        checks.due("status(0)", joke.status(0), 1);
        checks.due("undo()", joke.undo(), NO);
        checks.due("house() again", joke.house(), 0);
        checks.due("from(0)", joke.from(0), 1);
        checks.due("from(1)", joke.from(1), NO);
        checks.dueTale(joke, 3, 2, 3);
    }

    private static void say() {
        checks.about("promise 3");
        EntailedJoke joke = new EntailedJoke();
        for (int x : WRONG_TENS) {
            checks.dueRefused(joke, "say(" + x + ")", j -> j.say(x), BAD, BAD);
        }
        for (int x = 0; x < 10; x++) {
            checks.due("say(" + x + ")", joke.say(x), x + 1);
        }
        checks.dueRefused(joke, "an 11th say", j -> j.say(0), FULL, FULL);
        checks.dueRefused(joke, "an 11th, wrong say", j -> j.say(10), BAD, BAD);
        checks.dueRow(joke, 0, 1, 2, 3, 4, 5, 6, 7, 8, 9);
    }

    private static void hush() {
        checks.about("promise 4");
        EntailedJoke joke = new EntailedJoke();
        checks.due("hush()", joke.hush(), 0);
        Checks.say(joke, 3, 1, 4);
        checks.due("hush()", joke.hush(), 3);
        checks.due("hush()", joke.hush(), 0);
        checks.dueRow(joke);
        checks.due("say after hush", joke.say(5), 1);
        checks.dueRow(joke, 5);
        Checks.say(joke, 0, 1, 2, 3, 4, 5, 6, 7, 8, 9);
        checks.due("hush()", joke.hush(), 10);
    }

    private static void tale() {
        checks.about("promise 5");
        EntailedJoke joke = new EntailedJoke();
        for (int branch : WRONG_BRANCHES) {
            checks.dueRefused(joke, "tale(" + branch + ")", j -> j.tale(branch), BAD, BAD);
        }
        Checks.say(joke, 9, 0, 9);
        checks.due("tale(0)", joke.tale(0), 3);
        joke.hand(0, 7, 0, 0, 0);
        joke.say(2);
        checks.due("tale(7)", joke.tale(7), 4);
        checks.dueTale(joke, 7, 9, 0, 9, 2);
        checks.dueTale(joke, 0, 9, 0, 9);
        checks.due("parent(7)", joke.parent(7), NONE);
        checks.dueRow(joke, 9, 0, 9, 2);
        joke.hush();
        checks.due("tale(7) of an empty ROW", joke.tale(7), 0);
        checks.dueTale(joke, 7);
        checks.due("may be undone", joke.count(4), 4);
    }

    private static void dueSlip(int kind, int i, int x, int[] told, int... had) {
        checks.about("promise 6, SLIP " + kind + " " + i + " " + x);
        EntailedJoke joke = Checks.with(0, told);
        checks.due("hand", joke.hand(0, 1, kind, i, x), had.length);
        checks.dueTale(joke, 1, had);
        checks.dueTale(joke, 0, told);
    }

    private static void kindsOfSlips() {
        int[] three = {4, 5, 6};
        int[] ten = {0, 1, 2, 3, 4, 5, 6, 7, 8, 0};
        dueSlip(0, 1, 1, three, 4, 5, 6);
        dueSlip(1, 0, 9, three, 5, 6);
        dueSlip(1, 2, 9, three, 4, 5);
        dueSlip(1, 3, 9, three, 4, 5, 6);
        dueSlip(1, 9, 0, ten, 0, 1, 2, 3, 4, 5, 6, 7, 8);
        dueSlip(2, 0, 9, three, 9, 5, 6);
        dueSlip(2, 2, 0, three, 4, 5, 0);
        dueSlip(2, 3, 9, three, 4, 5, 6);
        dueSlip(2, 9, 9, ten, 0, 1, 2, 3, 4, 5, 6, 7, 8, 9);
        dueSlip(3, 0, 9, three, 5, 4, 6);
        dueSlip(3, 1, 9, three, 4, 6, 5);
        dueSlip(3, 2, 9, three, 4, 5, 6);
        dueSlip(3, 9, 0, ten, 0, 1, 2, 3, 4, 5, 6, 7, 8, 0);
        dueSlip(3, 8, 0, ten, 0, 1, 2, 3, 4, 5, 6, 7, 0, 8);
        dueSlip(4, 0, 9, three);
        dueSlip(4, 1, 9, three, 4);
        dueSlip(4, 2, 9, three, 4, 5);
        dueSlip(4, 3, 9, three, 4, 5, 6);
        dueSlip(4, 9, 9, ten, 0, 1, 2, 3, 4, 5, 6, 7, 8);
        dueSlip(5, 0, 8, three, 8, 5, 6, 9);
        dueSlip(5, 2, 9, three, 4, 5, 9);
        dueSlip(5, 3, 8, three, 4, 5, 6, 9);
        dueSlip(5, 0, 1, new int[] {9, 9, 2}, 1, 9, 2);
        dueSlip(5, 0, 1, new int[] {9, 2}, 1, 2, 9);
        dueSlip(5, 0, 1, ten, 1, 1, 2, 3, 4, 5, 6, 7, 8, 0);
        dueSlip(5, 9, 9, ten, 0, 1, 2, 3, 4, 5, 6, 7, 8, 9);
    }

    private static void hand() {
        checks.about("promise 6");
        EntailedJoke joke = Checks.with(2, 1, 9);
        checks.due("hand", joke.hand(2, 5, 0, 0, 0), 2);
        checks.due("parent(5)", joke.parent(5), 2);
        checks.due("parent(2)", joke.parent(2), NONE);
        checks.due("hand over what was", joke.hand(2, 5, 1, 0, 0), 1);
        checks.dueTale(joke, 5, 9);
        checks.due("hand on", joke.hand(5, 7, 4, 0, 0), 0);
        checks.due("parent of an empty one", joke.parent(7), 5);
        for (int wrong : WRONG_BRANCHES) {
            checks.dueRefused(joke, "hand from " + wrong, j -> j.hand(wrong, 7, 0, 0, 0), BAD, BAD);
            checks.dueRefused(joke, "hand to " + wrong, j -> j.hand(2, wrong, 0, 0, 0), BAD, BAD);
        }
        for (int wrong : WRONG_TENS) {
            checks.dueRefused(joke, "place " + wrong, j -> j.hand(2, 7, 0, wrong, 0), BAD, BAD);
            checks.dueRefused(joke, "part " + wrong, j -> j.hand(2, 7, 0, 0, wrong), BAD, BAD);
        }
        for (int wrong : new int[] {-1, 6, Integer.MIN_VALUE, Integer.MAX_VALUE}) {
            checks.dueRefused(joke, "kind " + wrong, j -> j.hand(2, 7, wrong, 0, 0), BAD, BAD);
        }
        checks.dueRefused(joke, "hand to itself", j -> j.hand(2, 2, 0, 0, 0), BAD, BAD);
        checks.dueRefused(joke, "hand back", j -> j.hand(5, 2, 0, 0, 0), BAD, BAD);
        checks.dueRefused(joke, "hand of nothing", j -> j.hand(0, 1, 0, 0, 0), NO, NO);
        checks.dueRefused(joke, "hand of nothing, mended", j -> j.hand(0, 1, 5, 0, 0), NO, NO);
        checks.dueRefused(joke, "wrong hand of nothing", j -> j.hand(0, 1, 6, 0, 0), BAD, BAD);
    }

    private static void undo() {
        checks.about("promise 7");
        EntailedJoke joke = new EntailedJoke();
        checks.dueRefused(joke, "undo of nothing", j -> j.undo(), NO, NO);
        Checks.tell(joke, 0, 3, 9);
        joke.hand(0, 1, 1, 0, 0);
        joke.hand(0, 2, 0, 0, 0);
        joke.hand(1, 2, 5, 0, 3);
        joke.say(6);
        joke.heard(3, 1);
        checks.due("undo()", joke.undo(), 3);
        checks.dueTale(joke, 2, 3, 9);
        checks.due("parent(2)", joke.parent(2), 0);
        checks.due("ROW stays", joke.count(2), 1);
        checks.due("HEARD stays", joke.count(3), 1);
        checks.due("undo()", joke.undo(), 2);
        checks.dueTale(joke, 2);
        checks.due("parent(2)", joke.parent(2), NONE);
        joke.tale(0);
        checks.dueTale(joke, 0, 6);
        checks.due("undo() of a tale", joke.undo(), 2);
        checks.dueTale(joke, 0, 3, 9);
        checks.due("undo()", joke.undo(), 1);
        checks.due("undo()", joke.undo(), 0);
        checks.dueRefused(joke, "undo of no more", j -> j.undo(), NO, NO);
        nineTold();
    }

    private static void nineTold() {
        checks.about("promise 7, the ninth");
        EntailedJoke joke = new EntailedJoke();
        for (int told = 0; told < 9; told++) {
            Checks.tell(joke, 0, told);
        }
        checks.due("may be undone", joke.count(4), 8);
        for (int told = 7; told >= 0; told--) {
            checks.due("undo()", joke.undo(), 1);
            checks.dueTale(joke, 0, told);
        }
        checks.due("undo()", joke.undo(), NO);
        Checks.tell(joke, 1, 5);
        checks.due("undo() behind that", joke.undo(), 1);
        checks.dueTale(joke, 1);
        ofManyBranches();
    }

    private static void ofManyBranches() {
        checks.about("promise 7, of many branches");
        EntailedJoke joke = Checks.with(0, 3);
        int[] parents = {NONE, NONE, NONE, NONE, NONE, NONE, NONE, NONE};
        for (int branch = 1; branch < 8; branch++) {
            joke.hand((branch - 1) / 2, branch, 0, 0, 0);
            parents[branch] = (branch - 1) / 2;
        }
        joke.hand(5, 6, 0, 0, 0);
        joke.hand(5, 7, 0, 0, 0);
        int[] undone = {7, 6, 7, 6, 5, 4, 3, 2};
        for (int i = 0; i < undone.length; i++) {
            checks.due("undo()", joke.undo(), i < 2 ? 8 : 9 - i);
            int due = i < 2 ? parents[undone[i]] : NONE;
            checks.due("parent(" + undone[i] + ")", joke.parent(undone[i]), due);
            checks.due("size of " + undone[i], joke.at(undone[i], NONE), i < 2 ? 1 : 0);
        }
        checks.due("undo()", joke.undo(), NO);
        checks.dueTale(joke, 1, 3);
    }

    private static void type() {
        checks.about("promise 8");
        EntailedJoke joke = new EntailedJoke();
        for (int wrong : new int[] {-1, 128, Integer.MIN_VALUE, Integer.MAX_VALUE}) {
            checks.dueRefused(joke, "type(" + wrong + ")", j -> j.type(wrong), BAD, BAD);
        }
        for (int i = 1; i <= 150; i++) {
            checks.due("type", joke.type(i == 1 ? 127 : i == 2 ? 0 : ' '), i);
        }
        checks.dueRefused(joke, "a 151st byte", j -> j.type(32), FULL, FULL);
        checks.dueRefused(joke, "a wrong 151st byte", j -> j.type(128), BAD, BAD);
        checks.due("read()", joke.read(), -10);
    }

    private static void clear() {
        checks.about("promise 9");
        EntailedJoke joke = new EntailedJoke();
        checks.due("clear()", joke.clear(), 0);
        Checks.type(joke, "tale");
        checks.due("clear()", joke.clear(), 4);
        checks.due("clear()", joke.clear(), 0);
        checks.due("read()", joke.read(), -10);
        Checks.type(joke, "house;");
        checks.due("read()", joke.read(), 1);
    }

    private static void at() {
        checks.about("promise 11");
        EntailedJoke joke = Checks.with(3, 7, 0, 9);
        checks.dueTale(joke, 3, 7, 0, 9);
        checks.dueTale(joke, 0);
        checks.due("at(3, 10)", joke.at(3, 10), -5);
        checks.due("at(3, MAX)", joke.at(3, Integer.MAX_VALUE), -5);
        checks.dueStatus(joke, 0, 0, 0);
        for (int wrong : WRONG_BRANCHES) {
            checks.dueRefused(joke, "at(" + wrong + ", 0)", j -> j.at(wrong, 0), -10, BAD);
        }
        checks.dueRefused(joke, "at(3, -2)", j -> j.at(3, -2), -10, BAD);
        checks.dueRefused(joke, "at(3, MIN)", j -> j.at(3, Integer.MIN_VALUE), -10, BAD);
    }

    private static void parent() {
        checks.about("promise 12");
        EntailedJoke joke = Checks.with(1, 7);
        joke.hand(1, 6, 0, 0, 0);
        joke.hand(6, 7, 0, 0, 0);
        checks.due("parent(0)", joke.parent(0), NONE);
        checks.due("parent(1)", joke.parent(1), NONE);
        checks.due("parent(6)", joke.parent(6), 1);
        checks.due("parent(7)", joke.parent(7), 6);
        Checks.tell(joke, 1);
        checks.due("parent(6), the parent emptied", joke.parent(6), 1);
        for (int wrong : WRONG_BRANCHES) {
            checks.dueRefused(joke, "parent(" + wrong + ")", j -> j.parent(wrong), BAD, BAD);
        }
    }
}
