import java.util.ArrayList;
import java.util.List;

/** A test for each sentence on parts, tales, branches, slips and tellings that names a boundary. */
public final class BoundaryHouseTest {
    private static final int NONE = EntailedJoke.NONE, BAD = EntailedJoke.BAD;
    private static final int NO = EntailedJoke.NO, FULL = EntailedJoke.FULL;
    private static final int PLAIN = 0, LOSE = 1, CHANGE = 2, ABOUT = 3, FORGET = 4, MEND = 5;
    private static final Checks checks = new Checks();
    private static final Sentences sentence = new Sentences(checks);

    public static void main(String[] args) {
        calls();
        parts();
        thePoint();
        theDuck();
        sizesOfTales();
        branches();
        parents();
        rowAtFirst();
        kindsOfSlips();
        placesOfSlips();
        partsOfSlips();
        plain();
        lose();
        change();
        about();
        forget();
        mend();
        mendIfThePointIsNotInIt();
        mendOfTen();
        toAGreaterNumber();
        whatItHadIsLost();
        theFirstIsItsParent();
        newObject();
        house();
        houseLeaves();
        sayIsBad();
        sayIsFull();
        hush();
        rowStaysAsItIs();
        parentNone();
        taleIsBad();
        handIsBad();
        handIsNo();
        undoIsNo();
        atNone();
        atNotSoMany();
        atIsBad();
        parentIsBad();
        checks.end();
    }

    // ---- what the tests share

    private static int[] joined(int[] parts, int... more) {
        int[] all = java.util.Arrays.copyOf(parts, parts.length + more.length);
        System.arraycopy(more, 0, all, parts.length, more.length);
        return all;
    }

    private static void dueHad(int[] told, int kind, int i, int x, int... had) {
        EntailedJoke joke = Checks.with(0, told);
        String call = told.length + " parts, hand(0, 1, " + kind + ", " + i + ", " + x + ")";
        checks.due(call, joke.hand(0, 1, kind, i, x), had.length);
        checks.dueTale(joke, 1, had);
    }

    // ---- what it is

    private static void calls() {
        sentence.of("What it is", "An object is used for at most 512 calls after it has been made");
        EntailedJoke refused = new EntailedJoke();
        for (int call = 1; call <= 511; call++) {
            refused.say(10);
        }
        checks.due("512th call, status(0)", refused.status(0), 511);
        EntailedJoke told = new EntailedJoke();
        for (int call = 1; call <= 511; call++) {
            told.tale(call % 8);
        }
        checks.due("512th call, count(4)", told.count(4), 8);
        EntailedJoke typed = new EntailedJoke();
        for (int call = 1; call <= 511; call++) {
            typed.type('a');
        }
        checks.due("512th call, clear()", typed.clear(), 150);
        EntailedJoke heard = new EntailedJoke();
        for (int call = 1; call <= 511; call++) {
            checks.due("call " + call, call % 2 == 0 ? heard.forget() : heard.heard(1, 1), 1);
        }
        checks.due("512th call, forget()", heard.forget(), 1);
        dearCalls();
    }

    private static void dearCalls() {
        EntailedJoke joke = new EntailedJoke();
        for (int x : new int[] {0, 1, 2, 3, 4, 5, 6, 8, 7, 9}) {
            joke.say(x);
        }
        joke.tale(7);
        int calls = 11;
        for (; calls + 9 < 512; calls += 9) {
            checks.due("hand(0, 1, 0, 0, 0)", joke.hand(0, 1, 0, 0, 0), NO);
            checks.due("slip(7)", joke.slip(7), 0);
            checks.due("pawned(1023, 1)", joke.pawned(1023, 1), 128);
            checks.due("funniest(4, 3)", joke.funniest(4, 3), 9);
            checks.due("odds(7, 1, 4, 10)", joke.odds(7, 1, 4, 10), 1);
            checks.due("part(1)", joke.part(1), 5);
            checks.due("first(0)", joke.first(0), 7);
            checks.due("next()", joke.next(), 0);
            checks.due("centuries(7, 999999, 60)", joke.centuries(7, 999999, 60), 1);
        }
        for (; calls < 511; calls++) {
            checks.due("covers(7)", joke.covers(7), 1);
        }
        checks.due("512th call, status(1)", joke.status(1), 55);
    }

    // ---- Terms 1

    private static void parts() {
        sentence.of("Terms", "PARTS are 0 .. 9;");
        EntailedJoke joke = new EntailedJoke();
        checks.due("say(-1)", joke.say(-1), BAD);
        checks.due("say(0)", joke.say(0), 1);
        checks.due("say(9)", joke.say(9), 2);
        checks.due("say(10)", joke.say(10), BAD);
        checks.dueRow(joke, 0, 9);
    }

    private static void thePoint() {
        sentence.of("Terms", "9 is THE POINT,");
        for (int x = 0; x < 10; x++) {
            EntailedJoke joke = Checks.with(0, x);
            checks.due("pointless() of " + x, joke.pointless(), x == 9 ? NONE : 0);
            checks.due("parts of " + x + " mended", joke.hand(0, 1, MEND, 9, 0), x == 9 ? 1 : 2);
            checks.due("fun(0) of " + x, joke.fun(0), x == 9 ? 5 : 2);
        }
    }

    private static void theDuck() {
        sentence.of("Terms", "7 THE DUCK.");
        for (int x = 0; x < 9; x++) {
            EntailedJoke joke = Checks.with(0, x, 9);
            checks.due("centuries of " + x, joke.centuries(0, 0, 0), x == 7 ? NONE : 0);
            checks.due("fun(0) of " + x + ", 9", joke.fun(0), x == 7 ? 12 : 7);
        }
    }

    private static void sizesOfTales() {
        sentence.of("Terms", "A TALE is a row of 0 to 10 PARTS.");
        EntailedJoke joke = new EntailedJoke();
        for (int n = 0; n <= 10; n++) {
            checks.due("tale(3) of " + n, joke.tale(3), n);
            checks.dueTale(joke, 3, Checks.rising(n));
            checks.due("say", joke.say(n % 10), n < 10 ? n + 1 : FULL);
        }
        checks.due("an 11th part by MEND", Checks.with(0, Checks.like(1, 10)).hand(0, 1, MEND, 9, 1), 10);
        checks.due("an 11th part by read()", Checks.read(joke, "house;tale 0 1 1 1 1 1 1 1 1 1 1 1;"), -10 - 33);
        checks.due("a tenth part by read()", Checks.read(joke, "house;tale 0 1 1 1 1 1 1 1 1 1 1  ;"), 2);
        checks.dueTale(joke, 0, Checks.like(1, 10));
    }

    private static void branches() {
        sentence.of("Terms", "BRANCHES 0 .. 7: each has a TALE (empty at first),");
        EntailedJoke joke = new EntailedJoke();
        for (int branch = 0; branch < 8; branch++) {
            checks.dueTale(joke, branch);
            joke.say(branch);
        }
        for (int branch = 0; branch < 8; branch++) {
            checks.due("tale(" + branch + ")", joke.tale(branch), 8);
            checks.due("count(0)", joke.count(0), branch + 1);
            checks.dueTale(joke, branch, Checks.rising(8));
        }
        checks.due("at(-1, NONE)", joke.at(-1, NONE), -10);
        checks.due("at(8, NONE)", joke.at(8, NONE), -10);
        checks.due("tale(-1)", joke.tale(-1), BAD);
        checks.due("tale(8)", joke.tale(8), BAD);
    }

    private static void parents() {
        sentence.of("Terms", "a PARENT (a BRANCH of a lesser number, or NONE; NONE at first).");
        for (int b = 0; b < 8; b++) {
            checks.due("parent(" + b + ") at first", new EntailedJoke().parent(b), NONE);
            for (int a = 0; a < 8; a++) {
                EntailedJoke joke = Checks.with(a, 5);
                joke.hand(a, b, PLAIN, 0, 0);
                checks.due("parent(" + b + ") behind hand(" + a + ", " + b + ")", joke.parent(b), a < b ? a : NONE);
            }
        }
    }

    private static void rowAtFirst() {
        sentence.of("Terms", "ROW: a TALE aside (empty at first).");
        EntailedJoke joke = new EntailedJoke();
        checks.due("count(2) at first", joke.count(2), 0);
        checks.due("tale(0) at first", joke.tale(0), 0);
        checks.due("say(3)", joke.say(3), 1);
        checks.due("count(2)", joke.count(2), 1);
        checks.dueTale(joke, 0);
    }

    private static void kindsOfSlips() {
        sentence.of("Terms", "0 PLAIN: it stays.");
        sentence.of("Terms", "5 MEND (under CHANGE)");
        EntailedJoke joke = Checks.with(0, 4);
        checks.due("KIND -1", joke.hand(0, 1, -1, 0, 0), BAD);
        checks.due("KIND 0", joke.hand(0, 1, 0, 0, 0), 1);
        checks.due("KIND 5", joke.hand(0, 1, 5, 0, 0), 2);
        checks.due("KIND 6", joke.hand(0, 1, 6, 0, 0), BAD);
    }

    private static void placesOfSlips() {
        sentence.of("Terms", "a place i (0 .. 9),");
        EntailedJoke joke = Checks.with(0, Checks.rising(10));
        for (int kind = 0; kind < 6; kind++) {
            checks.due("place -1", joke.hand(0, 1, kind, -1, 0), BAD);
            checks.due("place 10", joke.hand(0, 1, kind, 10, 0), BAD);
        }
        joke.hand(0, 1, LOSE, 0, 0);
        checks.dueTale(joke, 1, 1, 2, 3, 4, 5, 6, 7, 8, 9);
        joke.hand(0, 1, LOSE, 9, 0);
        checks.dueTale(joke, 1, Checks.rising(9));
    }

    private static void partsOfSlips() {
        sentence.of("Terms", "a PART x (0 .. 9).");
        EntailedJoke joke = Checks.with(0, 4);
        for (int kind = 0; kind < 6; kind++) {
            checks.due("x -1", joke.hand(0, 1, kind, 0, -1), BAD);
            checks.due("x 10", joke.hand(0, 1, kind, 0, 10), BAD);
        }
        joke.hand(0, 1, CHANGE, 0, 0);
        checks.dueTale(joke, 1, 0);
        joke.hand(0, 1, CHANGE, 0, 9);
        checks.dueTale(joke, 1, 9);
    }

    private static void plain() {
        sentence.of("Terms", "0 PLAIN: it stays.");
        for (int n = 1; n <= 10; n++) {
            for (int i = 0; i < 10; i++) {
                dueHad(Checks.rising(n), PLAIN, i, 9 - i, Checks.rising(n));
            }
        }
    }

    private static int[] without(int[] parts, int place) {
        List<Integer> left = new ArrayList<>();
        for (int i = 0; i < parts.length; i++) {
            if (i != place) {
                left.add(parts[i]);
            }
        }
        return left.stream().mapToInt(x -> x).toArray();
    }

    private static void lose() {
        sentence.of("Terms", "1 LOSE (under PLAIN): as PLAIN, then the PART in place i is lost"
            + " (if i is less than n).");
        for (int n = 1; n <= 10; n++) {
            for (int i = 0; i < 10; i++) {
                dueHad(Checks.rising(n), LOSE, i, 3, i < n ? without(Checks.rising(n), i) : Checks.rising(n));
            }
        }
        dueHad(new int[] {6}, LOSE, 0, 0);
        dueHad(new int[] {6}, LOSE, 1, 0, 6);
    }

    private static void change() {
        sentence.of("Terms", "2 CHANGE (under PLAIN): as PLAIN, then that in place i is x (if i is less than n).");
        for (int n = 1; n <= 10; n++) {
            for (int i = 0; i < 10; i++) {
                int[] had = Checks.rising(n);
                if (i < n) {
                    had[i] = 9 - i;
                }
                dueHad(Checks.rising(n), CHANGE, i, 9 - i, had);
            }
        }
    }

    private static void about() {
        sentence.of("Terms", "3 ABOUT (under PLAIN): as PLAIN, then those in places i and i and 1 change places"
            + " (if there are both).");
        for (int n = 1; n <= 10; n++) {
            for (int i = 0; i < 10; i++) {
                int[] had = Checks.rising(n);
                if (i < n - 1) {
                    had[i] = i + 1;
                    had[i + 1] = i;
                }
                dueHad(Checks.rising(n), ABOUT, i, 3, had);
            }
        }
    }

    private static void forget() {
        sentence.of("Terms", "4 FORGET (under LOSE): as LOSE, then all PARTS behind place i"
            + " (from the one that is in i now on) are lost, too.");
        for (int n = 1; n <= 10; n++) {
            for (int i = 0; i < 10; i++) {
                dueHad(Checks.rising(n), FORGET, i, 3, Checks.rising(Math.min(i, n)));
            }
        }
    }

    private static void mend() {
        sentence.of("Terms", "5 MEND (under CHANGE): as CHANGE,");
        for (int n = 1; n <= 9; n++) {
            for (int i = 0; i < 10; i++) {
                int[] had = Checks.rising(n);
                if (i < n) {
                    had[i] = 8;
                }
                dueHad(Checks.rising(n), MEND, i, 8, joined(had, 9));
            }
        }
    }

    private static void mendIfThePointIsNotInIt() {
        sentence.of("Terms", "then, if THE POINT is not in it, THE POINT comes behind it");
        dueHad(new int[] {9, 2, 3}, MEND, 1, 4, 9, 4, 3);
        dueHad(new int[] {1, 9, 3}, MEND, 0, 4, 4, 9, 3);
        dueHad(new int[] {1, 2, 9}, MEND, 3, 4, 1, 2, 9);
        dueHad(new int[] {1, 2, 9}, MEND, 2, 4, 1, 2, 4, 9);
        dueHad(new int[] {1, 2, 3}, MEND, 0, 9, 9, 2, 3);
        dueHad(new int[] {1, 2, 3}, MEND, 3, 9, 1, 2, 3, 9);
        dueHad(new int[] {9, 9}, MEND, 0, 4, 4, 9);
        dueHad(new int[] {9}, MEND, 0, 4, 4, 9);
    }

    private static void mendOfTen() {
        sentence.of("Terms", "THE POINT comes behind it (if it has fewer than 10 PARTS).");
        dueHad(Checks.like(1, 8), MEND, 9, 0, joined(Checks.like(1, 8), 9));
        dueHad(Checks.like(1, 9), MEND, 9, 0, joined(Checks.like(1, 9), 9));
        dueHad(Checks.like(1, 10), MEND, 0, 1, Checks.like(1, 10));
        dueHad(joined(Checks.like(1, 9), 9), MEND, 9, 1, Checks.like(1, 10));
        dueHad(joined(Checks.like(1, 8), 9), MEND, 8, 1, joined(Checks.like(1, 9), 9));
    }

    private static void toAGreaterNumber() {
        sentence.of("Terms", "a BRANCH tells its TALE to another one (of greater number),");
        for (int a = 0; a < 8; a++) {
            for (int b = 0; b < 8; b++) {
                EntailedJoke joke = Checks.with(a, 5, 6);
                checks.due("hand(" + a + ", " + b + ", ..)", joke.hand(a, b, PLAIN, 0, 0), b > a ? 2 : BAD);
                checks.due("count(0)", joke.count(0), b > a ? 2 : 1);
            }
        }
    }

    private static void whatItHadIsLost() {
        sentence.of("Terms", "that has it then (what it had is lost),");
        EntailedJoke joke = Checks.with(1, 5, 6);
        Checks.tell(joke, 4, Checks.rising(10));
        checks.due("hand to one that had more", joke.hand(1, 4, PLAIN, 0, 0), 2);
        checks.dueTale(joke, 4, 5, 6);
        checks.due("hand of nothing left", joke.hand(1, 4, FORGET, 0, 0), 0);
        checks.dueTale(joke, 4);
        checks.due("hand to one that had none", joke.hand(1, 4, LOSE, 0, 0), 1);
        checks.dueTale(joke, 4, 6);
        checks.dueTale(joke, 1, 5, 6);
    }

    private static void theFirstIsItsParent() {
        sentence.of("Terms", "the first is its PARENT.");
        EntailedJoke joke = Checks.with(0, 5);
        joke.hand(0, 6, PLAIN, 0, 0);
        joke.hand(6, 7, PLAIN, 0, 0);
        checks.due("parent(7)", joke.parent(7), 6);
        joke.hand(0, 7, LOSE, 0, 0);
        checks.due("parent(7), of nothing left", joke.parent(7), 0);
        checks.due("parent(6)", joke.parent(6), 0);
        checks.due("parent(0)", joke.parent(0), NONE);
    }

    // ---- promises 1 to 7, 11 and 12

    private static void newObject() {
        sentence.of("Promise 1", "As told; all TALES are empty.");
        EntailedJoke joke = new EntailedJoke();
        for (int branch = 0; branch < 8; branch++) {
            checks.due("at(" + branch + ", NONE)", joke.at(branch, NONE), 0);
        }
        for (int what = 0; what < 6; what++) {
            checks.due("count(" + what + ")", joke.count(what), 0);
        }
        EntailedJoke other = Checks.with(0, 1);
        checks.due("count(0) of another object", joke.count(0) + 10 * other.count(0), 10);
    }

    private static void house() {
        sentence.of("Promise 2", "All as at first (but for IMAGES, THE TEXT, THE FRACTION, STATUS):"
            + " how many TALES were not empty.");
        EntailedJoke joke = new EntailedJoke();
        checks.due("house() of none", joke.house(), 0);
        for (int branch = 0; branch < 8; branch++) {
            joke.say(1);
            joke.tale(branch);
        }
        checks.due("house() of eight", joke.house(), 8);
        checks.due("house() again", joke.house(), 0);
        checks.due("digest()", joke.digest(), new EntailedJoke().digest());
        checks.due("undo()", joke.undo(), NO);
        Checks.tell(joke, 7);
        checks.due("house() of one told that is empty", joke.house(), 0);
        Checks.tell(joke, 7, 3);
        joke.hand(7, 7, PLAIN, 0, 0);
        checks.due("house() of one", joke.house(), 1);
        EntailedJoke full = Checks.with(0, Checks.rising(10));
        for (int b = 1; b < 8; b++) {
            full.hand(b - 1, b, PLAIN, 0, 0);
            full.say(b);
            full.heard(b, b % 2);
        }
        checks.due("house() of a full one", full.house(), 8);
        checks.due("digest()", full.digest(), new EntailedJoke().digest());
        checks.due("undo()", full.undo(), NO);
    }

    private static void houseLeaves() {
        sentence.of("Promise 2", "(but for IMAGES, THE TEXT, THE FRACTION, STATUS)");
        EntailedJoke joke = Checks.with(2, 4, 4, 5);
        joke.image(0);
        Checks.tell(joke, 2, 6, 7);
        joke.image(1);
        Checks.type(joke, "house;tale 5 5;");
        joke.odds(2, 6, 1, 10);
        joke.type(-1);
        joke.hand(0, 1, 0, 0, 0);
        joke.house();
        checks.due("part(0)", joke.part(0), 1);
        checks.due("part(1)", joke.part(1), 2);
        checks.dueStatus(joke, 1, 1, 0);
        checks.due("count(5)", joke.count(5), 15);
        checks.due("read()", joke.read(), 2);
        checks.dueTale(joke, 5, 5);
        checks.due("from(0)", joke.from(0), 1);
        checks.dueTale(joke, 2, 4, 4, 5);
        checks.due("from(1)", joke.from(1), 1);
        checks.dueTale(joke, 2, 6, 7);
    }

    private static void sayIsBad() {
        sentence.of("Promise 3", "A PART comes behind ROW: how many it has. BAD;");
        EntailedJoke joke = new EntailedJoke();
        checks.dueRefused(joke, "say(-1)", j -> j.say(-1), BAD, BAD);
        checks.due("say(0)", joke.say(0), 1);
        checks.due("say(9)", joke.say(9), 2);
        checks.dueRefused(joke, "say(10)", j -> j.say(10), BAD, BAD);
        checks.dueRow(joke, 0, 9);
    }

    private static void sayIsFull() {
        sentence.of("Promise 3", "FULL: 10.");
        EntailedJoke joke = new EntailedJoke();
        Checks.say(joke, Checks.rising(9));
        checks.due("a tenth", joke.say(9), 10);
        checks.dueRefused(joke, "an 11th", j -> j.say(1), FULL, FULL);
        checks.dueRow(joke, Checks.rising(10));
        joke.hush();
        checks.due("say behind hush()", joke.say(1), 1);
    }

    private static void hush() {
        sentence.of("Promise 4", "ROW is empty: how many it had.");
        EntailedJoke joke = new EntailedJoke();
        for (int n = 0; n <= 10; n++) {
            Checks.say(joke, Checks.rising(n));
            checks.due("hush() of " + n, joke.hush(), n);
            checks.due("count(2)", joke.count(2), 0);
        }
        checks.due("hush() again", joke.hush(), 0);
        checks.dueStatus(joke, 0, 0, 0);
    }

    private static void rowStaysAsItIs() {
        sentence.of("Promise 5", "ROW stays as it is): how many PARTS it has.");
        for (int n = 0; n <= 10; n++) {
            EntailedJoke joke = new EntailedJoke();
            Checks.say(joke, Checks.rising(n));
            checks.due("tale(0) of " + n, joke.tale(0), n);
            checks.due("tale(7) of " + n, joke.tale(7), n);
            checks.dueTale(joke, 7, Checks.rising(n));
            checks.dueRow(joke, Checks.rising(n));
        }
    }

    private static void parentNone() {
        sentence.of("Promise 5", "ROW becomes the TALE of a BRANCH (PARENT NONE;");
        EntailedJoke joke = Checks.with(0, 5);
        joke.hand(0, 7, PLAIN, 0, 0);
        checks.due("parent(7)", joke.parent(7), 0);
        joke.tale(7);
        checks.due("parent(7) behind an empty tale(7)", joke.parent(7), NONE);
        joke.hand(0, 7, PLAIN, 0, 0);
        Checks.tell(joke, 7, 5);
        checks.due("parent(7) behind a like tale(7)", joke.parent(7), NONE);
        joke.hand(0, 7, PLAIN, 0, 0);
        Checks.tell(joke, 0, 6);
        checks.due("parent(7) behind tale(0)", joke.parent(7), 0);
    }

    private static void taleIsBad() {
        sentence.of("Promise 5", "BAD.");
        EntailedJoke joke = new EntailedJoke();
        joke.say(4);
        checks.dueRefused(joke, "tale(-1)", j -> j.tale(-1), BAD, BAD);
        checks.due("tale(0)", joke.tale(0), 1);
        checks.due("tale(7)", joke.tale(7), 1);
        checks.dueRefused(joke, "tale(8)", j -> j.tale(8), BAD, BAD);
    }

    private static void handIsBad() {
        sentence.of("Promise 6", "BAD: b not greater than a, too;");
        EntailedJoke joke = Checks.with(3, 4);
        checks.dueRefused(joke, "b is a", j -> j.hand(3, 3, 0, 0, 0), BAD, BAD);
        checks.dueRefused(joke, "b is less", j -> j.hand(3, 2, 0, 0, 0), BAD, BAD);
        checks.due("b is greater", joke.hand(3, 4, 0, 0, 0), 1);
        checks.dueRefused(joke, "a is -1", j -> j.hand(-1, 3, 0, 0, 0), BAD, BAD);
        checks.dueRefused(joke, "b is 8", j -> j.hand(3, 8, 0, 0, 0), BAD, BAD);
        checks.due("b is 7", joke.hand(3, 7, 0, 0, 0), 1);
        checks.dueRefused(joke, "a is 7, b 8", j -> j.hand(7, 8, 0, 0, 0), BAD, BAD);
        checks.dueRefused(joke, "KIND is 6", j -> j.hand(3, 5, 6, 0, 0), BAD, BAD);
        checks.due("KIND is 5", joke.hand(3, 5, 5, 0, 0), 2);
        checks.dueRefused(joke, "i is 10", j -> j.hand(3, 5, 0, 10, 0), BAD, BAD);
        checks.due("i is 9", joke.hand(3, 5, 0, 9, 0), 1);
        checks.dueRefused(joke, "x is 10", j -> j.hand(3, 5, 0, 0, 10), BAD, BAD);
        checks.due("x is 9", joke.hand(3, 5, 0, 0, 9), 1);
    }

    private static void handIsNo() {
        sentence.of("Promise 6", "NO: a has none.");
        EntailedJoke joke = new EntailedJoke();
        for (int kind = 0; kind < 6; kind++) {
            int which = kind;
            checks.dueRefused(joke, "KIND " + kind + " of none", j -> j.hand(0, 1, which, 0, 0), NO, NO);
        }
        Checks.tell(joke, 0, 4);
        checks.due("of one", joke.hand(0, 1, PLAIN, 0, 0), 1);
        checks.due("to none left", joke.hand(0, 1, LOSE, 0, 0), 0);
        checks.dueRefused(joke, "of none left", j -> j.hand(1, 2, PLAIN, 0, 0), NO, NO);
    }

    private static void undoIsNo() {
        sentence.of("Promise 7", "how many TALES are not empty then. NO: none may be.");
        EntailedJoke joke = new EntailedJoke();
        checks.dueRefused(joke, "undo() at first", j -> j.undo(), NO, NO);
        joke.tale(0);
        checks.due("undo() of one told that is empty", joke.undo(), 0);
        checks.dueRefused(joke, "undo() of no more", j -> j.undo(), NO, NO);
        for (int branch = 0; branch < 8; branch++) {
            Checks.tell(joke, branch, branch);
        }
        for (int left = 7; left >= 0; left--) {
            checks.due("undo()", joke.undo(), left);
        }
        checks.dueRefused(joke, "undo() behind eight", j -> j.undo(), NO, NO);
    }

    private static void atNone() {
        sentence.of("Promise 11", "how many PARTS (i = NONE), the i-th.");
        for (int n = 0; n <= 10; n++) {
            EntailedJoke joke = Checks.with(7, Checks.rising(n));
            checks.due("at(7, NONE)", joke.at(7, NONE), n);
            for (int i = 0; i < n; i++) {
                checks.due("at(7, " + i + ")", joke.at(7, i), i);
            }
        }
    }

    private static void atNotSoMany() {
        sentence.of("Promise 11", "-5: not so many.");
        for (int n = 0; n <= 10; n++) {
            EntailedJoke joke = Checks.with(7, Checks.like(3, n));
            for (int i : new int[] {n - 1, n, n + 1, 10, 11, 15, 16, 31, 64, Integer.MAX_VALUE}) {
                if (i != NONE) {
                    checks.due("at(7, " + i + ") of " + n, joke.at(7, i), i < n ? 3 : -5);
                }
            }
            checks.dueStatus(joke, 0, 0, 0);
        }
    }

    private static void atIsBad() {
        sentence.of("Promise 11", "BAD: -10.");
        EntailedJoke joke = Checks.with(0, 3);
        Checks.tell(joke, 7, 4);
        checks.dueRefused(joke, "at(-1, 0)", j -> j.at(-1, 0), -10, BAD);
        checks.due("at(0, 0)", joke.at(0, 0), 3);
        checks.due("at(7, 0)", joke.at(7, 0), 4);
        checks.dueRefused(joke, "at(8, 0)", j -> j.at(8, 0), -10, BAD);
        checks.dueRefused(joke, "at(0, -2)", j -> j.at(0, -2), -10, BAD);
        checks.due("at(0, -1)", joke.at(0, -1), 1);
        checks.dueRefused(joke, "at(8, 99)", j -> j.at(8, 99), -10, BAD);
    }

    private static void parentIsBad() {
        sentence.of("Promise 12", "The PARENT. NONE. BAD.");
        EntailedJoke joke = Checks.with(0, 3);
        joke.hand(0, 7, PLAIN, 0, 0);
        checks.dueRefused(joke, "parent(-1)", j -> j.parent(-1), BAD, BAD);
        checks.due("parent(0)", joke.parent(0), NONE);
        checks.due("parent(7)", joke.parent(7), 0);
        checks.dueRefused(joke, "parent(8)", j -> j.parent(8), BAD, BAD);
        checks.dueStatus(joke, 2, 0, 0);
    }
}
