/** Promises 29 to 34, and what the calls that only answer leave as it is. */
public final class StateTest {
    private static final int NONE = EntailedJoke.NONE, BAD = EntailedJoke.BAD, NO = EntailedJoke.NO;
    private static final int[] WRONG_BITS = {-1, 2, Integer.MIN_VALUE, Integer.MAX_VALUE};
    private static final Checks checks = new Checks();

    public static void main(String[] args) {
        constants();
        part();
        image();
        from();
        fromBehindOthers();
        status();
        count();
        digest();
        whatOnlyAnswers();
        checks.end();
    }

    private static void constants() {
        checks.about("the constants");
        checks.due("NONE", EntailedJoke.NONE, -1);
        checks.due("BAD", EntailedJoke.BAD, -2);
        checks.due("NO", EntailedJoke.NO, -3);
        checks.due("FULL", EntailedJoke.FULL, -4);
    }

    private static void part() {
        checks.about("promise 29");
        EntailedJoke joke = Checks.with(0, 1, 2, 3, 4, 5, 6, 7);
        checks.due("part(0)", joke.part(0), 0);
        checks.due("part(1)", joke.part(1), 1);
        joke.odds(0, 1, 1, 10);
        checks.due("part(0)", joke.part(0), 6);
        checks.due("part(1)", joke.part(1), 7);
        joke.odds(0, 1, 1, 11);
        checks.due("part(0) behind wrong odds", joke.part(0), 6);
        for (int wrong : WRONG_BITS) {
            checks.dueRefused(joke, "part(" + wrong + ")", j -> j.part(wrong), BAD, BAD);
        }
    }

    private static EntailedJoke rich() {
        EntailedJoke joke = Checks.with(1, 3, 1, 4);
        joke.hand(1, 5, 5, 0, 2);
        joke.say(8);
        joke.say(6);
        joke.heard(4, 1);
        joke.heard(2, 0);
        return joke;
    }

    private static void image() {
        checks.about("promise 30");
        EntailedJoke joke = rich();
        long digest = joke.digest();
        checks.due("image(1)", joke.image(1), 1);
        checks.due("digest()", joke.digest(), digest);
        checks.due("from(0)", joke.from(0), NO);
        joke.house();
        checks.due("image(0)", joke.image(0), 1);
        checks.due("from(1)", joke.from(1), 1);
        checks.due("digest()", joke.digest(), digest);
        joke.from(0);
        checks.due("count(1)", joke.count(1), 0);
        joke.image(1);
        joke.from(1);
        checks.due("count(1), kept anew", joke.count(1), 0);
        for (int wrong : WRONG_BITS) {
            checks.dueRefused(joke, "image(" + wrong + ")", j -> j.image(wrong), BAD, BAD);
        }
    }

    private static void from() {
        checks.about("promise 31");
        EntailedJoke joke = rich();
        checks.dueRefused(joke, "from(0) of none", j -> j.from(0), NO, NO);
        checks.dueRefused(joke, "from(1) of none", j -> j.from(1), NO, NO);
        joke.image(0);
        joke.undo();
        joke.undo();
        joke.forget();
        joke.hush();
        Checks.tell(joke, 5, 0, 0);
        joke.odds(5, 0, 1, 5);
        joke.odds(1, 0, 1, 12);
        Checks.type(joke, "a;");
        checks.due("from(0)", joke.from(0), 1);
        checks.dueTale(joke, 1, 3, 1, 4);
        checks.dueTale(joke, 5, 2, 1, 4, 9);
        checks.due("parent(5)", joke.parent(5), 1);
        checks.due("HEARD", joke.count(3), 2);
        checks.due("door()", joke.door(), 2);
        checks.due("bytes of THE TEXT", joke.count(5), 2);
        checks.due("part(0)", joke.part(0), 1);
        joke.odds(1, 3, 1, 10);
        joke.from(0);
        checks.due("part(0) is no image's", joke.part(0), 2);
        checks.dueStatus(joke, 1, 2, 0);
        checks.due("may be undone", joke.count(4), 2);
        checks.due("undo()", joke.undo(), 1);
        checks.dueTale(joke, 5);
        checks.due("undo()", joke.undo(), 0);
        checks.due("undo()", joke.undo(), NO);
        checks.due("from(0) again", joke.from(0), 1);
        checks.due("may be undone", joke.count(4), 2);
        checks.dueRow(joke, 8, 6);
        for (int wrong : WRONG_BITS) {
            checks.dueRefused(joke, "from(" + wrong + ")", j -> j.from(wrong), BAD, BAD);
        }
    }

    /** What came behind an image must not show through it. */
    private static void fromBehindOthers() {
        checks.about("promise 31, others behind the image");
        EntailedJoke joke = new EntailedJoke();
        Checks.tell(joke, 0, 1, 2);
        Checks.tell(joke, 1, 2, 3);
        joke.hand(0, 2, 0, 0, 0);
        joke.hand(1, 2, 0, 0, 0);
        joke.heard(2, 1);
        joke.heard(1, 0);
        joke.image(1);
        joke.forget();
        joke.heard(3, 0);
        joke.heard(2, 1);
        joke.undo();
        joke.undo();
        joke.undo();
        joke.undo();
        for (int branch = 4; branch < 8; branch++) {
            Checks.tell(joke, branch, 5);
        }
        joke.from(1);
        checks.due("door()", joke.door(), 6);
        checks.due("undo()", joke.undo(), 3);
        checks.dueTale(joke, 2, 1, 2);
        checks.due("parent(2)", joke.parent(2), 0);
        checks.due("undo()", joke.undo(), 2);
        checks.dueTale(joke, 2);
        checks.due("parent(2)", joke.parent(2), NONE);
        checks.due("undo()", joke.undo(), 1);
        checks.dueTale(joke, 1);
        checks.dueTale(joke, 0, 1, 2);
    }

    private static void status() {
        checks.about("promise 32");
        EntailedJoke joke = new EntailedJoke();
        checks.dueStatus(joke, 0, 0, 0);
        joke.say(10);
        joke.at(8, 0);
        joke.fits(0, 2);
        joke.fun(8);
        joke.funniest(5, 0);
        checks.dueStatus(joke, 5, 0, 0);
        joke.undo();
        joke.hand(0, 1, 0, 0, 0);
        joke.from(0);
        checks.dueStatus(joke, 5, 3, 0);
        for (int i = 0; i < 12; i++) {
            joke.say(1);
        }
        for (int i = 0; i < 9; i++) {
            joke.heard(1, 1);
        }
        checks.dueStatus(joke, 5, 3, 5);
        joke.at(0, 0);
        joke.funniest(1, 1);
        joke.read();
        joke.first(0);
        joke.house();
        checks.dueStatus(joke, 5, 3, 5);
        checks.due("status(3)", joke.status(3), -1);
        checks.due("status(-1)", joke.status(-1), -1);
        checks.due("status(MIN)", joke.status(Integer.MIN_VALUE), -1);
        checks.due("status(MAX)", joke.status(Integer.MAX_VALUE), -1);
        checks.dueStatus(joke, 9, 3, 5);
    }

    private static void count() {
        checks.about("promise 33");
        EntailedJoke joke = rich();
        Checks.type(joke, "house");
        int[] due = {2, 7, 2, 2, 2, 5};
        for (int what = 0; what < 6; what++) {
            checks.due("count(" + what + ")", joke.count(what), due[what]);
        }
        for (int wrong : new int[] {-1, 6, Integer.MIN_VALUE, Integer.MAX_VALUE}) {
            checks.dueRefused(joke, "count(" + wrong + ")", j -> j.count(wrong), BAD, BAD);
        }
    }

    private static long folded(long... numbers) {
        long h = 1051;
        for (long number : numbers) {
            h = 31 * h + number;
        }
        return h;
    }

    private static void digest() {
        checks.about("promise 34");
        EntailedJoke joke = new EntailedJoke();
        checks.due("of a new one", joke.digest(), folded(0, 0, 0, 0, 0, 0,
            0, -1, 0, -1, 0, -1, 0, -1, 0, -1, 0, -1, 0, -1, 0, -1, 0, 1));
        joke = rich();
        joke.odds(1, 3, 1, 5);
        joke.type(104);
        checks.due("of a rich one", joke.digest(), folded(2, 7, 2, 2, 2, 1,
            0, -1, 3, 3, 1, 4, -1, 0, -1, 0, -1, 0, -1, 4, 2, 1, 4, 9, 1, 0, -1, 0, -1,
            8, 6, 4, 1, 2, 0, 5, 6));
        long digest = joke.digest();
        joke.undo();
        checks.holds("another digest() behind undo()", joke.digest() != digest);
    }

    private static void whatOnlyAnswers() {
        checks.about("nothing is changed by these");
        EntailedJoke joke = rich();
        joke.image(0);
        long digest = joke.digest();
        joke.at(1, 0);
        joke.parent(5);
        joke.pointless();
        joke.apart(1, 5);
        joke.first(1);
        joke.older(1, 5);
        joke.fits(1, 0);
        joke.covers(5);
        joke.door();
        joke.next();
        joke.fun(1);
        joke.funniest(4, 0);
        joke.slip(5);
        joke.pawned(3, 0);
        joke.pawned(3, 1);
        joke.centuries(5, 9, 60);
        joke.part(0);
        joke.status(0);
        joke.count(0);
        checks.due("digest()", joke.digest(), digest);
        checks.due("parent(5)", joke.parent(5), 1);
        joke.odds(1, 3, 0, 0);
        checks.holds("odds changes THE FRACTION", joke.digest() != digest);
        checks.due("NONE", joke.parent(1), NONE);
        checks.dueStatus(joke, 0, 0, 0);
    }
}
