/** Promises 13 to 18. */
public final class TalesTest {
    private static final int NONE = EntailedJoke.NONE, BAD = EntailedJoke.BAD;
    private static final int[] WRONG_BRANCHES = {-1, 8, Integer.MIN_VALUE, Integer.MAX_VALUE};
    private static final int[] WRONG_BITS = {-1, 2, Integer.MIN_VALUE, Integer.MAX_VALUE};
    private static final Checks checks = new Checks();

    public static void main(String[] args) {
        pointless();
        apart();
        first();
        older();
        fits();
        covers();
        checks.end();
    }

    private static void pointless() {
        checks.about("promise 13");
        EntailedJoke joke = new EntailedJoke();
        checks.due("of empty ones", joke.pointless(), NONE);
        Checks.tell(joke, 7, 1, 2);
        checks.due("the last", joke.pointless(), 7);
        Checks.tell(joke, 3, 8);
        checks.due("the first", joke.pointless(), 3);
        Checks.tell(joke, 3, 9, 1);
        checks.due("a point ahead", joke.pointless(), 7);
        Checks.tell(joke, 7, 1, 9, 2);
        checks.due("all have it", joke.pointless(), NONE);
        Checks.tell(joke, 0, 7);
        checks.due("branch 0", joke.pointless(), 0);
    }

    private static void dueApart(int[] one, int[] other, int due) {
        EntailedJoke joke = Checks.with(1, one);
        Checks.tell(joke, 6, other);
        checks.due("apart(1, 6)", joke.apart(1, 6), due);
        checks.due("apart(6, 1)", joke.apart(6, 1), due);
        checks.due("apart(1, 1)", joke.apart(1, 1), 0);
    }

    private static void apart() {
        checks.about("promise 14");
        dueApart(new int[] {}, new int[] {}, 0);
        dueApart(new int[] {}, new int[] {1, 2, 3}, 3);
        dueApart(new int[] {1, 2, 3}, new int[] {1, 2, 3}, 0);
        dueApart(new int[] {1, 2, 3}, new int[] {1, 3}, 1);
        dueApart(new int[] {1, 2, 3}, new int[] {1, 4, 3}, 1);
        dueApart(new int[] {1, 2, 3}, new int[] {2, 1, 3}, 1);
        dueApart(new int[] {1, 2, 3}, new int[] {1, 3, 2}, 1);
        dueApart(new int[] {1, 2, 3}, new int[] {3, 2, 1}, 2);
        dueApart(new int[] {3, 1}, new int[] {1, 2, 3}, 3);
        dueApart(new int[] {1, 2}, new int[] {2, 1}, 1);
        dueApart(new int[] {1, 5}, new int[] {2, 1}, 2);
        dueApart(new int[] {1, 5}, new int[] {5, 2}, 2);
        dueApart(new int[] {1, 2, 3, 4}, new int[] {2, 1, 4, 3}, 2);
        dueApart(new int[] {0, 1, 2, 3, 4, 5, 6, 7, 8, 9}, new int[] {}, 10);
        dueApart(new int[] {0, 1, 2, 3, 4, 5, 6, 7, 8, 9}, new int[] {9, 8, 7, 6, 5, 4, 3, 2, 1, 0}, 9);
        dueApart(new int[] {0, 0, 0, 0, 0, 0, 0, 0, 0, 0}, new int[] {1, 1, 1, 1, 1, 1, 1, 1, 1, 1}, 10);
        EntailedJoke joke = Checks.with(0, 4);
        for (int wrong : WRONG_BRANCHES) {
            checks.dueRefused(joke, "apart(" + wrong + ", 0)", j -> j.apart(wrong, 0), BAD, BAD);
            checks.dueRefused(joke, "apart(0, " + wrong + ")", j -> j.apart(0, wrong), BAD, BAD);
        }
    }

    private static void first() {
        checks.about("promise 15");
        EntailedJoke joke = new EntailedJoke();
        checks.due("first(0) of none", joke.first(0), NONE);
        checks.due("first(1) of none", joke.first(1), NONE);
        Checks.tell(joke, 6, 1, 2, 3);
        checks.due("first(0) of one", joke.first(0), 6);
        checks.due("first(1) of one", joke.first(1), 0);
        Checks.tell(joke, 7, 1, 2);
        checks.due("first(0) of like ones", joke.first(0), 6);
        checks.due("first(1) of like ones", joke.first(1), 1);
        Checks.tell(joke, 2, 1, 2, 3, 4);
        checks.due("first(0) of three", joke.first(0), 6);
        checks.due("first(1) of three", joke.first(1), 2);
        Checks.tell(joke, 0, 1);
        Checks.tell(joke, 1, 1);
        checks.due("first(0) of five", joke.first(0), 7);
        checks.due("first(1) of five", joke.first(1), 5);
        EntailedJoke three = Checks.with(0, 1, 2);
        Checks.tell(three, 4, 1);
        Checks.tell(three, 5, 2);
        checks.due("first(0) of branch 0", three.first(0), 0);
        checks.due("first(1) of branch 0", three.first(1), 2);
        for (int wrong : WRONG_BITS) {
            checks.dueRefused(joke, "first(" + wrong + ")", j -> j.first(wrong), BAD, BAD);
        }
    }

    private static void dueOlder(int[] one, int[] other, int due) {
        EntailedJoke joke = Checks.with(0, one);
        Checks.tell(joke, 7, other);
        checks.due("older(0, 7)", joke.older(0, 7), due);
        checks.due("older(7, 0)", joke.older(7, 0), due == 2 ? 2 : 1 - due);
        checks.due("older(0, 0)", joke.older(0, 0), 2);
    }

    private static void older() {
        checks.about("promise 16");
        dueOlder(new int[] {}, new int[] {}, 2);
        dueOlder(new int[] {1}, new int[] {}, 0);
        dueOlder(new int[] {1, 2}, new int[] {3, 3, 3, 3}, 0);
        dueOlder(new int[] {1, 2}, new int[] {3, 4}, 2);
        dueOlder(new int[] {1, 2}, new int[] {3, 4, 3}, 1);
        dueOlder(new int[] {1, 1, 2, 2, 0, 0}, new int[] {3, 4, 5, 5}, 0);
        dueOlder(new int[] {1, 1, 2, 2, 0, 0}, new int[] {3, 4, 5, 6}, 1);
        EntailedJoke joke = Checks.with(0, 4);
        for (int wrong : WRONG_BRANCHES) {
            checks.dueRefused(joke, "older(" + wrong + ", 0)", j -> j.older(wrong, 0), BAD, BAD);
            checks.dueRefused(joke, "older(0, " + wrong + ")", j -> j.older(0, wrong), BAD, BAD);
        }
    }

    private static void dueFits(int[] tale, int[] row, int howMany, int firstPlace, int covers) {
        EntailedJoke joke = Checks.with(5, tale);
        Checks.say(joke, row);
        checks.due("fits(5, 0)", joke.fits(5, 0), howMany);
        checks.due("fits(5, 1)", joke.fits(5, 1), firstPlace);
        checks.due("covers(5)", joke.covers(5), covers);
    }

    private static void fits() {
        checks.about("promises 17, 18");
        dueFits(new int[] {}, new int[] {}, 1, 0, 0);
        dueFits(new int[] {}, new int[] {1}, 0, NONE, 1);
        dueFits(new int[] {1, 2, 3}, new int[] {}, 4, 0, 0);
        dueFits(new int[] {0, 1, 2, 3, 4, 5, 6, 7, 8, 9}, new int[] {}, 11, 0, 0);
        dueFits(new int[] {1, 2, 3}, new int[] {3}, 1, 2, 0);
        dueFits(new int[] {1, 2, 3}, new int[] {2, 3}, 1, 1, 0);
        dueFits(new int[] {1, 2, 3}, new int[] {4}, 0, NONE, 0);
        dueFits(new int[] {1, 2, 3}, new int[] {1, 2, 3}, 1, 0, 1);
        dueFits(new int[] {1, 2, 3}, new int[] {1, 2, 3, 8}, 0, NONE, 0);
        dueFits(new int[] {1, 2, 1, 2, 1}, new int[] {1, 2, 1}, 2, 0, 1);
        dueFits(new int[] {1, 2, 1, 2, 1}, new int[] {2, 1}, 2, 1, 0);
        dueFits(new int[] {1, 2, 1, 2, 1}, new int[] {1, 2}, 2, 0, 0);
        dueFits(new int[] {1, 2, 3, 4}, new int[] {8}, 4, 0, 1);
        dueFits(new int[] {1, 2, 3, 4}, new int[] {8, 8, 8}, 2, 0, 1);
        dueFits(new int[] {1, 2, 1, 4}, new int[] {1, 8}, 2, 0, 1);
        dueFits(new int[] {1, 2, 5, 1, 4}, new int[] {1, 8}, 2, 0, 0);
        dueFits(new int[] {8, 2}, new int[] {2}, 1, 1, 0);
        dueFits(new int[] {8, 2}, new int[] {1, 2}, 0, NONE, 0);
        dueFits(new int[] {3, 3, 3, 3, 3, 3, 3, 3, 3, 3}, new int[] {3}, 10, 0, 1);
        EntailedJoke joke = Checks.with(0, 4);
        for (int wrong : WRONG_BRANCHES) {
            checks.dueRefused(joke, "fits(" + wrong + ", 0)", j -> j.fits(wrong, 0), -10, BAD);
        }
        for (int wrong : WRONG_BITS) {
            checks.dueRefused(joke, "fits(0, " + wrong + ")", j -> j.fits(0, wrong), -10, BAD);
        }
    }

    private static void covers() {
        checks.about("promise 18");
        EntailedJoke joke = Checks.with(0, 4);
        for (int wrong : WRONG_BRANCHES) {
            checks.dueRefused(joke, "covers(" + wrong + ")", j -> j.covers(wrong), BAD, BAD);
        }
    }
}
