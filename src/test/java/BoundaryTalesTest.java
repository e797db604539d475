/** A test for each sentence on how tales lie to one another (promises 13 to 18) that names a boundary. */
public final class BoundaryTalesTest {
    private static final int NONE = EntailedJoke.NONE, BAD = EntailedJoke.BAD;
    private static final Checks checks = new Checks();
    private static final Sentences sentence = new Sentences(checks);

    public static void main(String[] args) {
        nothingIsChanged();
        pointlessFirst();
        pointlessNotEmpty();
        pointlessNone();
        apartFromNone();
        apartLeast();
        apartTurnedAbout();
        apartExactly();
        apartIsBad();
        firstNotEmpty();
        firstOfAllOthers();
        firstOfLikeOnes();
        firstNone();
        firstIsBad();
        olderUnlike();
        olderLonger();
        olderNeither();
        olderIsBad();
        fitsPlaces();
        fitsAnyOne();
        fitsAnEmptyRow();
        fitsNone();
        fitsIsBad();
        coversEach();
        coversAnEmptyTale();
        coversOfAnEmptyRow();
        coversIsBad();
        checks.end();
    }

    // ---- what the tests share

    private static void dueApart(int[] one, int[] other, int due) {
        EntailedJoke joke = Checks.with(0, one);
        Checks.tell(joke, 7, other);
        String tales = java.util.Arrays.toString(one) + " and " + java.util.Arrays.toString(other);
        checks.due("apart(0, 7) of " + tales, joke.apart(0, 7), due);
        checks.due("apart(7, 0) of " + tales, joke.apart(7, 0), due);
    }

    /** The tales of branches 0, 1, ... */
    private static void dueFirst(int which, int howMany, int[]... tales) {
        EntailedJoke joke = new EntailedJoke();
        for (int branch = 0; branch < tales.length; branch++) {
            Checks.tell(joke, branch, tales[branch]);
        }
        checks.due("first(0)", joke.first(0), which);
        checks.due("first(1)", joke.first(1), howMany);
    }

    private static void dueOlder(int[] one, int[] other, int due) {
        EntailedJoke joke = Checks.with(0, one);
        Checks.tell(joke, 7, other);
        String tales = java.util.Arrays.toString(one) + " and " + java.util.Arrays.toString(other);
        checks.due("older(0, 7) of " + tales, joke.older(0, 7), due);
        checks.due("older(7, 0) of " + tales, joke.older(7, 0), due == 2 ? 2 : 1 - due);
    }

    private static void dueFits(int[] row, int[] tale, int howMany, int first) {
        EntailedJoke joke = Checks.with(4, tale);
        Checks.say(joke, row);
        String which = java.util.Arrays.toString(row) + " in " + java.util.Arrays.toString(tale);
        checks.due("fits(4, 0) of " + which, joke.fits(4, 0), howMany);
        checks.due("fits(4, 1) of " + which, joke.fits(4, 1), first);
    }

    private static void dueCovers(int[] row, int[] tale, int due) {
        EntailedJoke joke = Checks.with(4, tale);
        Checks.say(joke, row);
        String which = java.util.Arrays.toString(row) + " in " + java.util.Arrays.toString(tale);
        checks.due("covers(4) of " + which, joke.covers(4), due);
    }

    // ---- Terms 2

    private static void nothingIsChanged() {
        sentence.of("Terms", "(Nothing is changed by these.)");
        EntailedJoke joke = Checks.with(0, Checks.rising(10));
        Checks.tell(joke, 5, 1, 2);
        Checks.say(joke, 1, 8);
        joke.heard(1, 1);
        long digest = joke.digest();
        joke.pointless();
        joke.apart(0, 5);
        joke.first(0);
        joke.first(1);
        joke.older(0, 5);
        joke.fits(0, 0);
        joke.fits(0, 1);
        joke.covers(0);
        checks.due("digest()", joke.digest(), digest);
        checks.dueStatus(joke, 0, 0, 0);
        checks.due("undo()", joke.undo(), 1);
        checks.due("undo()", joke.undo(), 0);
    }

    private static void pointlessFirst() {
        sentence.of("Terms", "POINTLESS: the first BRANCH whose TALE is not empty and has no POINT;");
        EntailedJoke joke = new EntailedJoke();
        for (int branch = 7; branch >= 0; branch--) {
            Checks.tell(joke, branch, 8);
            checks.due("pointless()", joke.pointless(), branch);
        }
        for (int branch = 0; branch < 8; branch++) {
            Checks.tell(joke, branch, 8, 9);
            checks.due("pointless()", joke.pointless(), branch == 7 ? NONE : branch + 1);
        }
    }

    private static void pointlessNotEmpty() {
        sentence.of("Terms", "whose TALE is not empty and has no POINT;");
        EntailedJoke joke = new EntailedJoke();
        Checks.tell(joke, 1, 3);
        checks.due("an empty one ahead", joke.pointless(), 1);
        Checks.tell(joke, 0, 9);
        checks.due("one that is THE POINT alone ahead", joke.pointless(), 1);
        Checks.tell(joke, 0, 9, 3, 3);
        checks.due("one that begins with it ahead", joke.pointless(), 1);
        Checks.tell(joke, 0, 0, 1, 2, 3, 4, 5, 6, 7, 8, 9);
        checks.due("one that ends with it ahead", joke.pointless(), 1);
        Checks.tell(joke, 0, 0, 1, 2, 3, 4, 5, 6, 7, 8, 8);
        checks.due("one of ten without", joke.pointless(), 0);
    }

    private static void pointlessNone() {
        sentence.of("Promise 13", "POINTLESS. NONE.");
        EntailedJoke joke = new EntailedJoke();
        checks.due("all empty", joke.pointless(), NONE);
        Checks.tell(joke, 3, 9);
        checks.due("one with it", joke.pointless(), NONE);
        Checks.tell(joke, 7, 1);
        checks.due("one without", joke.pointless(), 7);
        checks.dueStatus(joke, 0, 0, 0);
    }

    private static void apartFromNone() {
        sentence.of("Terms", "D(i, 0) is i, D(0, j) is j;");
        for (int n = 0; n <= 10; n++) {
            dueApart(Checks.rising(n), new int[0], n);
            dueApart(Checks.like(4, n), new int[0], n);
            dueApart(Checks.like(4, n), new int[] {4}, Math.abs(n - 1));
        }
    }

    private static void apartLeast() {
        sentence.of("Terms", "else the least of D(i less 1, j) and 1, D(i, j less 1) and 1,"
            + " D(i less 1, j less 1) and 1 (and 0, if the i-th of the one is like the j-th of the other),");
        dueApart(new int[] {1}, new int[] {1}, 0);
        dueApart(new int[] {1}, new int[] {2}, 1);
        dueApart(new int[] {1, 2}, new int[] {2}, 1);
        dueApart(new int[] {1, 2}, new int[] {1}, 1);
        dueApart(new int[] {1, 2}, new int[] {3}, 2);
        dueApart(new int[] {1, 2, 3}, new int[] {2, 3, 4}, 2);
        dueApart(Checks.rising(10), Checks.rising(10), 0);
        dueApart(Checks.rising(10), Checks.rising(9), 1);
        dueApart(Checks.rising(10), Checks.like(5, 10), 9);
        dueApart(Checks.like(6, 10), Checks.like(5, 10), 10);
        dueApart(Checks.rising(10), new int[] {1, 2, 3, 4, 5, 6, 7, 8, 9, 0}, 2);
    }

    private static void apartTurnedAbout() {
        sentence.of("Terms", "and, if the last two of the one are the last two of the other turned about,"
            + " D(i less 2, j less 2) and 1.");
        dueApart(new int[] {1, 2}, new int[] {2, 1}, 1);
        dueApart(new int[] {1, 2}, new int[] {2, 3}, 2);
        dueApart(new int[] {1, 2}, new int[] {3, 1}, 2);
        dueApart(new int[] {1, 1}, new int[] {1, 1}, 0);
        dueApart(new int[] {5, 1, 2}, new int[] {5, 2, 1}, 1);
        dueApart(new int[] {1, 2, 5}, new int[] {2, 1, 5}, 1);
        dueApart(new int[] {1, 2, 3}, new int[] {3, 1}, 3);
        dueApart(new int[] {1, 2}, new int[] {2, 0, 1}, 3);
        dueApart(Checks.rising(10), new int[] {1, 0, 3, 2, 5, 4, 7, 6, 9, 8}, 5);
    }

    /** The document's words once more, without a table. */
    private static int slips(int[] one, int i, int[] other, int j) {
        if (i == 0 || j == 0) {
            return i + j;
        }
        int least = Math.min(slips(one, i - 1, other, j), slips(one, i, other, j - 1)) + 1;
        least = Math.min(least, slips(one, i - 1, other, j - 1) + (one[i - 1] == other[j - 1] ? 0 : 1));
        boolean isAbout = i > 1 && j > 1 && one[i - 1] == other[j - 2] && one[i - 2] == other[j - 1];
        return isAbout ? Math.min(least, slips(one, i - 2, other, j - 2) + 1) : least;
    }

    private static int[] taleOfCode(int code, int size) {
        int[] tale = new int[size];
        for (int i = 0, left = code; i < size; i++, left /= 3) {
            tale[i] = 7 + left % 3;
        }
        return tale;
    }

    private static void apartExactly() {
        sentence.of("Terms", "APART: how far the TALES of two BRANCHES are from one another,");
        for (int sizes = 0; sizes < 20; sizes++) {
            int one = sizes / 5;
            int other = sizes % 5;
            for (int a = 0; a < Math.pow(3, one); a++) {
                for (int b = 0; b < Math.pow(3, other); b++) {
                    int[] first = taleOfCode(a, one);
                    int[] second = taleOfCode(b, other);
                    dueApart(first, second, slips(first, one, second, other));
                }
            }
        }
    }

    private static void apartIsBad() {
        sentence.of("Promise 14", "APART. BAD.");
        EntailedJoke joke = Checks.with(0, 1);
        checks.dueRefused(joke, "apart(-1, 0)", j -> j.apart(-1, 0), BAD, BAD);
        checks.dueRefused(joke, "apart(0, -1)", j -> j.apart(0, -1), BAD, BAD);
        checks.dueRefused(joke, "apart(8, 0)", j -> j.apart(8, 0), BAD, BAD);
        checks.dueRefused(joke, "apart(0, 8)", j -> j.apart(0, 8), BAD, BAD);
        checks.due("apart(7, 0)", joke.apart(7, 0), 1);
        checks.due("apart(0, 7)", joke.apart(0, 7), 1);
        checks.due("apart(7, 7), both empty", joke.apart(7, 7), 0);
        checks.due("apart(0, 0)", joke.apart(0, 0), 0);
    }

    private static void firstNotEmpty() {
        sentence.of("Terms", "FIRST: the BRANCH (its TALE not empty)");
        dueFirst(1, 0, new int[0], new int[] {4});
        dueFirst(1, 2, new int[0], new int[] {1, 2, 3}, new int[] {1}, new int[0], new int[0]);
        for (int branch = 0; branch < 8; branch++) {
            EntailedJoke joke = Checks.with(branch, 1);
            checks.due("first(0) of one", joke.first(0), branch);
            checks.due("first(1) of one", joke.first(1), 0);
        }
    }

    private static void firstOfAllOthers() {
        sentence.of("Terms", "is least APART from those of all others that are not empty, together;");
        int[] none = {};
        dueFirst(0, 18, Checks.rising(10), none, Checks.like(0, 10), none, none, none, none, new int[] {5});
        dueFirst(7, 18, new int[] {5}, none, Checks.like(0, 10), none, none, none, none, Checks.rising(10));
        dueFirst(1, 2, new int[] {1, 2, 3}, new int[] {1, 2}, new int[] {1}, none);
        dueFirst(1, 3, new int[] {1, 2, 3}, new int[] {1, 2}, new int[] {1}, new int[] {2});
        dueFirst(3, 2, new int[] {1, 2}, new int[] {3, 4}, none, new int[] {1, 4});
        EntailedJoke joke = new EntailedJoke();
        for (int branch = 0; branch < 8; branch++) {
            Checks.tell(joke, branch, Checks.like(branch, 10));
        }
        checks.due("first(0) of the farthest", joke.first(0), 0);
        checks.due("first(1) of the farthest", joke.first(1), 70);
    }

    private static void firstOfLikeOnes() {
        sentence.of("Terms", "of like ones the least: which, how many;");
        dueFirst(0, 1, new int[] {1, 2}, new int[] {1});
        dueFirst(0, 0, new int[] {3}, new int[] {3}, new int[] {3});
        dueFirst(1, 1, new int[] {}, new int[] {1}, new int[] {}, new int[] {2});
        dueFirst(1, 1, new int[] {3, 4}, new int[] {3}, new int[] {3});
        dueFirst(1, 2, new int[] {3, 4}, new int[] {3}, new int[] {3}, new int[] {5});
    }

    private static void firstNone() {
        sentence.of("Terms", "none: all are empty.");
        dueFirst(NONE, NONE);
        dueFirst(NONE, NONE, new int[0], new int[0]);
        int[] empty = {};
        dueFirst(7, 0, empty, empty, empty, empty, empty, empty, empty, new int[] {0});
        EntailedJoke joke = Checks.with(2, 0);
        joke.undo();
        checks.due("first(0) behind undo()", joke.first(0), NONE);
    }

    private static void firstIsBad() {
        sentence.of("Promise 15", "FIRST: which (0), how many (1). NONE. BAD.");
        EntailedJoke joke = Checks.with(6, 1);
        checks.dueRefused(joke, "first(-1)", j -> j.first(-1), BAD, BAD);
        checks.due("first(0)", joke.first(0), 6);
        checks.due("first(1)", joke.first(1), 0);
        checks.dueRefused(joke, "first(2)", j -> j.first(2), BAD, BAD);
        EntailedJoke empty = new EntailedJoke();
        checks.dueRefused(empty, "first(2) of none", j -> j.first(2), BAD, BAD);
        checks.due("first(1) of none", empty.first(1), NONE);
        checks.dueStatus(empty, 1, 0, 0);
    }

    private static void olderUnlike() {
        sentence.of("Terms", "the one with more unlike PARTS;");
        dueOlder(new int[] {0}, new int[0], 0);
        dueOlder(new int[] {1, 2}, Checks.like(1, 10), 0);
        dueOlder(new int[] {1, 2}, new int[] {1, 2, 3}, 1);
        dueOlder(new int[] {1, 2, 3}, new int[] {1, 2, 1, 2, 1, 2}, 0);
        dueOlder(new int[] {9, 1, 0}, new int[] {4, 5, 4, 5, 4, 5}, 0);
        dueOlder(Checks.rising(9), new int[] {0, 1, 2, 3, 4, 5, 6, 7, 7, 7}, 0);
        dueOlder(Checks.rising(10), new int[] {0, 1, 2, 3, 4, 5, 6, 7, 8, 8}, 0);
    }

    private static void olderLonger() {
        sentence.of("Terms", "of like many the longer one;");
        dueOlder(Checks.like(1, 1), Checks.like(2, 2), 1);
        dueOlder(Checks.like(1, 9), Checks.like(2, 10), 1);
        dueOlder(new int[] {1, 2, 3}, new int[] {4, 5, 6, 4}, 1);
        dueOlder(new int[] {1, 2, 3}, new int[] {4, 5, 6}, 2);
    }

    private static void olderNeither() {
        sentence.of("Terms", "else neither: 0 the first, 1 the second, 2 neither.");
        dueOlder(new int[0], new int[0], 2);
        for (int n = 0; n <= 10; n++) {
            dueOlder(Checks.like(1, n), Checks.like(2, n), 2);
            dueOlder(Checks.rising(n), Checks.rising(n), 2);
        }
        EntailedJoke joke = Checks.with(5, 1, 2);
        checks.due("older(5, 5)", joke.older(5, 5), 2);
        checks.due("older(5, 6)", joke.older(5, 6), 0);
        checks.due("older(6, 5)", joke.older(6, 5), 1);
    }

    private static void olderIsBad() {
        sentence.of("Promise 16", "OLDER. BAD.");
        EntailedJoke joke = Checks.with(0, 1);
        checks.dueRefused(joke, "older(-1, 0)", j -> j.older(-1, 0), BAD, BAD);
        checks.dueRefused(joke, "older(0, -1)", j -> j.older(0, -1), BAD, BAD);
        checks.dueRefused(joke, "older(8, 0)", j -> j.older(8, 0), BAD, BAD);
        checks.dueRefused(joke, "older(0, 8)", j -> j.older(0, 8), BAD, BAD);
        checks.due("older(7, 0)", joke.older(7, 0), 1);
        checks.due("older(0, 7)", joke.older(0, 7), 0);
    }

    private static void fitsPlaces() {
        sentence.of("Terms", "FITS: places in the TALE of a BRANCH from which on ROW stands in it, PART for PART,");
        for (int n = 1; n <= 10; n++) {
            dueFits(Checks.rising(n), Checks.rising(n), 1, 0);
            dueFits(Checks.like(3, n), Checks.like(3, n), 1, 0);
            dueFits(Checks.like(3, n), Checks.like(3, 10), 11 - n, 0);
            dueFits(new int[] {n - 1}, Checks.rising(10), n - 1 == 8 ? 10 : 1, n - 1 == 8 ? 0 : n - 1);
            dueFits(Checks.rising(n), Checks.rising(n - 1), 0, NONE);
        }
        dueFits(new int[] {8, 9}, Checks.rising(10), 1, 8);
        dueFits(new int[] {9, 0}, Checks.rising(10), 0, NONE);
        dueFits(new int[] {1, 2}, new int[] {1, 3, 1, 2}, 1, 2);
        dueFits(new int[] {1, 2}, new int[] {1, 2, 3, 2}, 1, 0);
        dueFits(new int[] {1, 3}, new int[] {1, 2, 3}, 0, NONE);
        dueFits(new int[] {1, 2, 1}, new int[] {1, 2, 1, 2, 1}, 2, 0);
    }

    private static void fitsAnyOne() {
        sentence.of("Terms", "where 8 in ROW stands for any one PART");
        for (int x = 0; x < 10; x++) {
            dueFits(new int[] {8}, new int[] {x}, 1, 0);
            dueFits(new int[] {x}, new int[] {8}, x == 8 ? 1 : 0, x == 8 ? 0 : NONE);
            dueFits(new int[] {x}, new int[] {4, 5}, x == 8 ? 2 : x == 4 || x == 5 ? 1 : 0,
                x == 8 || x == 4 ? 0 : x == 5 ? 1 : NONE);
        }
        dueFits(new int[] {8}, new int[0], 0, NONE);
        dueFits(new int[] {1, 8, 3}, new int[] {1, 2, 3}, 1, 0);
        dueFits(new int[] {1, 8, 3}, new int[] {1, 3}, 0, NONE);
        dueFits(new int[] {1, 8, 3}, new int[] {1, 2, 2, 3}, 0, NONE);
        dueFits(new int[] {8, 8}, new int[] {4}, 0, NONE);
        dueFits(Checks.like(8, 10), Checks.rising(10), 1, 0);
        dueFits(Checks.like(8, 9), Checks.rising(10), 2, 0);
        dueFits(Checks.like(8, 10), Checks.rising(9), 0, NONE);
        dueFits(new int[] {8, 3}, new int[] {3, 3, 1}, 1, 0);
        dueFits(new int[] {3, 8}, new int[] {1, 3, 3}, 1, 1);
    }

    private static void fitsAnEmptyRow() {
        sentence.of("Terms", "(an empty ROW: each place 0 to n): how many; the first (none).");
        for (int n = 0; n <= 10; n++) {
            dueFits(new int[0], Checks.rising(n), n + 1, 0);
        }
    }

    private static void fitsNone() {
        sentence.of("Promise 17", "FITS: how many (0), the first (1; NONE).");
        dueFits(new int[] {1}, new int[0], 0, NONE);
        dueFits(new int[] {1}, new int[] {2}, 0, NONE);
        dueFits(new int[] {1}, new int[] {1}, 1, 0);
        dueFits(new int[] {1}, new int[] {2, 2, 2, 2, 2, 2, 2, 2, 2, 1}, 1, 9);
        EntailedJoke joke = Checks.with(0, 1);
        joke.say(2);
        joke.fits(0, 1);
        checks.dueStatus(joke, 0, 0, 0);
    }

    private static void fitsIsBad() {
        sentence.of("Promise 17", "BAD: -10.");
        EntailedJoke joke = Checks.with(0, 1);
        checks.dueRefused(joke, "fits(-1, 0)", j -> j.fits(-1, 0), -10, BAD);
        checks.due("fits(0, 0)", joke.fits(0, 0), 2);
        checks.due("fits(7, 0)", joke.fits(7, 0), 1);
        checks.dueRefused(joke, "fits(8, 0)", j -> j.fits(8, 0), -10, BAD);
        checks.dueRefused(joke, "fits(0, -1)", j -> j.fits(0, -1), -10, BAD);
        checks.due("fits(0, 1)", joke.fits(0, 1), 0);
        checks.dueRefused(joke, "fits(0, 2)", j -> j.fits(0, 2), -10, BAD);
    }

    private static void coversEach() {
        sentence.of("Terms", "COVERS: whether each PART of the TALE of a BRANCH lies under ROW in some place"
            + " in which that FITS");
        for (int n = 1; n <= 10; n++) {
            dueCovers(Checks.like(3, n), Checks.like(3, 10), 1);
            dueCovers(Checks.rising(n), Checks.rising(10), n == 10 ? 1 : 0);
            dueCovers(Checks.like(8, n), Checks.rising(9), n == 10 ? 0 : 1);
        }
        dueCovers(new int[] {1, 2}, new int[] {1, 2, 1, 2}, 1);
        dueCovers(new int[] {1, 2}, new int[] {1, 2, 1, 2, 1}, 0);
        dueCovers(new int[] {1, 2}, new int[] {2, 1, 2}, 0);
        dueCovers(new int[] {1, 2}, new int[] {1, 2, 3, 1, 2}, 0);
        dueCovers(new int[] {1, 2, 1}, new int[] {1, 2, 1, 2, 1}, 1);
        dueCovers(new int[] {1, 2, 1}, new int[] {1, 2, 1, 1, 2, 1}, 1);
        dueCovers(new int[] {3}, new int[] {4}, 0);
        dueCovers(new int[] {4, 4}, new int[] {4}, 0);
    }

    private static void coversAnEmptyTale() {
        sentence.of("Terms", "(1, 0; an empty TALE: 1;");
        for (int n = 1; n <= 10; n++) {
            dueCovers(Checks.rising(n), new int[0], 1);
            dueCovers(Checks.like(8, n), new int[0], 1);
        }
        dueCovers(new int[] {0}, new int[] {1}, 0);
    }

    private static void coversOfAnEmptyRow() {
        sentence.of("Terms", "ROW empty: 0, whatever the TALE).");
        for (int n = 0; n <= 10; n++) {
            dueCovers(new int[0], Checks.rising(n), 0);
            dueCovers(new int[] {8}, Checks.rising(n), 1);
        }
    }

    private static void coversIsBad() {
        sentence.of("Promise 18", "COVERS. BAD.");
        EntailedJoke joke = Checks.with(0, 1);
        joke.say(1);
        checks.dueRefused(joke, "covers(-1)", j -> j.covers(-1), BAD, BAD);
        checks.due("covers(0)", joke.covers(0), 1);
        checks.due("covers(7)", joke.covers(7), 1);
        checks.dueRefused(joke, "covers(8)", j -> j.covers(8), BAD, BAD);
        joke.hush();
        checks.dueRefused(joke, "covers(8) of an empty ROW", j -> j.covers(8), BAD, BAD);
    }
}
