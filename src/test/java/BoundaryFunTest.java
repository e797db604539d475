import java.math.BigInteger;
import java.util.Arrays;
import java.util.List;

/** A test for each sentence on what was heard, fun, pawned parts and chances that names a boundary. */
public final class BoundaryFunTest {
    private static final int NONE = EntailedJoke.NONE, BAD = EntailedJoke.BAD, FULL = EntailedJoke.FULL;
    private static final Checks checks = new Checks();
    private static final Sentences sentence = new Sentences(checks);

    public static void main(String[] args) {
        heardAsTheyCome();
        heardWasOrWasNot();
        heardIsBad();
        heardIsFull();
        forget();
        doorNotEmpty();
        doorAllThatWasHeard();
        nextGreaterPart();
        nextOfLikeOnes();
        nextNone();
        funOfUnlike();
        funOfTheDuck();
        funOfTheEnd();
        funOfTwiceAlready();
        funBelowNothing();
        funIsBad();
        funniestOfM();
        funniestFirstRow();
        funniestNotSoMany();
        funniestIsBad();
        slipNumbers();
        slipPlain();
        slipOfLikeOnes();
        slipOfSizes();
        slipIsBad();
        pawnedParts();
        pawnedWithoutThese();
        togetherFewest();
        togetherOfLikeOnes();
        togetherNone();
        pawnedIsBad();
        oddsTimes();
        oddsOfTen();
        oddsPlaces();
        oddsOfAnEmpty();
        oddsIsTheFraction();
        oddsIsBad();
        centuriesSeeds();
        centuriesTimes();
        centuriesLeftOver();
        centuriesNotNow();
        centuriesNone();
        centuriesIsBad();
        checks.end();
    }

    // ---- what the tests share

    private static void dueFun(int due, int... tale) {
        checks.due("fun(6) of " + Arrays.toString(tale), Checks.with(6, tale).fun(6), due);
    }

    private static void dueSlip(int due, int... tale) {
        checks.due("slip(6) of " + Arrays.toString(tale), Checks.with(6, tale).slip(6), due);
    }

    private static void dueOdds(EntailedJoke joke, int x, int n, int c, long above, long below) {
        String call = joke.at(3, NONE) + " parts, odds(3, " + x + ", " + n + ", " + c + ")";
        checks.due(call, joke.odds(3, x, n, c), 1);
        checks.due(call + ", part(0)", joke.part(0), above);
        checks.due(call + ", part(1)", joke.part(1), below);
    }

    // ---- HEARD, DOOR, HEAR NEXT

    private static void heardAsTheyCome() {
        sentence.of("Terms", "HEARD 0 .. 5, as they come:");
        int[] parts = {9, 0, 0, 7, 9, 3};
        EntailedJoke joke = new EntailedJoke();
        long ahead = 1051;
        for (int v : new int[] {0, 0, 0, 6, 0, 0, 0, -1, 0, -1, 0, -1, 0, -1, 0, -1, 0, -1, 0, -1, 0, -1}) {
            ahead = 31 * ahead + v;
        }
        for (int i = 0; i < 6; i++) {
            checks.due("heard", joke.heard(parts[i], i % 2), i + 1);
            ahead = 31 * (31 * ahead + parts[i]) + i % 2;
        }
        checks.due("digest()", joke.digest(), 31 * (31 * ahead) + 1);
    }

    private static void heardWasOrWasNot() {
        sentence.of("Terms", "a door let through that PART x was in the tale (1), was not (0).");
        for (int x = 0; x < 10; x++) {
            EntailedJoke joke = Checks.with(0, Checks.rising(10));
            Checks.tell(joke, 1, (x + 1) % 10);
            Checks.tell(joke, 2, (x + 1) % 10, (x + 2) % 10, x);
            joke.heard(x, 1);
            checks.due("door(), " + x + " was in it", joke.door(), 5);
            joke.forget();
            joke.heard(x, 0);
            checks.due("door(), " + x + " was not", joke.door(), 2);
        }
    }

    private static void heardIsBad() {
        sentence.of("Promise 19", "HEARD: how many there are. BAD;");
        EntailedJoke joke = new EntailedJoke();
        checks.dueRefused(joke, "heard(-1, 0)", j -> j.heard(-1, 0), BAD, BAD);
        checks.due("heard(0, 0)", joke.heard(0, 0), 1);
        checks.due("heard(9, 0)", joke.heard(9, 0), 2);
        checks.dueRefused(joke, "heard(10, 0)", j -> j.heard(10, 0), BAD, BAD);
        checks.dueRefused(joke, "heard(0, -1)", j -> j.heard(0, -1), BAD, BAD);
        checks.due("heard(0, 1)", joke.heard(0, 1), 3);
        checks.dueRefused(joke, "heard(0, 2)", j -> j.heard(0, 2), BAD, BAD);
    }

    private static void heardIsFull() {
        sentence.of("Promise 19", "FULL: 6.");
        EntailedJoke joke = Checks.with(0, 1);
        for (int heard = 1; heard <= 6; heard++) {
            checks.due("heard(1, 1)", joke.heard(1, 1), heard);
        }
        checks.dueRefused(joke, "a 7th", j -> j.heard(1, 0), FULL, FULL);
        checks.due("door()", joke.door(), 1);
        checks.due("forget()", joke.forget(), 6);
        checks.due("heard(1, 0) behind forget()", joke.heard(1, 0), 1);
        checks.due("door()", joke.door(), 0);
    }

    private static void forget() {
        sentence.of("Promise 20", "No HEARD: how many there were.");
        EntailedJoke joke = new EntailedJoke();
        for (int many = 0; many <= 6; many++) {
            for (int i = 0; i < many; i++) {
                joke.heard(i, 1);
            }
            checks.due("forget() of " + many, joke.forget(), many);
            checks.due("count(3)", joke.count(3), 0);
        }
        checks.due("forget() again", joke.forget(), 0);
        checks.dueStatus(joke, 0, 0, 0);
    }

    private static void doorNotEmpty() {
        sentence.of("Terms", "DOOR: BRANCHES (bits; not empty)");
        EntailedJoke joke = new EntailedJoke();
        checks.due("door() of empty ones", joke.door(), 0);
        int bits = 0;
        for (int branch = 7; branch >= 0; branch--) {
            Checks.tell(joke, branch, 5);
            bits |= 1 << branch;
            checks.due("door()", joke.door(), bits);
        }
        checks.due("door() of all", joke.door(), 255);
        joke.heard(4, 0);
        Checks.tell(joke, 3);
        checks.due("door(), an empty one has no 4 but is none", joke.door(), 247);
    }

    private static void doorAllThatWasHeard() {
        sentence.of("Terms", "whose TALE has all that was HEARD so.");
        EntailedJoke joke = Checks.with(0, Checks.rising(6));
        Checks.tell(joke, 7, Checks.rising(5));
        for (int x = 0; x < 5; x++) {
            joke.heard(x, 1);
            checks.due("door() of both", joke.door(), 129);
        }
        joke.heard(5, 1);
        checks.due("door(), the sixth in one alone", joke.door(), 1);
        joke.forget();
        checks.due("door(), nothing heard", joke.door(), 129);
        joke.heard(5, 0);
        checks.due("door(), the first in one alone", joke.door(), 128);
        joke.heard(0, 1);
        checks.due("door(), the second in both", joke.door(), 128);
        joke.heard(0, 0);
        checks.due("door(), it was and was not", joke.door(), 0);
    }

    private static void nextGreaterPart() {
        sentence.of("Terms", "HEAR NEXT: the PART x (0 .. 9) by which, in it or not,"
            + " the greater part of these is least;");
        EntailedJoke joke = Checks.with(0, 0, 9);
        Checks.tell(joke, 1, 0, 9);
        Checks.tell(joke, 2, 0, 1);
        Checks.tell(joke, 3, 0, 2);
        checks.due("next(), in two of four", joke.next(), 9);
        Checks.tell(joke, 4, 0, 9);
        checks.due("next(), in three of five", joke.next(), 9);
        Checks.tell(joke, 5, 0, 9, 2);
        checks.due("next(), in four and in two of six", joke.next(), 2);
        joke.heard(9, 1);
        checks.due("next(), in one of four", joke.next(), 2);
        joke.heard(2, 0);
        checks.due("next(), all alike", joke.next(), 0);
        EntailedJoke most = new EntailedJoke();
        for (int branch = 0; branch < 8; branch++) {
            Checks.tell(most, branch, branch < 4 ? new int[] {0, 1, 9} : new int[] {0, 1});
        }
        checks.due("next(), the last in the half", most.next(), 9);
    }

    private static void nextOfLikeOnes() {
        sentence.of("Terms", "of like ones the first; none: no BRANCH.");
        EntailedJoke joke = Checks.with(0, 3, 5);
        checks.due("next() of one", joke.next(), 0);
        Checks.tell(joke, 1, 5, 6);
        checks.due("next(), 3 in one and 6 in the other", joke.next(), 3);
        Checks.tell(joke, 2, 3, 6);
        checks.due("next(), 3, 5 and 6 in two of three", joke.next(), 3);
        Checks.tell(joke, 3, 2);
        checks.due("next(), 3, 5 and 6 in two of four", joke.next(), 3);
    }

    private static void nextNone() {
        sentence.of("Promise 22", "HEAR NEXT. NONE.");
        EntailedJoke joke = new EntailedJoke();
        checks.due("next() of empty ones", joke.next(), NONE);
        Checks.tell(joke, 7, 3);
        checks.due("next() of one", joke.next(), 0);
        joke.heard(4, 1);
        checks.due("next(), none let through", joke.next(), NONE);
        joke.forget();
        checks.due("next() behind forget()", joke.next(), 0);
        checks.dueStatus(joke, 0, 0, 0);
    }

    // ---- FUN, FUNNIEST, SLIP OF FUN

    private static void funOfUnlike() {
        sentence.of("Terms", "FUN of a TALE: 2 for each PART unlike the one ahead of it (the first, too);");
        dueFun(0);
        dueFun(2, 0);
        dueFun(2, 8);
        dueFun(2, 0, 0);
        dueFun(4, 0, 1);
        dueFun(6, 0, 1, 0);
        dueFun(6, 0, 0, 1, 1, 2, 2);
        dueFun(20 + 3, Checks.rising(10));
    }

    private static void funOfTheDuck() {
        sentence.of("Terms", "5 for THE DUCK right ahead of THE POINT;");
        dueFun(4 + 5 + 3, 7, 9);
        dueFun(4, 9, 7);
        dueFun(6 + 3, 7, 0, 9);
        dueFun(6 + 5, 7, 9, 0);
        dueFun(8 + 10 + 3, 7, 9, 7, 9);
        dueFun(4 + 5 + 3, 7, 9, 9);
        dueFun(20 + 5 + 3, 0, 1, 2, 3, 4, 5, 6, 8, 7, 9);
    }

    private static void funOfTheEnd() {
        sentence.of("Terms", "3, if it ends with THE POINT;");
        dueFun(2 + 3, 9);
        dueFun(2, 8);
        dueFun(4 + 3, 0, 9);
        dueFun(4, 9, 0);
        dueFun(2 + 3, 9, 9);
    }

    private static void funOfTwiceAlready() {
        sentence.of("Terms", "4 less for each PART that was in it twice already ahead.");
        dueFun(2, 4, 4);
        dueFun(2 - 4, 4, 4, 4);
        dueFun(2 - 8, 4, 4, 4, 4);
        dueFun(6, 4, 5, 4);
        dueFun(10 - 4, 4, 5, 4, 5, 4);
        dueFun(12 - 8, 4, 5, 4, 5, 4, 5);
        dueFun(4, 4, 4, 5, 5);
        for (int x = 0; x < 9; x++) {
            dueFun(2 - 32, Checks.like(x, 10));
        }
    }

    private static void funBelowNothing() {
        sentence.of("Promise 23", "FUN of a BRANCH's TALE (it may be below 0).");
        dueFun(2, 0, 0);
        dueFun(-2, 0, 0, 0);
        dueFun(-30, Checks.like(0, 10));
        dueFun(-27, Checks.like(9, 10));
    }

    private static void funIsBad() {
        sentence.of("Promise 23", "BAD: -1000.");
        EntailedJoke joke = Checks.with(0, 1);
        checks.dueRefused(joke, "fun(-1)", j -> j.fun(-1), -1000, BAD);
        checks.due("fun(0)", joke.fun(0), 2);
        checks.due("fun(7)", joke.fun(7), 0);
        checks.dueRefused(joke, "fun(8)", j -> j.fun(8), -1000, BAD);
    }

    /** All rows of m parts in order; the class itself tells the fun of each, as promise 23 has it. */
    private static void dueFunniest(int m) {
        int most = Integer.MIN_VALUE;
        int[] first = {};
        for (int code = 0; code < Math.round(Math.pow(10, m)); code++) {
            int[] row = new int[m];
            for (int i = m - 1, left = code; i >= 0; i--, left /= 10) {
                row[i] = left % 10;
            }
            int fun = Checks.with(0, row).fun(0);
            if (fun > most) {
                most = fun;
                first = row;
            }
        }
        EntailedJoke joke = new EntailedJoke();
        checks.due("funniest(" + m + ", NONE)", joke.funniest(m, NONE), most);
        for (int i = 0; i < m; i++) {
            checks.due("funniest(" + m + ", " + i + ")", joke.funniest(m, i), first[i]);
        }
    }

    private static void funniestOfM() {
        sentence.of("Terms", "FUNNIEST of m (0 .. 4): the most FUN of all rows of m PARTS;");
        int[] most = {0, 5, 12, 14, 21};
        EntailedJoke joke = new EntailedJoke();
        checks.due("funniest(-1, NONE)", joke.funniest(-1, NONE), -1000);
        for (int m = 0; m <= 4; m++) {
            checks.due("funniest(" + m + ", NONE)", joke.funniest(m, NONE), most[m]);
            dueFunniest(m);
        }
        checks.due("funniest(5, NONE)", joke.funniest(5, NONE), -1000);
    }

    private static void funniestFirstRow() {
        sentence.of("Terms", "the first such row's i-th PART.");
        int[][] rows = {{}, {9}, {7, 9}, {0, 7, 9}, {7, 9, 7, 9}};
        EntailedJoke joke = new EntailedJoke();
        for (int m = 4; m >= 0; m--) {
            for (int i = 0; i < m; i++) {
                checks.due("funniest(" + m + ", " + i + ")", joke.funniest(m, i), rows[m][i]);
            }
        }
    }

    private static void funniestNotSoMany() {
        sentence.of("Promise 24", "FUNNIEST: how much (i = NONE), the i-th PART. -5: not so many.");
        EntailedJoke joke = new EntailedJoke();
        for (int m = 0; m <= 4; m++) {
            for (int i : new int[] {m, m + 1, 9, 10, 15, 16, Integer.MAX_VALUE}) {
                checks.due("funniest(" + m + ", " + i + ")", joke.funniest(m, i), -5);
            }
            checks.holds("funniest(" + m + ", " + (m - 1) + ") is none such", joke.funniest(m, m - 1) >= 0);
        }
        checks.dueStatus(joke, 0, 0, 0);
    }

    private static void funniestIsBad() {
        sentence.of("Promise 24", "BAD: -1000.");
        EntailedJoke joke = new EntailedJoke();
        checks.dueRefused(joke, "funniest(-1, 0)", j -> j.funniest(-1, 0), -1000, BAD);
        checks.due("funniest(0, NONE)", joke.funniest(0, NONE), 0);
        checks.due("funniest(4, 0)", joke.funniest(4, 0), 7);
        checks.dueRefused(joke, "funniest(5, 0)", j -> j.funniest(5, 0), -1000, BAD);
        checks.dueRefused(joke, "funniest(5, 5)", j -> j.funniest(5, 5), -1000, BAD);
        checks.dueRefused(joke, "funniest(4, -2)", j -> j.funniest(4, -2), -1000, BAD);
        checks.due("funniest(4, -1)", joke.funniest(4, -1), 21);
    }

    private static void slipNumbers() {
        sentence.of("Terms", "SLIP OF FUN: the SLIP (100 the KIND, 10 i, x;");
        dueSlip(110, 7, 8, 9, 9, 8, 8);
        dueSlip(190, 8, 1, 7, 9, 7, 8, 9, 7, 9, 7);
        dueSlip(200, 7, 7, 9);
        dueSlip(299, 9, 9, 0, 8, 7, 1, 7, 8, 7, 8);
        dueSlip(300, 7, 9, 9);
        dueSlip(380, 1, 0, 0, 7, 9, 9, 7, 1, 9, 7);
        dueSlip(410, 0, 0, 0, 0, 0, 0);
        dueSlip(480, 9, 1, 0, 7, 0, 1, 7, 9, 9, 1);
        dueSlip(501, 9, 0);
        dueSlip(587, 8, 8, 7, 8, 0, 8, 0, 8, 0);
    }

    private static void slipPlain() {
        sentence.of("Terms", "PLAIN: 0)");
        dueSlip(0, 7, 9);
        dueSlip(0, 0, 1, 2, 3, 4, 5, 6, 8, 7, 9);
        dueSlip(0, 7, 9, 7, 9);
        dueSlip(120, 7, 9, 0);
    }

    private static void slipOfLikeOnes() {
        sentence.of("Terms", "by which the TALE of a BRANCH gets most FUN; of like ones the least number.");
        int[][] tales = {{}, {4}, {9}, {7}, {4, 4}, {9, 9}, {1, 9, 7}, {0, 0, 0}, {3, 7, 7}, Checks.rising(9),
            Checks.rising(10), Checks.like(9, 10), Checks.like(7, 9), Checks.like(8, 10),
            {1, 2, 1, 2, 1, 2, 1, 2, 1, 2}, {9, 7, 9, 7, 9, 7, 9, 7, 9, 7}};
        for (int[] tale : tales) {
            EntailedJoke joke = Checks.with(0, tale);
            int best = 0;
            int most = joke.fun(0);
            for (int slip = 100; slip < 600 && tale.length > 0; slip++) {
                joke.hand(0, 1, slip / 100, slip / 10 % 10, slip % 10);
                if (joke.fun(1) > most) {
                    best = slip;
                    most = joke.fun(1);
                }
            }
            dueSlip(tale.length == 0 ? 500 : best, tale);
        }
    }

    private static void slipOfSizes() {
        sentence.of("Terms", "THE POINT comes behind it (if it has fewer than 10 PARTS).");
        dueSlip(500);
        dueSlip(507, 0);
        dueSlip(507, 7);
        dueSlip(500, 0, 1, 2, 3, 4, 5, 6, 8, 7);
        dueSlip(299, 0, 1, 2, 3, 4, 5, 6, 8, 0, 7);
    }

    private static void slipIsBad() {
        sentence.of("Promise 25", "BAD.");
        EntailedJoke joke = Checks.with(0, 7, 9);
        checks.dueRefused(joke, "slip(-1)", j -> j.slip(-1), BAD, BAD);
        checks.due("slip(0)", joke.slip(0), 0);
        checks.due("slip(7)", joke.slip(7), 500);
        checks.dueRefused(joke, "slip(8)", j -> j.slip(8), BAD, BAD);
        checks.dueStatus(joke, 2, 0, 0);
    }

    // ---- PAWNED, TOGETHER

    private static void pawnedParts() {
        sentence.of("Terms", "PAWNED: PARTS (bits 0 .. 1023):");
        EntailedJoke joke = Checks.with(0, 0);
        Checks.tell(joke, 7, 9);
        checks.due("pawned(-1, 0)", joke.pawned(-1, 0), BAD);
        checks.due("pawned(0, 0)", joke.pawned(0, 0), 129);
        checks.due("pawned(1, 0)", joke.pawned(1, 0), 128);
        checks.due("pawned(512, 0)", joke.pawned(512, 0), 1);
        checks.due("pawned(1022, 0)", joke.pawned(1022, 0), 1);
        checks.due("pawned(511, 0)", joke.pawned(511, 0), 128);
        checks.due("pawned(1023, 0)", joke.pawned(1023, 0), 0);
        checks.due("pawned(1024, 0)", joke.pawned(1024, 0), BAD);
        for (int x = 0; x < 10; x++) {
            checks.due("pawned(1 << " + x + ", 0)", Checks.with(3, x).pawned(1 << x, 0), 0);
            checks.due("pawned(1 << " + x + ", 1)", Checks.with(3, x).pawned(1 << x, 1), 8);
            checks.due("pawned without " + x, Checks.with(3, x).pawned(1023 - (1 << x), 0), 8);
        }
    }

    private static void pawnedWithoutThese() {
        sentence.of("Terms", "which BRANCHES (bits; not empty) can tell their TALE without these;");
        EntailedJoke joke = new EntailedJoke();
        checks.due("pawned(0, 0), all empty", joke.pawned(0, 0), 0);
        int bits = 0;
        for (int branch = 0; branch < 8; branch++) {
            Checks.tell(joke, branch, branch, 9);
            bits |= 1 << branch;
            checks.due("pawned(0, 0)", joke.pawned(0, 0), bits);
            checks.due("pawned(1 << " + branch + ", 0)", joke.pawned(1 << branch, 0), bits - (1 << branch));
        }
        checks.due("pawned(512, 0)", joke.pawned(512, 0), 0);
        checks.due("pawned(256, 0)", joke.pawned(256, 0), 255);
        Checks.tell(joke, 0, 0, 1, 2, 3, 4, 5, 6, 7, 8, 0);
        checks.due("pawned(512, 0), one of ten without", joke.pawned(512, 0), 1);
    }

    private static void togetherFewest() {
        sentence.of("Terms", "TOGETHER: the fewest BRANCHES");
        EntailedJoke joke = new EntailedJoke();
        checks.due("pawned(0, 1), all empty", joke.pawned(0, 1), 0);
        for (int branch = 0; branch < 7; branch++) {
            Checks.tell(joke, branch, branch);
            checks.due("pawned, all that there are", joke.pawned((2 << branch) - 1, 1), (2 << branch) - 1);
        }
        checks.due("pawned(0, 1)", joke.pawned(0, 1), 0);
        Checks.tell(joke, 7, 7, 8, 9);
        checks.due("pawned(1023, 1), all eight", joke.pawned(1023, 1), 255);
        Checks.tell(joke, 7, 1, 2, 3, 4, 5, 6);
        checks.due("pawned(127, 1), two for seven", joke.pawned(127, 1), 129);
        checks.due("pawned(126, 1), one for six", joke.pawned(126, 1), 128);
        checks.due("pawned(3, 1), two for two", joke.pawned(3, 1), 3);
        checks.due("pawned(6, 1), one for two", joke.pawned(6, 1), 128);
    }

    private static void togetherOfLikeOnes() {
        sentence.of("Terms", "(bits; of like ones the least)");
        EntailedJoke joke = new EntailedJoke();
        for (int branch = 7; branch >= 0; branch--) {
            Checks.tell(joke, branch, 4);
            checks.due("pawned(16, 1)", joke.pawned(16, 1), 1 << branch);
        }
        joke = Checks.with(0, 1);
        Checks.tell(joke, 1, 2, 3);
        Checks.tell(joke, 2, 1, 2);
        Checks.tell(joke, 3, 3);
        checks.due("pawned(14, 1), 0 and 1 ahead of 2 and 3", joke.pawned(14, 1), 3);
        Checks.tell(joke, 0);
        checks.due("pawned(14, 1), 1 and 2", joke.pawned(14, 1), 6);
        Checks.tell(joke, 1, 8);
        checks.due("pawned(14, 1), 2 and 3", joke.pawned(14, 1), 12);
    }

    private static void togetherNone() {
        sentence.of("Terms", "that together have all of these PARTS in their TALES; none.");
        EntailedJoke joke = new EntailedJoke();
        checks.due("pawned(1, 1), all empty", joke.pawned(1, 1), NONE);
        Checks.tell(joke, 4, 0, 1, 2, 3, 4, 5, 6, 7, 8, 8);
        checks.due("pawned(511, 1)", joke.pawned(511, 1), 16);
        checks.due("pawned(512, 1)", joke.pawned(512, 1), NONE);
        checks.due("pawned(1023, 1)", joke.pawned(1023, 1), NONE);
        Checks.tell(joke, 7, 9);
        checks.due("pawned(1023, 1) with that", joke.pawned(1023, 1), 144);
        checks.due("pawned(0, 1)", joke.pawned(0, 1), 0);
        checks.dueStatus(joke, 0, 0, 0);
    }

    private static void pawnedIsBad() {
        sentence.of("Promise 26", "PAWNED (0; bits), TOGETHER (1; bits; NONE). BAD.");
        EntailedJoke joke = Checks.with(0, 0);
        checks.dueRefused(joke, "pawned(-1, 1)", j -> j.pawned(-1, 1), BAD, BAD);
        checks.dueRefused(joke, "pawned(1024, 1)", j -> j.pawned(1024, 1), BAD, BAD);
        checks.dueRefused(joke, "pawned(0, -1)", j -> j.pawned(0, -1), BAD, BAD);
        checks.due("pawned(2, 0)", joke.pawned(2, 0), 1);
        checks.due("pawned(2, 1)", joke.pawned(2, 1), NONE);
        checks.dueRefused(joke, "pawned(0, 2)", j -> j.pawned(0, 2), BAD, BAD);
    }

    // ---- ODDS

    private static void oddsTimes() {
        sentence.of("Terms", "ODDS: handed on n (0 .. 4) times from a BRANCH,");
        EntailedJoke joke = Checks.with(3, Checks.rising(10));
        checks.due("odds(3, 0, -1, 10)", joke.odds(3, 0, -1, 10), BAD);
        dueOdds(joke, 0, 0, 10, 1, 1);
        dueOdds(joke, 0, 1, 10, 9, 10);
        dueOdds(joke, 0, 2, 10, 4, 5);
        dueOdds(joke, 0, 3, 10, 7, 10);
        dueOdds(joke, 0, 4, 10, 3, 5);
        checks.due("odds(3, 0, 5, 10)", joke.odds(3, 0, 5, 10), BAD);
    }

    private static void oddsOfTen() {
        sentence.of("Terms", "each time, apart, by c of 10 (0 .. 10) with a LOSE of one place,");
        EntailedJoke joke = Checks.with(3, 5);
        checks.due("odds(3, 5, 1, -1)", joke.odds(3, 5, 1, -1), BAD);
        dueOdds(joke, 5, 1, 0, 1, 1);
        dueOdds(joke, 5, 4, 0, 1, 1);
        dueOdds(joke, 5, 1, 1, 9, 10);
        dueOdds(joke, 5, 2, 1, 81, 100);
        dueOdds(joke, 5, 4, 1, 6561, 10000);
        dueOdds(joke, 5, 4, 9, 1, 10000);
        dueOdds(joke, 5, 4, 10, 0, 1);
        dueOdds(joke, 5, 1, 10, 0, 1);
        checks.due("odds(3, 5, 1, 11)", joke.odds(3, 5, 1, 11), BAD);
    }

    private static long divisor(long a, long b) {
        return b == 0 ? a : divisor(b, a % b);
    }

    private static double chance(int size, int like, int n, int c) {
        if (n == 0) {
            return like > 0 ? 1 : 0;
        }
        double kept = (10 - c) * chance(size, like, n - 1, c) / 10;
        if (size == 0) {
            return kept + c * chance(0, 0, n - 1, c) / 10;
        }
        double lost = size == like ? 0 : (double) (size - like) / size * chance(size - 1, like, n - 1, c);
        lost += like == 0 ? 0 : (double) like / size * chance(size - 1, like - 1, n - 1, c);
        return kept + c * lost / 10;
    }

    private static void oddsPlaces() {
        sentence.of("Terms", "each place of the TALE as it is then alike likely");
        for (int size = 0; size <= 10; size++) {
            for (int like = 0; like <= size; like++) {
                int[] tale = Checks.like(4, size);
                Arrays.fill(tale, 0, like, 5);
                EntailedJoke joke = Checks.with(3, tale);
                for (int n = 0; n <= 4; n++) {
                    for (int c = 0; c <= 10; c++) {
                        checks.due("odds", joke.odds(3, 5, n, c), 1);
                        double off = (double) joke.part(0) / joke.part(1) - chance(size, like, n, c);
                        checks.holds(size + " parts, " + like + " like, " + n + " times, " + c + " of 10: "
                            + joke.part(0) + " by " + joke.part(1), Math.abs(off) < 1e-11);
                        checks.due("what both share", divisor(joke.part(0), joke.part(1)), 1);
                    }
                }
            }
        }
    }

    private static void oddsOfAnEmpty() {
        sentence.of("Terms", "(nothing is lost, if it is empty):");
        EntailedJoke joke = new EntailedJoke();
        for (int n = 0; n <= 4; n++) {
            dueOdds(joke, 0, n, 10, 0, 1);
        }
        Checks.tell(joke, 3, 5);
        for (int n = 0; n <= 4; n++) {
            dueOdds(joke, 5, n, 10, n == 0 ? 1 : 0, 1);
        }
        Checks.tell(joke, 3, 5, 5);
        dueOdds(joke, 5, 1, 10, 1, 1);
        dueOdds(joke, 5, 2, 10, 0, 1);
        dueOdds(joke, 5, 3, 10, 0, 1);
        dueOdds(joke, 5, 4, 5, 5, 16);
        Checks.tell(joke, 3, 5, 6, 6);
        dueOdds(joke, 5, 3, 10, 0, 1);
        dueOdds(joke, 5, 2, 10, 1, 3);
    }

    private static void oddsIsTheFraction() {
        sentence.of("Terms", "the chance that PART x is in it: THE FRACTION.");
        EntailedJoke joke = Checks.with(3, 0, 9, 9);
        dueOdds(joke, 0, 1, 10, 2, 3);
        dueOdds(joke, 9, 1, 10, 1, 1);
        dueOdds(joke, 9, 2, 10, 2, 3);
        dueOdds(joke, 1, 1, 10, 0, 1);
        dueOdds(joke, 0, 0, 0, 1, 1);
        checks.dueTale(joke, 3, 0, 9, 9);
        checks.due("count(4)", joke.count(4), 1);
    }

    private static void oddsIsBad() {
        sentence.of("Promise 27", "ODDS is THE FRACTION: 1. BAD.");
        EntailedJoke joke = Checks.with(0, 0, 9);
        joke.odds(0, 0, 1, 10);
        checks.dueRefused(joke, "odds(-1, 0, 0, 0)", j -> j.odds(-1, 0, 0, 0), BAD, BAD);
        checks.dueRefused(joke, "odds(8, 0, 0, 0)", j -> j.odds(8, 0, 0, 0), BAD, BAD);
        checks.dueRefused(joke, "odds(0, -1, 0, 0)", j -> j.odds(0, -1, 0, 0), BAD, BAD);
        checks.dueRefused(joke, "odds(0, 10, 0, 0)", j -> j.odds(0, 10, 0, 0), BAD, BAD);
        checks.dueRefused(joke, "odds(0, 0, -1, 0)", j -> j.odds(0, 0, -1, 0), BAD, BAD);
        checks.dueRefused(joke, "odds(0, 0, 5, 0)", j -> j.odds(0, 0, 5, 0), BAD, BAD);
        checks.dueRefused(joke, "odds(0, 0, 0, -1)", j -> j.odds(0, 0, 0, -1), BAD, BAD);
        checks.dueRefused(joke, "odds(0, 0, 0, 11)", j -> j.odds(0, 0, 0, 11), BAD, BAD);
        checks.due("part(1)", joke.part(1), 2);
        checks.due("odds(7, 0, 0, 0)", joke.odds(7, 0, 0, 0), 1);
        checks.due("odds(0, 9, 4, 10)", joke.odds(0, 9, 4, 10), 1);
    }

    // ---- CENTURIES

    private static void centuriesSeeds() {
        sentence.of("Terms", "CENTURIES by a SEED (0 .. 999999),");
        EntailedJoke joke = Checks.with(2, 7);
        checks.due("centuries(2, -1, 60)", joke.centuries(2, -1, 60), BAD);
        checks.due("centuries(2, 0, 60)", joke.centuries(2, 0, 60), 20);
        checks.due("centuries(2, 1, 60)", joke.centuries(2, 1, 60), 40);
        checks.due("centuries(2, 999998, 60)", joke.centuries(2, 999998, 60), 11);
        checks.due("centuries(2, 999999, 60)", joke.centuries(2, 999999, 60), 7);
        checks.due("centuries(2, 1000000, 60)", joke.centuries(2, 1000000, 60), BAD);
        Checks.tell(joke, 2, Checks.like(7, 10));
        checks.due("centuries(2, 999999, 60) of ten", joke.centuries(2, 999999, 60), 18);
    }

    private static void centuriesTimes() {
        sentence.of("Terms", "n (0 .. 60) from a BRANCH:");
        EntailedJoke joke = Checks.with(2, Checks.like(7, 10));
        checks.due("centuries(2, 598, -1)", joke.centuries(2, 598, -1), BAD);
        checks.due("centuries(2, 598, 0)", joke.centuries(2, 598, 0), NONE);
        checks.due("centuries(2, 598, 59)", joke.centuries(2, 598, 59), NONE);
        checks.due("centuries(2, 598, 60)", joke.centuries(2, 598, 60), 60);
        checks.due("centuries(2, 192, 58)", joke.centuries(2, 192, 58), NONE);
        checks.due("centuries(2, 192, 59)", joke.centuries(2, 192, 59), 59);
        checks.due("centuries(2, 192, 60)", joke.centuries(2, 192, 60), 59);
        checks.due("centuries(2, 598, 61)", joke.centuries(2, 598, 61), BAD);
    }

    private static void centuriesLeftOver() {
        sentence.of("Terms", "X becomes X times 1103515245 and 12345, by 2147483648 what is left over;"
            + " each of these X in turn by 65536 (cut), by 6, by 10, by 10 left over,");
        EntailedJoke joke = Checks.with(0, 7, 1, 9, 7, 2);
        for (int seed = 0; seed <= 999999; seed += 397) {
            List<Integer> tale = List.of(7, 1, 9, 7, 2);
            BigInteger x = BigInteger.valueOf(seed);
            int told = 0;
            for (; told < 60 && tale.contains(7); told++) {
                int[] slip = {6, 10, 10};
                for (int i = 0; i < 3; i++) {
                    x = x.multiply(BigInteger.valueOf(1103515245)).add(BigInteger.valueOf(12345));
                    x = x.remainder(BigInteger.valueOf(2147483648L));
                    slip[i] = x.divide(BigInteger.valueOf(65536)).intValueExact() % slip[i];
                }
                tale = Model.slipped(tale, slip[0], slip[1], slip[2]);
            }
            int due = tale.contains(7) ? NONE : told;
            checks.due("centuries(0, " + seed + ", 60)", joke.centuries(0, seed, 60), due);
        }
    }

    private static void centuriesNotNow() {
        sentence.of("Terms", "behind how many THE DUCK is in it no more (0: it is not now);");
        EntailedJoke joke = new EntailedJoke();
        checks.due("centuries of an empty one", joke.centuries(0, 0, 0), 0);
        Checks.tell(joke, 0, 0, 1, 2, 3, 4, 5, 6, 8, 9);
        checks.due("centuries, 0 at most", joke.centuries(0, 5, 0), 0);
        checks.due("centuries, 60 at most", joke.centuries(0, 5, 60), 0);
        Checks.tell(joke, 0, 7);
        checks.due("centuries, behind the first", joke.centuries(0, 123456, 60), 1);
        checks.due("centuries, behind the one", joke.centuries(0, 123456, 1), 1);
        checks.due("centuries, ahead of it", joke.centuries(0, 123456, 0), NONE);
    }

    private static void centuriesNone() {
        sentence.of("Terms", "none: it is still behind n.");
        for (int seed : new int[] {0, 1, 2, 999998, 999999}) {
            EntailedJoke joke = Checks.with(5, 7);
            int behind = joke.centuries(5, seed, 60);
            for (int n = 0; n <= 60; n++) {
                int due = n < behind ? NONE : behind;
                checks.due("centuries(5, " + seed + ", " + n + ")", joke.centuries(5, seed, n), due);
            }
            checks.dueTale(joke, 5, 7);
            checks.dueStatus(joke, 0, 0, 0);
        }
    }

    private static void centuriesIsBad() {
        sentence.of("Promise 28", "CENTURIES. NONE. BAD.");
        EntailedJoke joke = Checks.with(0, 7);
        checks.dueRefused(joke, "centuries(-1, 0, 0)", j -> j.centuries(-1, 0, 0), BAD, BAD);
        checks.dueRefused(joke, "centuries(8, 0, 0)", j -> j.centuries(8, 0, 0), BAD, BAD);
        checks.dueRefused(joke, "centuries(0, -1, 0)", j -> j.centuries(0, -1, 0), BAD, BAD);
        checks.dueRefused(joke, "centuries(0, 1000000, 0)", j -> j.centuries(0, 1000000, 0), BAD, BAD);
        checks.dueRefused(joke, "centuries(0, 0, -1)", j -> j.centuries(0, 0, -1), BAD, BAD);
        checks.dueRefused(joke, "centuries(0, 0, 61)", j -> j.centuries(0, 0, 61), BAD, BAD);
        checks.due("centuries(7, 999999, 60)", joke.centuries(7, 999999, 60), 0);
        checks.due("centuries(0, 0, 0)", joke.centuries(0, 0, 0), NONE);
    }
}
