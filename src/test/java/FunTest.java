/** Promises 19 to 28. */
public final class FunTest {
    private static final int NONE = EntailedJoke.NONE, BAD = EntailedJoke.BAD, FULL = EntailedJoke.FULL;
    private static final int[] WRONG_BRANCHES = {-1, 8, Integer.MIN_VALUE, Integer.MAX_VALUE};
    private static final int[] WRONG_TENS = {-1, 10, Integer.MIN_VALUE, Integer.MAX_VALUE};
    private static final int[] WRONG_BITS = {-1, 2, Integer.MIN_VALUE, Integer.MAX_VALUE};
    private static final Checks checks = new Checks();

    public static void main(String[] args) {
        heard();
        forget();
        door();
        next();
        fun();
        funniest();
        slip();
        pawned();
        odds();
        centuries();
        checks.end();
    }

    private static void heard() {
        checks.about("promise 19");
        EntailedJoke joke = new EntailedJoke();
        for (int wrong : WRONG_TENS) {
            checks.dueRefused(joke, "heard(" + wrong + ", 0)", j -> j.heard(wrong, 0), BAD, BAD);
        }
        for (int wrong : WRONG_BITS) {
            checks.dueRefused(joke, "heard(0, " + wrong + ")", j -> j.heard(0, wrong), BAD, BAD);
        }
        for (int heard = 1; heard <= 6; heard++) {
            checks.due("heard", joke.heard(heard == 1 ? 9 : 4, heard % 2), heard);
        }
        checks.dueRefused(joke, "a 7th", j -> j.heard(4, 1), FULL, FULL);
        checks.dueRefused(joke, "a wrong 7th", j -> j.heard(10, 1), BAD, BAD);
    }

    private static void forget() {
        checks.about("promise 20");
        EntailedJoke joke = Checks.with(0, 1);
        checks.due("forget()", joke.forget(), 0);
        joke.heard(2, 1);
        joke.heard(2, 1);
        checks.due("door()", joke.door(), 0);
        checks.due("forget()", joke.forget(), 2);
        checks.due("forget()", joke.forget(), 0);
        checks.due("door()", joke.door(), 1);
        checks.due("heard", joke.heard(1, 1), 1);
    }

    private static void door() {
        checks.about("promise 21");
        EntailedJoke joke = new EntailedJoke();
        checks.due("of empty ones", joke.door(), 0);
        Checks.tell(joke, 0, 1, 2);
        Checks.tell(joke, 4, 2, 3);
        Checks.tell(joke, 7, 3, 9);
        checks.due("nothing heard", joke.door(), 145);
        joke.heard(3, 1);
        checks.due("3 heard", joke.door(), 144);
        joke.heard(9, 0);
        checks.due("9 not heard", joke.door(), 16);
        joke.heard(9, 1);
        checks.due("both", joke.door(), 0);
        joke.forget();
        joke.heard(0, 0);
        checks.due("0 in none", joke.door(), 145);
        Checks.tell(joke, 3, 0);
        checks.due("0 in one", joke.door(), 145);
        joke.forget();
        checks.due("nothing heard, 0 in one", joke.door(), 153);
    }

    private static void next() {
        checks.about("promise 22");
        EntailedJoke joke = new EntailedJoke();
        checks.due("of empty ones", joke.next(), NONE);
        Checks.tell(joke, 0, 1, 2, 6);
        checks.due("of one", joke.next(), 0);
        Checks.tell(joke, 1, 2, 6);
        Checks.tell(joke, 5, 5, 6);
        Checks.tell(joke, 6, 5, 6);
        checks.due("of four", joke.next(), 2);
        joke.heard(5, 0);
        checks.due("of two", joke.next(), 1);
        joke.heard(1, 0);
        checks.due("of one left", joke.next(), 0);
        joke.heard(6, 0);
        checks.due("of none left", joke.next(), NONE);
    }

    private static void dueFun(int due, int... tale) {
        checks.due("fun of " + java.util.Arrays.toString(tale), Checks.with(3, tale).fun(3), due);
    }

    private static void fun() {
        checks.about("promise 23");
        dueFun(0);
        dueFun(2, 0);
        dueFun(5, 9);
        dueFun(2, 0, 0);
        dueFun(4, 0, 1);
        dueFun(12, 7, 9);
        dueFun(11, 7, 9, 0);
        dueFun(4, 9, 7);
        dueFun(9, 7, 0, 9);
        dueFun(21, 7, 9, 7, 9);
        dueFun(16, 7, 9, 7, 9, 7);
        dueFun(-2, 4, 4, 4);
        dueFun(2, 4, 5, 4, 4);
        dueFun(-6, 4, 4, 4, 4);
        dueFun(-30, 0, 0, 0, 0, 0, 0, 0, 0, 0, 0);
        dueFun(-27, 9, 9, 9, 9, 9, 9, 9, 9, 9, 9);
        dueFun(28, 0, 1, 2, 3, 4, 5, 6, 8, 7, 9);
        EntailedJoke joke = Checks.with(0, 4);
        for (int wrong : WRONG_BRANCHES) {
            checks.dueRefused(joke, "fun(" + wrong + ")", j -> j.fun(wrong), -1000, BAD);
        }
    }

    private static void dueFunniest(EntailedJoke joke, int fun, int... row) {
        int m = row.length;
        checks.due("funniest(" + m + ", NONE)", joke.funniest(m, NONE), fun);
        for (int i = 0; i < m; i++) {
            checks.due("funniest(" + m + ", " + i + ")", joke.funniest(m, i), row[i]);
        }
        checks.due("funniest, not so many", joke.funniest(m, m), -5);
        checks.due("funniest, not so many", joke.funniest(m, Integer.MAX_VALUE), -5);
    }

    private static void funniest() {
        checks.about("promise 24");
        EntailedJoke joke = new EntailedJoke();
        for (int time = 0; time < 2; time++) {
            dueFunniest(joke, 0);
            dueFunniest(joke, 5, 9);
            dueFunniest(joke, 12, 7, 9);
            dueFunniest(joke, 14, 0, 7, 9);
            dueFunniest(joke, 21, 7, 9, 7, 9);
        }
        joke = new EntailedJoke();
        dueFunniest(joke, 21, 7, 9, 7, 9);
        dueFunniest(joke, 12, 7, 9);
        dueFunniest(joke, 0);
        checks.dueStatus(joke, 0, 0, 0);
        for (int wrong : new int[] {-1, 5, Integer.MIN_VALUE, Integer.MAX_VALUE}) {
            checks.dueRefused(joke, "funniest(" + wrong + ", 0)", j -> j.funniest(wrong, 0), -1000, BAD);
            checks.dueRefused(joke, "funniest(" + wrong + ", 9)", j -> j.funniest(wrong, 9), -1000, BAD);
        }
        checks.dueRefused(joke, "funniest(0, -2)", j -> j.funniest(0, -2), -1000, BAD);
        checks.dueRefused(joke, "funniest(4, MIN)", j -> j.funniest(4, Integer.MIN_VALUE), -1000, BAD);
    }

    private static void dueSlip(int due, int... tale) {
        checks.due("slip of " + java.util.Arrays.toString(tale), Checks.with(2, tale).slip(2), due);
    }

    private static void slip() {
        checks.about("promise 25");
        dueSlip(500);
        dueSlip(507, 0);
        dueSlip(0, 7, 9);
        dueSlip(500, 9, 7);
        dueSlip(517, 1, 9);
        dueSlip(517, 0, 3);
        dueSlip(217, 9, 9, 9, 7, 9);
        dueSlip(370, 0, 1, 2, 3, 4, 5, 6, 7, 8, 9);
        dueSlip(410, 0, 0, 0, 0, 0, 0);
        dueSlip(0, 0, 1, 2, 3, 4, 5, 6, 8, 7, 9);
        EntailedJoke joke = Checks.with(0, 4);
        for (int wrong : WRONG_BRANCHES) {
            checks.dueRefused(joke, "slip(" + wrong + ")", j -> j.slip(wrong), BAD, BAD);
        }
    }

    private static void pawned() {
        checks.about("promise 26");
        EntailedJoke joke = new EntailedJoke();
        checks.due("pawned(0, 0) of none", joke.pawned(0, 0), 0);
        checks.due("pawned(0, 1) of none", joke.pawned(0, 1), 0);
        checks.due("pawned(1, 1) of none", joke.pawned(1, 1), NONE);
        Checks.tell(joke, 1, 0, 1);
        Checks.tell(joke, 2, 1, 2);
        Checks.tell(joke, 5, 2, 3);
        Checks.tell(joke, 7, 0, 9);
        checks.due("pawned(0, 0)", joke.pawned(0, 0), 166);
        checks.due("pawned(1, 0)", joke.pawned(1, 0), 36);
        checks.due("pawned(9, 0)", joke.pawned(9, 0), 4);
        checks.due("pawned(1023, 0)", joke.pawned(1023, 0), 0);
        checks.due("pawned(0, 1)", joke.pawned(0, 1), 0);
        checks.due("pawned(1, 1), the least", joke.pawned(1, 1), 2);
        checks.due("pawned(15, 1)", joke.pawned(15, 1), 34);
        checks.due("pawned(5, 1)", joke.pawned(5, 1), 6);
        checks.due("pawned(513, 1)", joke.pawned(513, 1), 128);
        checks.due("pawned(519, 1)", joke.pawned(519, 1), 132);
        checks.due("pawned(527, 1)", joke.pawned(527, 1), 162);
        checks.due("pawned(16, 1)", joke.pawned(16, 1), NONE);
        checks.due("pawned(1023, 1)", joke.pawned(1023, 1), NONE);
        Checks.tell(joke, 0, 0, 1, 2);
        checks.due("pawned(7, 1)", joke.pawned(7, 1), 1);
        EntailedJoke three = Checks.with(0, 0);
        Checks.tell(three, 1, 1);
        Checks.tell(three, 7, 0, 1);
        checks.due("pawned(3, 1), fewer ahead of less", three.pawned(3, 1), 128);
        checks.due("pawned(1, 1), less ahead of more", three.pawned(1, 1), 1);
        for (int wrong : new int[] {-1, 1024, Integer.MIN_VALUE, Integer.MAX_VALUE}) {
            checks.dueRefused(joke, "pawned(" + wrong + ", 0)", j -> j.pawned(wrong, 0), BAD, BAD);
        }
        for (int wrong : WRONG_BITS) {
            checks.dueRefused(joke, "pawned(0, " + wrong + ")", j -> j.pawned(0, wrong), BAD, BAD);
        }
    }

    private static void dueOdds(EntailedJoke joke, int x, int n, int c, long above, long below) {
        checks.due("odds(4, " + x + ", " + n + ", " + c + ")", joke.odds(4, x, n, c), 1);
        checks.due("above", joke.part(0), above);
        checks.due("below", joke.part(1), below);
    }

    private static void odds() {
        checks.about("promise 27");
        EntailedJoke none = new EntailedJoke();
        dueOdds(none, 0, 4, 10, 0, 1);
        dueOdds(none, 0, 0, 0, 0, 1);
        EntailedJoke single = Checks.with(4, 6);
        dueOdds(single, 6, 1, 3, 7, 10);
        dueOdds(single, 6, 4, 7, 81, 10000);
        EntailedJoke ten = Checks.with(4, 6, 6, 6, 1, 2, 3, 4, 5, 0, 0);
        dueOdds(ten, 6, 4, 10, 29, 30);
        dueOdds(ten, 0, 2, 10, 44, 45);
        EntailedJoke joke = Checks.with(4, 1, 2, 2);
        dueOdds(joke, 3, 4, 5, 0, 1);
        dueOdds(joke, 1, 0, 10, 1, 1);
        dueOdds(joke, 1, 4, 0, 1, 1);
        dueOdds(joke, 1, 1, 10, 2, 3);
        dueOdds(joke, 2, 1, 10, 1, 1);
        dueOdds(joke, 1, 2, 10, 1, 3);
        dueOdds(joke, 2, 2, 10, 2, 3);
        dueOdds(joke, 2, 3, 10, 0, 1);
        dueOdds(joke, 2, 4, 10, 0, 1);
        dueOdds(joke, 1, 1, 5, 5, 6);
        dueOdds(joke, 1, 2, 3, 4, 5);
        dueOdds(joke, 1, 3, 5, 1, 2);
        dueOdds(joke, 1, 4, 5, 17, 48);
        for (int wrong : WRONG_BRANCHES) {
            checks.dueRefused(joke, "odds(" + wrong + ", ..)", j -> j.odds(wrong, 1, 1, 1), BAD, BAD);
        }
        for (int wrong : WRONG_TENS) {
            checks.dueRefused(joke, "part " + wrong, j -> j.odds(4, wrong, 1, 1), BAD, BAD);
        }
        for (int wrong : new int[] {-1, 5, Integer.MIN_VALUE, Integer.MAX_VALUE}) {
            checks.dueRefused(joke, "times " + wrong, j -> j.odds(4, 1, wrong, 1), BAD, BAD);
        }
        for (int wrong : new int[] {-1, 11, Integer.MIN_VALUE, Integer.MAX_VALUE}) {
            checks.dueRefused(joke, "tenths " + wrong, j -> j.odds(4, 1, 1, wrong), BAD, BAD);
        }
    }

    private static void centuries() {
        checks.about("promise 28");
        EntailedJoke joke = new EntailedJoke();
        checks.due("of an empty one", joke.centuries(1, 7, 60), 0);
        Checks.tell(joke, 1, 1, 9);
        checks.due("of none with it", joke.centuries(1, 7, 60), 0);
        Checks.tell(joke, 0, 7);
        checks.due("none told", joke.centuries(0, 2, 0), NONE);
        checks.due("one too few", joke.centuries(0, 2, 8), NONE);
        checks.due("just so many", joke.centuries(0, 2, 9), 9);
        // by this seed it is in it again behind that, to the end
        checks.due("many more", joke.centuries(0, 2, 60), 9);
        checks.due("the greatest seed", joke.centuries(0, 999999, 60), 7);
        checks.due("the first century", joke.centuries(0, 123456, 60), 1);
        checks.due("the least seed", joke.centuries(0, 0, 60), 20);
        Checks.tell(joke, 6, 7, 7, 7);
        checks.due("more of it", joke.centuries(6, 123456, 60), 23);
        checks.due("more of it, too few", joke.centuries(6, 123456, 22), NONE);
        Checks.tell(joke, 7, 1, 2, 7, 3, 9);
        checks.due("in the middle", joke.centuries(7, 1, 60), 12);
        checks.due("in the middle", joke.centuries(7, 3, 60), 2);
        checks.dueTale(joke, 7, 1, 2, 7, 3, 9);
        for (int wrong : WRONG_BRANCHES) {
            checks.dueRefused(joke, "centuries(" + wrong + ", ..)", j -> j.centuries(wrong, 1, 1), BAD, BAD);
        }
        for (int wrong : new int[] {-1, 1000000, Integer.MIN_VALUE, Integer.MAX_VALUE}) {
            checks.dueRefused(joke, "seed " + wrong, j -> j.centuries(0, wrong, 1), BAD, BAD);
        }
        for (int wrong : new int[] {-1, 61, Integer.MIN_VALUE, Integer.MAX_VALUE}) {
            checks.dueRefused(joke, "centuries " + wrong, j -> j.centuries(0, 1, wrong), BAD, BAD);
        }
        checks.dueStatus(joke, 12, 0, 0);
    }
}
