/** Promise 10. */
public final class ReadTest {
    private static final int NONE = EntailedJoke.NONE, NO = EntailedJoke.NO;
    private static final Checks checks = new Checks();

    public static void main(String[] args) {
        whatIsRead();
        blanks();
        numbers();
        faults();
        tooEarly();
        whatStays();
        checks.end();
    }

    private static void whatIsRead() {
        checks.about("promise 10");
        EntailedJoke joke = new EntailedJoke();
        checks.due("house alone", Checks.read(joke, "house;"), 1);
        checks.due("count(0)", joke.count(0), 0);
        checks.due("tales", Checks.read(joke, "house;tale 3 1 2 9;tale 0;hand 3 5 2 0 7;hand 5 7 4 1 0;"), 5);
        checks.dueTale(joke, 3, 1, 2, 9);
        checks.dueTale(joke, 5, 7, 2, 9);
        checks.dueTale(joke, 7, 7);
        checks.due("count(0)", joke.count(0), 3);
        checks.due("parent(5)", joke.parent(5), 3);
        checks.due("parent(7)", joke.parent(7), 5);
        checks.due("parent(3)", joke.parent(3), NONE);
        checks.due("undo()", joke.undo(), NO);
        checks.due("ten parts", Checks.read(joke, "house;tale 7 0 1 2 3 4 5 6 7 8 9;"), 2);
        checks.dueTale(joke, 7, 0, 1, 2, 3, 4, 5, 6, 7, 8, 9);
        checks.dueTale(joke, 3);
        checks.due("told twice", Checks.read(joke, "house;tale 0 1;hand 0 1 0 0 0;tale 1 4;tale 0;"), 5);
        checks.dueTale(joke, 0);
        checks.dueTale(joke, 1, 4);
        checks.due("parent(1)", joke.parent(1), NONE);
        checks.due("read() twice", joke.read(), 5);
        longest(joke);
    }

    private static void longest(EntailedJoke joke) {
        StringBuilder text = new StringBuilder("house;");
        for (int i = 0; i < 20; i++) {
            text.append("tale 1;");
        }
        text.append("  ;");
        checks.due("149 bytes", Checks.read(joke, text.toString()), -10 - 148);
        text.setLength(146);
        text.append("    ");
        checks.due("150 bytes", Checks.read(joke, text.toString()), 21);
        text.setLength(146);
        text.append("tale");
        checks.due("150 bytes, too early", Checks.read(joke, text.toString()), -160);
        StringBuilder figures = new StringBuilder();
        for (int i = 0; i < 150; i++) {
            figures.append('0');
        }
        checks.due("150 figures", Checks.read(joke, figures.toString()), -10);
        checks.due("a long run", Checks.read(joke, "house;tale " + figures.substring(20)), -10 - 11);
    }

    private static void blanks() {
        checks.about("promise 10, blanks");
        EntailedJoke joke = new EntailedJoke();
        checks.due("many", Checks.read(joke, "   house  ;  tale   2   7  9  ;   "), 2);
        checks.dueTale(joke, 2, 7, 9);
        checks.due("few", Checks.read(joke, "house;tale1 5 6;hand1 2 0 0 0;"), 3);
        checks.dueTale(joke, 2, 5, 6);
        checks.due("none between words", Checks.read(joke, "house;taletale"), -16);
        checks.due("none between numbers", Checks.read(joke, "house;tale 12;"), -21);
        checks.due("a tab", Checks.read(joke, "house;\ttale 1;"), -16);
        checks.due("a line's end", Checks.read(joke, "house\n;"), -15);
    }

    private static void numbers() {
        checks.about("promise 10, numbers");
        EntailedJoke joke = new EntailedJoke();
        checks.due("two figures", Checks.read(joke, "house;tale 02 09 00;hand 02 03 05 00 01;"), 3);
        checks.dueTale(joke, 2, 9, 0);
        checks.dueTale(joke, 3, 1, 0, 9);
        checks.due("a part of 10", Checks.read(joke, "house;tale 2 1 10;"), -25);
        checks.due("a branch of 8", Checks.read(joke, "house;tale 8 1;"), -21);
        checks.due("three figures", Checks.read(joke, "house;tale 001 1;"), -21);
        checks.due("three figures for a part", Checks.read(joke, "house;tale 1 3 001;"), -25);
        checks.due("three figures for a word", Checks.read(joke, "house;001;"), -16);
    }

    private static void faults() {
        checks.about("promise 10, FAULT");
        EntailedJoke joke = new EntailedJoke();
        checks.due("no house", Checks.read(joke, "tale 0 1;"), -10);
        checks.due("no house, a number", Checks.read(joke, "  1 house;"), -12);
        checks.due("ahead of house", Checks.read(joke, ";house;"), -10);
        checks.due("no word", Checks.read(joke, "house; tail 0;"), -17);
        checks.due("a shorter word", Checks.read(joke, "hous;"), -10);
        checks.due("a longer word", Checks.read(joke, "house;hands 0 1 0 0 0;"), -16);
        checks.due("another first letter", Checks.read(joke, "xouse;"), -10);
        checks.due("another last letter", Checks.read(joke, "housz;"), -10);
        checks.due("a letter more", Checks.read(joke, "housez;"), -10);
        checks.due("tale's first letter", Checks.read(joke, "house;hale 0;"), -16);
        checks.due("hand's first letter", Checks.read(joke, "house;tale 0 1;tand 0 1 0 0 0;"), -25);
        checks.due("a byte behind ;", Checks.read(joke, "house<"), -15);
        checks.due("a byte ahead of ;", Checks.read(joke, "house:"), -15);
        checks.due("an upper letter", Checks.read(joke, "house;tale 0 1A"), -24);
        checks.due("a byte behind z", Checks.read(joke, "house{;"), -15);
        checks.due("a byte ahead of a", Checks.read(joke, "house`;"), -15);
        checks.due("an upper word", Checks.read(joke, "House;"), -10);
        checks.due("an upper end of a word", Checks.read(joke, "housE;"), -10);
        checks.due("house again", Checks.read(joke, "house;tale 0;house;"), -23);
        checks.due("a word in a tale", Checks.read(joke, "house;tale 0 1 2 hand 0 1;"), -27);
        checks.due("no branch", Checks.read(joke, "house;tale;"), -20);
        checks.due("nothing between ends", Checks.read(joke, "house; ;"), -17);
        checks.due("an 11th part", Checks.read(joke, "house;tale 0 0 1 2 3 4 5 6 7 8 9 0;"), -43);
        checks.due("an 11th part, wrong", Checks.read(joke, "house;tale 0 0 1 2 3 4 5 6 7 8 9 10;"), -43);
        checks.due("a number for house's end", Checks.read(joke, "house 1"), -16);
        checks.due("a byte of no token", Checks.read(joke, "house;tale 0 -1;"), -23);
        checks.due("a byte of no token behind", Checks.read(joke, "house;."), -16);
        handFaults(joke);
    }

    private static void handFaults(EntailedJoke joke) {
        String told = "house;tale 2 5;";
        checks.due("a is empty", Checks.read(joke, told + "hand 1 3 0 0 0;"), -30);
        checks.due("a is empty then", Checks.read(joke, told + "tale 2;hand 2 3 0 0 0;"), -37);
        checks.due("a was emptied", Checks.read(joke, told + "hand 2 3 1 0 0;hand 3 4 0 0 0;"), -45);
        checks.due("a is told later", Checks.read(joke, "house;hand 0 1 0 0 0;tale 0 1;"), -21);
        checks.due("a of 8", Checks.read(joke, told + "hand 8 3 0 0 0;"), -30);
        checks.due("b is a", Checks.read(joke, told + "hand 2 2 0 0 0;"), -32);
        checks.due("b is less", Checks.read(joke, told + "hand 2 1 0 0 0;"), -32);
        checks.due("b of 8", Checks.read(joke, told + "hand 2 8 0 0 0;"), -32);
        checks.due("no b is greater than 7", Checks.read(joke, "house;tale 7 5;hand 7 7 0 0 0;"), -32);
        checks.due("a of 6", Checks.read(joke, "house;tale 6 5;hand 6 7 0 0 0;"), 3);
        checks.due("kind of 6", Checks.read(joke, told + "hand 2 3 6 0 0;"), -34);
        checks.due("kind of 5", Checks.read(joke, told + "hand 2 3 5 0 0;"), 3);
        checks.due("place of 10", Checks.read(joke, told + "hand 2 3 0 10 0;"), -36);
        checks.due("place of 9", Checks.read(joke, told + "hand 2 3 0 9 0;"), 3);
        checks.due("x of 10", Checks.read(joke, told + "hand 2 3 0 0 10;"), -38);
        checks.due("x of 9", Checks.read(joke, told + "hand 2 3 0 0 9;"), 3);
        checks.due("one more number", Checks.read(joke, told + "hand 2 3 0 0 0 0;"), -40);
        checks.due("one number less", Checks.read(joke, told + "hand 2 3 0 0;"), -37);
    }

    private static void tooEarly() {
        checks.about("promise 10, too early");
        String whole = "house ; tale 0 1 2 ; hand 0 1 0 0 0 ;";
        int firstEnd = whole.indexOf(';') + 1;
        int secondEnd = whole.indexOf(';', firstEnd) + 1;
        for (int length = 0; length <= whole.length(); length++) {
            String text = whole.substring(0, length);
            int due = -10 - length;
            String last = text.substring(text.lastIndexOf(' ') + 1);
            boolean isCutWord = !last.isEmpty() && "houstalend".indexOf(last.charAt(0)) >= 0
                && !last.equals("house") && !last.equals("tale") && !last.equals("hand");
            if (isCutWord) {
                due = -10 - (length - last.length());
            } else if (length == whole.length()) {
                due = 3;
            } else if (length == secondEnd || length == secondEnd + 1) {
                due = 2;
            } else if (length == firstEnd || length == firstEnd + 1) {
                due = 1;
            }
            checks.due("read of " + text, Checks.read(new EntailedJoke(), text), due);
        }
    }

    private static void whatStays() {
        checks.about("promise 10, what stays");
        EntailedJoke joke = Checks.with(4, 1, 2, 7);
        joke.odds(4, 1, 1, 5);
        joke.image(1);
        joke.heard(1, 0);
        joke.say(5);
        joke.say(-1);
        Checks.type(joke, "house;tale 0 1;tale 9;");
        long digest = joke.digest();
        checks.due("a house that can't be read", joke.read(), -30);
        checks.due("digest()", joke.digest(), digest);
        checks.dueStatus(joke, 1, 0, 0);
        Checks.type(joke, "house;tale 0 1;");
        checks.due("read()", joke.read(), 2);
        checks.due("ROW", joke.count(2), 0);
        checks.due("HEARD", joke.count(3), 0);
        checks.due("may be undone", joke.count(4), 0);
        checks.due("bytes of THE TEXT", joke.count(5), 15);
        checks.due("part(0)", joke.part(0), 5);
        checks.due("part(1)", joke.part(1), 6);
        checks.dueStatus(joke, 1, 0, 0);
        checks.dueTale(joke, 4);
        checks.due("from(1)", joke.from(1), 1);
        checks.dueTale(joke, 4, 1, 2, 7);
        checks.due("from(0)", joke.from(0), NO);
    }
}
