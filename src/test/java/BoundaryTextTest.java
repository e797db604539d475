/** A test for each sentence on THE TEXT and the reading of it that names a boundary. */
public final class BoundaryTextTest {
    private static final int NONE = EntailedJoke.NONE, BAD = EntailedJoke.BAD;
    private static final int NO = EntailedJoke.NO, FULL = EntailedJoke.FULL;
    private static final String TOLD = "house;tale 2 5;";
    private static final Checks checks = new Checks();
    private static final Sentences sentence = new Sentences(checks);

    public static void main(String[] args) {
        bytesAtMost();
        itemsEnded();
        houseFirst();
        houseOnce();
        taleNumbers();
        partsOfATale();
        partsAsTold();
        branchesOfAHand();
        numbersOfAHand();
        howManyNumbersOfAHand();
        letters();
        figures();
        oneOrTwoFigures();
        oneByteTokens();
        blanksAnyNumber();
        blanksNeeded();
        firstByteOfTheFirst();
        aWordThatIsNone();
        houseAgain();
        anythingAheadOfIt();
        anEleventhPart();
        threeFigures();
        aNumberNotAsTold();
        tellerEmptyThen();
        notGreater();
        aByteThatBeginsNone();
        tooEarly();
        anEmptyOne();
        takesThePlace();
        leavesWhatIsNamed();
        rowHeardUndo();
        typeBytes();
        typeIsFull();
        clear();
        howManyItems();
        allStays();
        checks.end();
    }

    // ---- what the tests share

    private static EntailedJoke dueRead(String text, int due) {
        EntailedJoke joke = new EntailedJoke();
        checks.due("read() of " + text, Checks.read(joke, text), due);
        return joke;
    }

    private static void dueFault(String ahead, String rest) {
        dueRead(ahead + rest, -10 - ahead.length());
    }

    private static void dueTooEarly(String text) {
        dueRead(text, -10 - text.length());
    }

    // ---- Terms 1: the text and its items

    private static void bytesAtMost() {
        sentence.of("Terms", "THE HOUSE is told by a TEXT (150 bytes at most)");
        String tales = "house;" + "tale 1;".repeat(20);
        EntailedJoke joke = dueRead(tales + "   ;", -10 - 149);
        checks.due("count(5)", joke.count(5), 150);
        checks.due("a 151st byte", joke.type(';'), FULL);
        dueRead(tales + "tale", -10 - 150);
        dueRead(tales + "   a", -10 - 149);
        dueRead(tales + "tale5", -10 - 150);
        dueRead(tales + "    ", 21);
        joke = dueRead("house;" + "tale 1;".repeat(19) + "tale 7 4 4;", 21);
        checks.due("count(5)", joke.count(5), 150);
        checks.dueTale(joke, 7, 4, 4);
        joke = new EntailedJoke();
        checks.due("read() of what has no room", Checks.read(joke, tales + "tale;"), -10 - 150);
        checks.due("count(5)", joke.count(5), 150);
    }

    private static void itemsEnded() {
        sentence.of("Terms", "of ITEMS, each ended by ; :");
        dueTooEarly("house");
        dueRead("house;", 1);
        dueTooEarly("house;tale 0");
        dueRead("house;tale 0;", 2);
        dueTooEarly("house;tale 0 1");
        dueRead("house;tale 0 1;", 2);
        dueTooEarly(TOLD + "hand 2 3 0 0 0");
        dueRead(TOLD + "hand 2 3 0 0 0;", 3);
        dueFault("house;", ";");
        dueFault("house;tale 0;", ";");
        dueFault("house;tale 0 1 ", "tale 1 1;");
    }

    private static void houseFirst() {
        sentence.of("Terms", "house (once, first of all);");
        dueFault("", "tale 0 1;house;");
        dueFault("", "tale 0 1;");
        dueFault("", "hand 0 1 0 0 0;");
        dueRead("house;tale 0 1;", 2);
    }

    private static void houseOnce() {
        sentence.of("Terms", "house (once, first of all);");
        dueFault("house;", "house;");
        dueFault("house ", "house;");
        dueFault("house;tale 0 1;", "house;tale 0 1;");
        dueRead("house;", 1);
    }

    private static void taleNumbers() {
        sentence.of("Terms", "tale k and its PARTS (any);");
        for (int k = 0; k <= 99; k++) {
            String text = "house;tale " + k + " 3;";
            EntailedJoke joke = dueRead(text, k < 8 ? 2 : -10 - 11);
            checks.due("count(0)", joke.count(0), k < 8 ? 1 : 0);
            if (k < 8) {
                checks.dueTale(joke, k, 3);
            }
        }
        dueFault("house;tale", ";");
        dueFault("house;tale ", "tale 3;");
    }

    private static void partsOfATale() {
        sentence.of("Terms", "tale k and its PARTS (any);");
        StringBuilder parts = new StringBuilder();
        for (int n = 0; n <= 11; n++) {
            EntailedJoke joke = dueRead("house;tale 6" + parts + ";", n <= 10 ? 2 : -10 - 33);
            checks.due("at(6, NONE)", joke.at(6, NONE), n <= 10 ? n : 0);
            checks.due("parent(6)", joke.parent(6), NONE);
            parts.append(' ').append(n % 10);
        }
        EntailedJoke joke = dueRead("house;tale 6 1;tale 6;", 3);
        checks.dueTale(joke, 6);
        joke = dueRead("house;tale 6 1;hand 6 7 0 0 0;tale 7 2 3;", 4);
        checks.dueTale(joke, 7, 2, 3);
        checks.due("parent(7)", joke.parent(7), NONE);
    }

    private static void partsAsTold() {
        sentence.of("Terms", "PARTS are 0 .. 9;");
        for (int x = 0; x <= 99; x++) {
            EntailedJoke joke = dueRead("house;tale 6 3 " + x + ";", x < 10 ? 2 : -10 - 15);
            if (x < 10) {
                checks.dueTale(joke, 6, 3, x);
            }
        }
    }

    private static void branchesOfAHand() {
        sentence.of("Terms", "hand a b KIND i x (a TELLING).");
        for (int a = 0; a <= 9; a++) {
            for (int b = 0; b <= 9; b++) {
                String told = "house;tale " + Math.min(a, 7) + " 5 6;hand ";
                int due = a > 7 ? -10 - told.length() : b <= a || b > 7 ? -10 - told.length() - 2 : 3;
                EntailedJoke joke = dueRead(told + a + " " + b + " 1 0 0;", due);
                checks.due("count(0)", joke.count(0), due == 3 ? 2 : 0);
                if (due == 3) {
                    checks.dueTale(joke, b, 6);
                    checks.due("parent(" + b + ")", joke.parent(b), a);
                }
            }
        }
    }

    private static void numbersOfAHand() {
        sentence.of("Terms", "hand a b KIND i x (a TELLING).");
        String hand = TOLD + "hand 2 3 ";
        int place = -10 - hand.length();
        for (int number = 0; number <= 99; number++) {
            dueRead(hand + number + " 0 0;", number < 6 ? 3 : place);
            dueRead(hand + "2 " + number + " 0;", number < 10 ? 3 : place - 2);
            dueRead(hand + "2 0 " + number + ";", number < 10 ? 3 : place - 4);
        }
        checks.dueTale(dueRead(hand + "2 0 0;", 3), 3, 0);
        checks.dueTale(dueRead(hand + "2 0 9;", 3), 3, 9);
        checks.dueTale(dueRead(hand + "2 1 9;", 3), 3, 5);
        checks.dueTale(dueRead("house;tale 2 0 1 2 3 4 5 6 7 8 9;hand 2 3 4 9 0;", 3), 3, 0, 1, 2, 3, 4, 5, 6, 7, 8);
        checks.dueTale(dueRead(hand + "5 0 9;", 3), 3, 9);
        checks.dueTale(dueRead(hand + "5 0 8;", 3), 3, 8, 9);
    }

    private static void howManyNumbersOfAHand() {
        sentence.of("Terms", "hand a b KIND i x (a TELLING).");
        dueFault(TOLD + "hand", ";");
        dueFault(TOLD + "hand 2", ";");
        dueFault(TOLD + "hand 2 3", ";");
        dueFault(TOLD + "hand 2 3 0", ";");
        dueFault(TOLD + "hand 2 3 0 0", ";");
        dueRead(TOLD + "hand 2 3 0 0 0;", 3);
        dueFault(TOLD + "hand 2 3 0 0 0 ", "0;");
        dueFault(TOLD + "hand 2 3 0 0 0 ", "hand 2 3 0 0 0;");
    }

    // ---- Terms 1: tokens

    private static void letters() {
        sentence.of("Terms", "TOKENS: words of letters a .. z,");
        for (char c = 0; c < 128; c++) {
            boolean isLetter = c >= 'a' && c <= 'z';
            String end = c == ';' ? "" : ";";
            dueRead("house" + c + end + "tale 0;", isLetter ? -10 : c == ';' || c == ' ' ? 2 : -15);
            dueRead("hous" + c + ";", c == 'e' ? 1 : -10);
        }
        dueRead("House;", -10);
        dueFault("house;", "talez 0;");
        dueFault("house;", "tal 0;");
    }

    private static void figures() {
        sentence.of("Terms", "figures (1 or 2 are one number),");
        for (char c = 0; c < 128; c++) {
            boolean isFigure = c >= '0' && c <= '9';
            EntailedJoke joke = dueRead("house;tale 0 " + c + " ;", isFigure || c == ' ' ? 2 : c == ';' ? -25 : -23);
            checks.due("at(0, 0)", joke.at(0, 0), isFigure ? c - '0' : -5);
            joke = dueRead("house;tale 0 0" + c + " ;", isFigure || c == ' ' ? 2 : c == ';' ? -26 : -24);
            checks.due("at(0, 0)", joke.at(0, 0), isFigure ? c - '0' : c == ' ' ? 0 : -5);
        }
    }

    private static void oneOrTwoFigures() {
        sentence.of("Terms", "figures (1 or 2 are one number),");
        checks.dueTale(dueRead("house;tale 1 7;", 2), 1, 7);
        checks.dueTale(dueRead("house;tale 01 07;", 2), 1, 7);
        checks.dueTale(dueRead("house;tale 1 0 7;", 2), 1, 0, 7);
        dueFault("house;tale 1 ", "007;");
        dueFault("house;tale ", "001 7;");
        dueFault("house;tale 1 ", "10;");
        dueFault("house;tale ", "17;");
    }

    private static void oneByteTokens() {
        sentence.of("Terms", "; ; blanks (32),");
        dueRead("house;", 1);
        dueFault("house", ":");
        dueFault("house", "<");
        dueRead("house ;", 1);
        dueFault("house", "!;");
        dueFault("house", "\u001f;");
        dueFault("house;", ";;");
    }

    private static void blanksAnyNumber() {
        sentence.of("Terms", "blanks (32), any number, ahead of, between and behind TOKENS");
        String[] tokens = {"", "house", ";", "tale", "2", "5", ";", "hand", "2", "3", "0", "0", "0", ";", ""};
        for (int gap = 0; gap + 1 < tokens.length; gap++) {
            for (int blanks : new int[] {1, 2, 3, 90}) {
                StringBuilder text = new StringBuilder(tokens[0]);
                for (int i = 1; i < tokens.length; i++) {
                    text.append(" ".repeat(i - 1 == gap ? blanks : 1)).append(tokens[i]);
                }
                EntailedJoke joke = dueRead(text.toString(), 3);
                checks.dueTale(joke, 3, 5);
                checks.due("parent(3)", joke.parent(3), 2);
            }
        }
    }

    private static void blanksNeeded() {
        sentence.of("Terms", "(needed only between two words, two numbers).");
        dueRead("house;tale2 5;hand2 3 0 0 0;", 3);
        dueRead("house ;tale 2 5;", 2);
        dueFault("house;tale2", "tale3;");
        dueFault("house;tale2 5", "hand2 3 0 0 0;");
        dueFault("house;", "talehand 2;");
        dueFault("house ", "tale 2;");
        dueFault("", "housetale 2;");
        dueFault("house;tale ", "25;");
        dueRead("house;tale 2 5;", 2);
        dueFault(TOLD + "hand ", "23 0 0 0;");
        dueFault(TOLD + "hand 2 3 0 ", "000;");
    }

    // ---- Terms 1: FAULT

    private static void firstByteOfTheFirst() {
        sentence.of("Terms", "FAULT: the place of the first byte of the first TOKEN that can not stand there");
        dueFault("house;tale 1 ", "99 99;horse;");
        dueFault("house;tale 1   ", "99");
        dueFault("house;", "horse 99 99;");
        dueFault("", "horse;");
        dueFault("   ", "horse;");
        dueFault(TOLD + "hand 2 ", "1 9 99 99");
        dueFault(TOLD + "hand ", "8 8 8 88 88");
    }

    private static void aWordThatIsNone() {
        sentence.of("Terms", "(a word that is none,");
        for (String word : new String[] {"h", "hous", "houses", "xouse", "hoxse", "housx", "horse"}) {
            dueFault("", word + ";");
            dueFault("  ", word);
        }
        for (String word : new String[] {"t", "tal", "tales", "xale", "taxe", "talx", "hale", "a", "z"}) {
            dueFault("house;", word + " 0 1;");
        }
        for (String word : new String[] {"h", "han", "hands", "xand", "haxd", "hanx", "tand", "hous"}) {
            dueFault(TOLD, word + " 2 3 0 0 0;");
        }
        dueFault(TOLD + "hand 2 3 0 0 ", "x;");
        dueRead(TOLD + "hand 2 3 0 0 0;", 3);
    }

    private static void houseAgain() {
        sentence.of("Terms", "house again,");
        dueFault("house;", "house");
        dueFault("house;  ", "house;");
        dueFault(TOLD, "house;");
        dueFault("house;tale ", "house;");
        dueRead(TOLD, 2);
    }

    private static void anythingAheadOfIt() {
        sentence.of("Terms", "anything ahead of it,");
        for (String ahead : new String[] {";", "1", "12", "123", "tale", "hand", "tale 0;", "x", "-", "\t"}) {
            dueFault("", ahead + " house;");
            dueFault(" ", ahead + " house;");
        }
        dueRead("     house;", 1);
    }

    private static void anEleventhPart() {
        sentence.of("Terms", "an 11th PART,");
        String ten = "house;tale 0 0 1 2 3 4 5 6 7 8 9";
        dueRead(ten + ";", 2);
        dueFault(ten + " ", "0;");
        dueFault(ten + " ", "10;");
        dueFault(ten + "   ", "9");
        dueFault("house;tale 0 00 01 02 03 04 05 06 07 08 09 ", "1;");
        dueTooEarly(ten);
    }

    private static void threeFigures() {
        sentence.of("Terms", "a run of three figures or more (at its first one),");
        String run = "0".repeat(120);
        for (int figures : new int[] {1, 2, 3, 4, 9, 10, 11, 19, 20, 21, 32, 33, 64, 120}) {
            int due = figures <= 2 ? 2 : -10 - 13;
            dueRead("house;tale 0 " + run.substring(0, figures) + ";", due);
            dueRead("house;tale " + run.substring(0, figures) + " 1;", figures <= 2 ? 2 : -10 - 11);
        }
        dueFault("house;tale 0 ", "4294967297;");
        dueFault("house;tale 0 ", "4294967296;");
        dueFault("house;tale 0 ", "18446744073709551617;");
        dueFault("house;", "000;");
        dueFault(TOLD + "hand ", "002 3 0 0 0;");
        dueFault(TOLD + "hand 2 ", "003 0 0 0;");
        dueFault(TOLD + "hand 2 3 ", "000 0 0;");
        dueFault(TOLD + "hand 2 3 0 ", "000 0;");
        dueFault(TOLD + "hand 2 3 0 0 ", "000;");
        dueRead(TOLD + "hand 02 03 00 00 00;", 3);
    }

    private static void aNumberNotAsTold() {
        sentence.of("Terms", "a number not as told,");
        dueFault("house;tale ", "8;");
        dueRead("house;tale 7;", 2);
        dueFault("house;tale 7 ", "10;");
        dueRead("house;tale 7 9;", 2);
        dueFault(TOLD + "hand 2 ", "8 0 0 0;");
        dueRead(TOLD + "hand 2 7 0 0 0;", 3);
        dueFault(TOLD + "hand 2 7 ", "6 0 0;");
        dueRead(TOLD + "hand 2 7 5 0 0;", 3);
        dueFault(TOLD + "hand 2 7 0 ", "10 0;");
        dueRead(TOLD + "hand 2 7 0 9 0;", 3);
        dueFault(TOLD + "hand 2 7 0 0 ", "10;");
        dueRead(TOLD + "hand 2 7 0 0 9;", 3);
    }

    private static void tellerEmptyThen() {
        sentence.of("Terms", "also a whose TALE is empty then,");
        dueFault("house;hand ", "0 1 0 0 0;");
        dueFault("house;tale 0;hand ", "0 1 0 0 0;");
        dueRead("house;tale 0 1;hand 0 1 0 0 0;", 3);
        dueFault("house;tale 0 1;tale 0;hand ", "0 1 0 0 0;");
        dueFault("house;hand ", "0 1 0 0 0;tale 0 1;");
        dueFault("house;tale 0 1;hand 0 1 1 0 0;hand ", "1 2 0 0 0;");
        dueRead("house;tale 0 1;hand 0 1 1 1 0;hand 1 2 0 0 0;", 4);
        dueFault("house;tale 1 1;hand ", "0 1 0 0 0;");
        EntailedJoke joke = Checks.with(0, 4);
        checks.due("a tale of the object's is none of the text's",
            Checks.read(joke, "house;hand 0 1 0 0 0;"), -10 - 11);
    }

    private static void notGreater() {
        sentence.of("Terms", "b that is not greater than a,");
        dueFault(TOLD + "hand 2 ", "1 0 0 0;");
        dueFault(TOLD + "hand 2 ", "2 0 0 0;");
        dueRead(TOLD + "hand 2 3 0 0 0;", 3);
        dueFault("house;tale 7 5;hand 7 ", "7 0 0 0;");
        dueFault("house;tale 7 5;hand 7 ", "8 0 0 0;");
        dueFault("house;tale 0 5;hand 0 ", "0 0 0 0;");
        dueRead("house;tale 0 5;hand 0 1 0 0 0;", 3);
    }

    private static void aByteThatBeginsNone() {
        sentence.of("Terms", "a byte that begins none, too);");
        for (char c = 0; c < 128; c++) {
            boolean begins = c >= 'a' && c <= 'z' || c >= '0' && c <= '9' || c == ';' || c == ' ';
            if (!begins) {
                dueFault("", c + "house;");
                dueFault("house", c + ";");
                dueFault("house;", c + "tale 0 1;");
                dueFault("house;tale", c + "0 1;");
                dueFault("house;tale 0", c + "1;");
                dueFault("house;tale 0 1", c + ";");
                dueFault("house;tale 0 1;", "" + c);
            }
        }
    }

    private static void tooEarly() {
        sentence.of("Terms", "the TEXT's length, if it ends too early");
        String[] tokens = {"house", ";", "tale", "2", "5", "7", ";", "hand", "2", "3", "0", "0", "0", ";"};
        StringBuilder text = new StringBuilder();
        int items = 0;
        for (String token : tokens) {
            boolean isEnd = token.equals(";");
            items += isEnd ? 1 : 0;
            text.append(token);
            dueRead(text.toString(), isEnd ? items : -10 - text.length());
            text.append(' ');
            dueRead(text.toString(), isEnd ? items : -10 - text.length());
            text.append(' ');
            dueRead(text.toString(), isEnd ? items : -10 - text.length());
        }
    }

    private static void anEmptyOne() {
        sentence.of("Terms", "if it ends too early (an empty one, too).");
        checks.due("read() of a new object", new EntailedJoke().read(), -10);
        for (int blanks = 0; blanks <= 150; blanks++) {
            dueTooEarly(" ".repeat(blanks));
        }
        EntailedJoke joke = dueRead("house;", 1);
        joke.clear();
        checks.due("read() behind clear()", joke.read(), -10);
    }

    // ---- Terms 1: what takes the place

    private static void takesThePlace() {
        sentence.of("Terms", "A HOUSE that is read takes the place of all but");
        EntailedJoke joke = Checks.with(0, 1, 2);
        for (int b = 1; b < 8; b++) {
            joke.hand(0, b, 0, 0, 0);
        }
        checks.due("read()", Checks.read(joke, "house;tale 3 4;"), 2);
        for (int branch = 0; branch < 8; branch++) {
            checks.due("at(" + branch + ", NONE)", joke.at(branch, NONE), branch == 3 ? 1 : 0);
            checks.due("parent(" + branch + ")", joke.parent(branch), NONE);
        }
        checks.due("read() of another", Checks.read(joke, "house;tale 0 1;hand 0 7 0 0 0;"), 3);
        checks.due("parent(7)", joke.parent(7), 0);
        checks.due("read() of house alone", Checks.read(joke, "house;"), 1);
        checks.due("parent(7)", joke.parent(7), NONE);
        checks.due("count(0)", joke.count(0), 0);
    }

    private static void leavesWhatIsNamed() {
        sentence.of("Terms", "all but IMAGES, THE TEXT, THE FRACTION, STATUS");
        EntailedJoke joke = Checks.with(0, 1, 2);
        joke.image(1);
        joke.odds(0, 1, 1, 10);
        joke.say(-1);
        joke.undo();
        joke.undo();
        checks.due("read()", Checks.read(joke, "house;tale 3 4;"), 2);
        checks.due("part(0)", joke.part(0), 1);
        checks.due("part(1)", joke.part(1), 2);
        checks.dueStatus(joke, 1, 1, 0);
        checks.due("count(5)", joke.count(5), 15);
        checks.due("read() again", joke.read(), 2);
        checks.due("from(0)", joke.from(0), NO);
        checks.due("from(1)", joke.from(1), 1);
        checks.dueTale(joke, 0, 1, 2);
        checks.dueTale(joke, 3);
        checks.due("count(4)", joke.count(4), 1);
    }

    private static void rowHeardUndo() {
        sentence.of("Terms", "(ROW empty, HEARD none; nothing to undo).");
        EntailedJoke joke = Checks.with(0, 1, 2);
        joke.say(3);
        joke.heard(9, 1);
        Checks.type(joke, "house;tale 0 1;hand 0 1 0 0 0;");
        checks.due("count(2) + count(3) + count(4)", joke.count(2) + joke.count(3) + joke.count(4), 3);
        checks.due("read()", joke.read(), 3);
        checks.due("count(2)", joke.count(2), 0);
        checks.due("count(3)", joke.count(3), 0);
        checks.due("count(4)", joke.count(4), 0);
        checks.due("door()", joke.door(), 3);
        checks.due("hush()", joke.hush(), 0);
        checks.due("undo()", joke.undo(), NO);
        Checks.tell(joke, 1);
        checks.due("undo() of what came behind", joke.undo(), 2);
        checks.due("undo() of no more", joke.undo(), NO);
    }

    // ---- promises 8 to 10

    private static void typeBytes() {
        sentence.of("Promise 8", "A byte (0 .. 127) comes behind THE TEXT: how many it has. BAD;");
        EntailedJoke joke = new EntailedJoke();
        checks.dueRefused(joke, "type(-1)", j -> j.type(-1), BAD, BAD);
        for (int c = 0; c < 128; c++) {
            checks.due("type(" + c + ")", joke.type(c), c + 1);
        }
        checks.dueRefused(joke, "type(128)", j -> j.type(128), BAD, BAD);
        checks.dueRefused(joke, "type(256)", j -> j.type(256), BAD, BAD);
        checks.due("count(5)", joke.count(5), 128);
    }

    private static void typeIsFull() {
        sentence.of("Promise 8", "BAD; FULL.");
        EntailedJoke joke = new EntailedJoke();
        for (int bytes = 1; bytes <= 150; bytes++) {
            checks.due("type(32)", joke.type(32), bytes);
        }
        checks.dueRefused(joke, "a 151st", j -> j.type(32), FULL, FULL);
        checks.dueRefused(joke, "a 151st that is BAD", j -> j.type(-1), BAD, BAD);
        checks.due("clear()", joke.clear(), 150);
        checks.due("type(32) behind clear()", joke.type(32), 1);
    }

    private static void clear() {
        sentence.of("Promise 9", "THE TEXT is empty: how many it had.");
        EntailedJoke joke = new EntailedJoke();
        for (int bytes : new int[] {0, 1, 149, 150}) {
            Checks.type(joke, " ".repeat(bytes));
            checks.due("clear() of " + bytes, joke.clear(), bytes);
            checks.due("count(5)", joke.count(5), 0);
            checks.due("clear() again", joke.clear(), 0);
        }
        Checks.type(joke, "house;tale 0 1;");
        Checks.type(joke, "house;");
        checks.due("read() of the second text alone", joke.read(), 1);
        checks.dueStatus(joke, 0, 0, 0);
    }

    private static void howManyItems() {
        sentence.of("Promise 10", "THE HOUSE is read (THE TEXT stays): how many ITEMS.");
        for (int items = 1; items <= 21; items++) {
            EntailedJoke joke = dueRead("house;" + "tale 7;".repeat(items - 1), items);
            checks.due("count(5)", joke.count(5), 7 * items - 1);
            checks.due("read() again", joke.read(), items);
        }
    }

    private static void allStays() {
        sentence.of("Promise 10", "-10 less the FAULT: all stays.");
        dueRead("", -10);
        dueRead("x", -10);
        dueRead(" x", -11);
        dueRead(" ".repeat(149) + "x", -159);
        dueRead(" ".repeat(150), -160);
        EntailedJoke joke = Checks.with(1, 3, 4);
        joke.hand(1, 2, 1, 0, 0);
        joke.say(6);
        joke.heard(3, 1);
        Checks.type(joke, "house;tale 0 1;hand 0 2 0 0 0;tale 1;house;");
        long digest = joke.digest();
        checks.due("read()", joke.read(), -10 - 37);
        checks.due("digest()", joke.digest(), digest);
        checks.dueStatus(joke, 0, 0, 0);
        checks.due("read() again", joke.read(), -10 - 37);
        checks.due("undo()", joke.undo(), 1);
        checks.dueTale(joke, 1, 3, 4);
        checks.due("undo()", joke.undo(), 0);
        checks.due("undo()", joke.undo(), NO);
    }
}
