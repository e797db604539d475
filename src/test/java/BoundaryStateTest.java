import java.util.ArrayList;
import java.util.List;

/** A test for each sentence on undoing, images, refusals, the fraction and the counts that names a boundary. */
public final class BoundaryStateTest {
    private static final int NONE = EntailedJoke.NONE, BAD = EntailedJoke.BAD;
    private static final int NO = EntailedJoke.NO, FULL = EntailedJoke.FULL;
    private static final Checks checks = new Checks();
    private static final Sentences sentence = new Sentences(checks);

    /** A call that is refused, what it answers, and as what it counts. */
    private record Refused(String name, Checks.Call call, long answer, int why) {
    }

    private interface CallWith {
        long on(EntailedJoke joke, int wrong);
    }

    public static void main(String[] args) {
        constants();
        undoEight();
        undoTalesAndParents();
        undoOfTaleTold();
        imagesTwo();
        imagesKeepAllBut();
        imagesKeepWhatMayBeUndone();
        statusOfEach();
        statusOfNoneElse();
        fractionAtFirst();
        fractionLowest();
        refusedChangingNothing();
        refusedBadFirst();
        refusedToldOtherwise();
        part();
        imageIsBad();
        fromIsBad();
        fromIsNo();
        statusOfAnother();
        counts();
        countIsBad();
        digestOfNone();
        digestOfAll();
        digestOfParents();
        farNumbers();
        checks.end();
    }

    // ---- what the tests share

    private static long folded(long... numbers) {
        long h = 1051;
        for (long number : numbers) {
            h = 31 * h + number;
        }
        return h;
    }

    private static void dueUndone(EntailedJoke joke, int many) {
        for (int i = 0; i < many; i++) {
            checks.holds("undo() " + (i + 1) + " of " + many, joke.undo() >= 0);
        }
        checks.due("undo() of no more", joke.undo(), NO);
    }

    /** An object in which nothing is empty; in a full one there is no room either. */
    private static EntailedJoke rich(boolean isFull) {
        EntailedJoke joke = Checks.with(1, 3, 7, 9);
        joke.image(0);
        joke.hand(1, 5, 5, 0, 2);
        joke.hand(5, 6, 4, 0, 0);
        if (isFull) {
            joke.image(1);
        }
        Checks.type(joke, isFull ? " ".repeat(135) + "house;tale 0 1;" : "house;tale 0 1;");
        for (int i = 0; i < (isFull ? 10 : 9); i++) {
            joke.say(i);
        }
        for (int i = 0; i < (isFull ? 6 : 5); i++) {
            joke.heard(i, i % 2);
        }
        joke.odds(1, 3, 3, 4);
        return joke;
    }

    private static void look(EntailedJoke joke, List<Long> seen) {
        seen.add(joke.digest());
        for (int i = 0; i < 9; i++) {
            seen.add((long) joke.undo());
            seen.add(joke.digest());
        }
    }

    /** All that can be told from outside, but for STATUS; the object is of no use behind it. */
    private static List<Long> all(EntailedJoke joke) {
        List<Long> seen = new ArrayList<>();
        look(joke, seen);
        for (int i = 0; i < 2; i++) {
            seen.add((long) joke.from(i));
            look(joke, seen);
        }
        seen.add((long) joke.read());
        look(joke, seen);
        return seen;
    }

    private static void dueRefused(boolean isFull, Refused refused) {
        EntailedJoke joke = rich(isFull);
        checks.due(refused.name, refused.call.on(joke), refused.answer);
        checks.dueStatus(joke, refused.why == BAD ? 1 : 0, refused.why == NO ? 1 : 0, refused.why == FULL ? 1 : 0);
        checks.holds("nothing else is changed by " + refused.name, all(joke).equals(all(rich(isFull))));
    }

    // ---- the face

    private static void constants() {
        sentence.of("The public face", "public static final int NONE = -1, BAD = -2, NO = -3, FULL = -4;");
        checks.due("NONE", EntailedJoke.NONE, -1);
        checks.due("BAD", EntailedJoke.BAD, -2);
        checks.due("NO", EntailedJoke.NO, -3);
        checks.due("FULL", EntailedJoke.FULL, -4);
    }

    // ---- Terms 2

    private static void undoEight() {
        sentence.of("Terms", "UNDO: TALES, PARENTS as ahead of the last TELLING, TALE told (8 at most).");
        for (int told = 0; told <= 20; told++) {
            EntailedJoke joke = new EntailedJoke();
            for (int i = 0; i < told; i++) {
                Checks.tell(joke, 3, i % 10, i / 10);
            }
            int many = Math.min(told, 8);
            checks.due("count(4) of " + told, joke.count(4), many);
            for (int i = told - 2; i >= told - 1 - many; i--) {
                checks.due("undo()", joke.undo(), i < 0 ? 0 : 1);
                checks.due("at(3, 0)", joke.at(3, 0), i < 0 ? -5 : i % 10);
                checks.due("at(3, 1)", joke.at(3, 1), i < 0 ? -5 : i / 10);
                checks.due("count(4)", joke.count(4), many - told + 1 + i);
            }
            checks.due("undo() of no more", joke.undo(), NO);
        }
    }

    private static void undoTalesAndParents() {
        sentence.of("Terms", "UNDO: TALES, PARENTS as ahead of the last TELLING,");
        int[][] hands = {{0, 1, 0}, {0, 7, 1}, {0, 7, 2}, {0, 3, 3}, {3, 7, 4}, {0, 1, 5}, {1, 7, 0}, {1, 3, 1},
            {3, 4, 2}, {4, 5, 3}, {5, 7, 5}, {4, 7, 0}, {1, 7, 4}};
        for (int many = 1; many <= hands.length; many++) {
            EntailedJoke joke = Checks.with(0, 1, 2, 3);
            List<Long> digests = new ArrayList<>();
            for (int[] hand : List.of(hands).subList(0, many)) {
                digests.add(withoutUndo(joke));
                joke.hand(hand[0], hand[1], hand[2], 0, 4);
            }
            for (int i = many - 1; i >= Math.max(0, many - 8); i--) {
                joke.undo();
                checks.due("what is there behind undo() of telling " + i, withoutUndo(joke), digests.get(i));
            }
            checks.due("the last undo()", joke.undo(), many <= 7 ? 0 : NO);
        }
    }

    /** The digest less what it has of how many may be undone. */
    private static long withoutUndo(EntailedJoke joke) {
        long h = 1;
        // count(4) is the fifth number, and so many come behind it
        int behind = 1 + 8 + joke.count(1) + 8 + joke.count(2) + 2 * joke.count(3) + 2;
        for (int i = 0; i < behind; i++) {
            h *= 31;
        }
        return joke.digest() - h * joke.count(4);
    }

    private static void undoOfTaleTold() {
        sentence.of("Terms", "TALE told (8 at most).");
        EntailedJoke joke = Checks.with(0, 1);
        joke.hand(0, 1, 0, 0, 0);
        joke.say(5);
        joke.heard(1, 0);
        joke.tale(1);
        checks.due("parent(1)", joke.parent(1), NONE);
        checks.due("undo()", joke.undo(), 2);
        checks.dueTale(joke, 1, 1);
        checks.due("parent(1)", joke.parent(1), 0);
        checks.due("count(2)", joke.count(2), 1);
        checks.due("count(3)", joke.count(3), 1);
        joke.say(-1);
        joke.hand(1, 1, 0, 0, 0);
        joke.hand(5, 6, 0, 0, 0);
        checks.due("count(4), refused ones are none", joke.count(4), 2);
    }

    private static void imagesTwo() {
        sentence.of("Terms", "IMAGES 0, 1 keep all but them, THE TEXT, THE FRACTION and STATUS;");
        EntailedJoke joke = Checks.with(0, 1);
        checks.due("image(-1)", joke.image(-1), BAD);
        checks.due("image(0)", joke.image(0), 1);
        Checks.tell(joke, 0, 2, 2);
        checks.due("image(1)", joke.image(1), 1);
        checks.due("image(2)", joke.image(2), BAD);
        Checks.tell(joke, 0, 3, 3, 3);
        joke.from(0);
        checks.dueTale(joke, 0, 1);
        joke.from(1);
        checks.dueTale(joke, 0, 2, 2);
        joke.image(0);
        joke.house();
        joke.from(0);
        checks.dueTale(joke, 0, 2, 2);
        checks.due("from(1)", joke.from(1), 1);
    }

    private static void imagesKeepAllBut() {
        sentence.of("Terms", "keep all but them, THE TEXT, THE FRACTION and STATUS;");
        EntailedJoke joke = Checks.with(0, 1, 2);
        joke.hand(0, 7, 1, 0, 0);
        Checks.say(joke, 0, 1, 2, 3, 4, 5, 6, 7, 8, 9);
        for (int i = 0; i < 6; i++) {
            joke.heard(9 - i, i % 2);
        }
        long digest = joke.digest();
        joke.image(0);
        joke.image(1);
        Checks.type(joke, "house;");
        joke.odds(0, 1, 1, 10);
        joke.say(-1);
        joke.undo();
        joke.hush();
        joke.forget();
        for (int i = 0; i < 6; i++) {
            joke.heard(i, (i + 1) % 2);
        }
        checks.due("from(0)", joke.from(0), 1);
        checks.due("count(5)", joke.count(5), 6);
        checks.due("part(1)", joke.part(1), 2);
        checks.dueStatus(joke, 1, 0, 0);
        joke.clear();
        joke.odds(6, 1, 0, 0);
        checks.due("digest() behind from(0)", joke.digest(), digest);
        joke.house();
        checks.due("from(1)", joke.from(1), 1);
        checks.due("digest() behind from(1)", joke.digest(), digest);
        checks.due("from(0), kept on", joke.from(0), 1);
    }

    private static EntailedJoke told(int many) {
        EntailedJoke joke = new EntailedJoke();
        joke.say(4);
        for (int i = 0; i < many; i++) {
            int had = i < 2 ? joke.tale(i) : joke.hand(i % 2, 2 + i % 5, i % 3 == 0 ? 2 : 5, 0, i % 10);
            checks.holds("telling " + i, had > 0);
        }
        return joke;
    }

    private static void imagesKeepWhatMayBeUndone() {
        sentence.of("Terms", "what may be undone they keep; it goes on from one.");
        for (int many = 0; many <= 12; many++) {
            List<Long> due = new ArrayList<>();
            look(told(many), due);
            EntailedJoke joke = told(many);
            joke.image(0);
            joke.image(1);
            int undoable = Math.min(many, 8);
            dueUndone(joke, undoable);
            for (int i = 0; i < 9; i++) {
                Checks.tell(joke, i % 7, 9, 9);
                joke.hand(i % 7, 7, 0, 0, 0);
            }
            joke.from(0);
            checks.due("count(4)", joke.count(4), undoable);
            for (int i = 0; i < 2; i++) {
                checks.due("from(" + i + ")", joke.from(i), 1);
                List<Long> seen = new ArrayList<>();
                look(joke, seen);
                checks.holds("from(" + i + ") of " + many + " told: what may be undone", seen.equals(due));
            }
        }
    }

    private static void statusOfEach() {
        sentence.of("Terms", "STATUS: how many calls were refused as BAD, NO, FULL");
        EntailedJoke joke = new EntailedJoke();
        checks.dueStatus(joke, 0, 0, 0);
        joke.undo();
        checks.dueStatus(joke, 0, 1, 0);
        joke.say(10);
        joke.say(-1);
        checks.dueStatus(joke, 2, 1, 0);
        Checks.say(joke, 0, 1, 2, 3, 4, 5, 6, 7, 8, 9);
        checks.dueStatus(joke, 2, 1, 0);
        joke.say(0);
        joke.say(0);
        joke.say(0);
        checks.dueStatus(joke, 2, 1, 3);
    }

    private static void statusOfNoneElse() {
        sentence.of("Terms", "(each answer told so below is such a one).");
        EntailedJoke joke = new EntailedJoke();
        checks.due("at(0, 0)", joke.at(0, 0), -5);
        checks.due("funniest(0, 0)", joke.funniest(0, 0), -5);
        checks.due("read()", joke.read(), -10);
        checks.due("parent(0)", joke.parent(0), NONE);
        checks.due("pointless()", joke.pointless(), NONE);
        checks.due("first(0)", joke.first(0), NONE);
        checks.due("next()", joke.next(), NONE);
        checks.due("pawned(1, 1)", joke.pawned(1, 1), NONE);
        joke.say(7);
        joke.tale(0);
        checks.due("centuries(0, 0, 0)", joke.centuries(0, 0, 0), NONE);
        checks.due("fits(1, 1)", joke.fits(1, 1), NONE);
        checks.dueStatus(joke, 0, 0, 0);
        checks.due("at(-1, 0)", joke.at(-1, 0), -10);
        checks.due("fits(8, 0)", joke.fits(8, 0), -10);
        checks.due("fun(8)", joke.fun(8), -1000);
        checks.due("funniest(5, 0)", joke.funniest(5, 0), -1000);
        checks.dueStatus(joke, 4, 0, 0);
    }

    // ---- the row that begins 'THE FRACTION is 0 by 1 at first'

    private static void fractionAtFirst() {
        sentence.of("Terms", "THE FRACTION is 0 by 1 at first;");
        EntailedJoke joke = new EntailedJoke();
        checks.due("part(0)", joke.part(0), 0);
        checks.due("part(1)", joke.part(1), 1);
        Checks.tell(joke, 0, 4);
        joke.odds(0, 4, 0, 0);
        checks.due("part(0) behind odds", joke.part(0), 1);
        checks.due("part(1) behind odds", joke.part(1), 1);
    }

    private static void fractionLowest() {
        sentence.of("Terms", "lowest terms, below above 0.");
        EntailedJoke joke = Checks.with(0, 1, 2, 3, 4, 5, 6, 7, 8, 9, 0);
        int[][] due = {{1, 1}, {99, 100}, {49, 50}, {97, 100}, {24, 25}, {19, 20}, {47, 50}, {93, 100}, {23, 25},
            {91, 100}, {9, 10}};
        for (int c = 0; c <= 10; c++) {
            joke.odds(0, 1, 1, c);
            checks.due("part(0) of " + c, joke.part(0), due[c][0]);
            checks.due("part(1) of " + c, joke.part(1), due[c][1]);
        }
        joke.odds(1, 1, 4, 7);
        checks.due("part(0) of nothing", joke.part(0), 0);
        checks.due("part(1) of nothing", joke.part(1), 1);
        joke.odds(0, 1, 4, 10);
        checks.due("part(0)", joke.part(0), 3);
        checks.due("part(1)", joke.part(1), 5);
    }

    private static void add(List<Refused> all, String name, int most, long answer, CallWith call) {
        for (int wrong : new int[] {-1, most + 1, Integer.MIN_VALUE, Integer.MAX_VALUE}) {
            all.add(new Refused(name + " with " + wrong, j -> call.on(j, wrong), answer, BAD));
        }
    }

    private static List<Refused> wrongBranches() {
        List<Refused> all = new ArrayList<>();
        add(all, "tale", 7, BAD, (j, wrong) -> j.tale(wrong));
        add(all, "hand from", 7, BAD, (j, wrong) -> j.hand(wrong, 7, 0, 0, 0));
        add(all, "hand to", 7, BAD, (j, wrong) -> j.hand(1, wrong, 0, 0, 0));
        add(all, "at", 7, -10, (j, wrong) -> j.at(wrong, 0));
        add(all, "parent", 7, BAD, (j, wrong) -> j.parent(wrong));
        add(all, "apart, the first", 7, BAD, (j, wrong) -> j.apart(wrong, 1));
        add(all, "apart, the second", 7, BAD, (j, wrong) -> j.apart(1, wrong));
        add(all, "older, the first", 7, BAD, (j, wrong) -> j.older(wrong, 1));
        add(all, "older, the second", 7, BAD, (j, wrong) -> j.older(1, wrong));
        add(all, "fits", 7, -10, (j, wrong) -> j.fits(wrong, 0));
        add(all, "covers", 7, BAD, (j, wrong) -> j.covers(wrong));
        add(all, "fun", 7, -1000, (j, wrong) -> j.fun(wrong));
        add(all, "slip", 7, BAD, (j, wrong) -> j.slip(wrong));
        add(all, "odds", 7, BAD, (j, wrong) -> j.odds(wrong, 1, 1, 1));
        add(all, "centuries", 7, BAD, (j, wrong) -> j.centuries(wrong, 1, 1));
        for (int b = 0; b <= 5; b++) {
            int notGreater = b;
            all.add(new Refused("hand(5, " + b + ", ..)", j -> j.hand(5, notGreater, 0, 0, 0), BAD, BAD));
        }
        return all;
    }

    private static List<Refused> wrongNumbers() {
        List<Refused> all = new ArrayList<>();
        add(all, "say", 9, BAD, (j, wrong) -> j.say(wrong));
        add(all, "hand, the KIND", 5, BAD, (j, wrong) -> j.hand(1, 7, wrong, 0, 0));
        add(all, "hand, the place", 9, BAD, (j, wrong) -> j.hand(1, 7, 1, wrong, 0));
        add(all, "hand, the PART", 9, BAD, (j, wrong) -> j.hand(1, 7, 2, 0, wrong));
        add(all, "type", 127, BAD, (j, wrong) -> j.type(wrong));
        add(all, "first", 1, BAD, (j, wrong) -> j.first(wrong));
        add(all, "fits, what", 1, -10, (j, wrong) -> j.fits(1, wrong));
        add(all, "heard, the PART", 9, BAD, (j, wrong) -> j.heard(wrong, 1));
        add(all, "heard, was it", 1, BAD, (j, wrong) -> j.heard(1, wrong));
        add(all, "funniest", 4, -1000, (j, wrong) -> j.funniest(wrong, 0));
        add(all, "pawned, the PARTS", 1023, BAD, (j, wrong) -> j.pawned(wrong, 1));
        add(all, "pawned, what", 1, BAD, (j, wrong) -> j.pawned(1, wrong));
        add(all, "odds, the PART", 9, BAD, (j, wrong) -> j.odds(1, wrong, 1, 1));
        add(all, "odds, the times", 4, BAD, (j, wrong) -> j.odds(1, 1, wrong, 1));
        add(all, "odds, of 10", 10, BAD, (j, wrong) -> j.odds(1, 1, 1, wrong));
        add(all, "centuries, the SEED", 999999, BAD, (j, wrong) -> j.centuries(1, wrong, 1));
        add(all, "centuries, how many", 60, BAD, (j, wrong) -> j.centuries(1, 1, wrong));
        add(all, "part", 1, BAD, (j, wrong) -> j.part(wrong));
        add(all, "image", 1, BAD, (j, wrong) -> j.image(wrong));
        add(all, "from", 1, BAD, (j, wrong) -> j.from(wrong));
        add(all, "status", 2, -1, (j, wrong) -> j.status(wrong));
        add(all, "count", 5, BAD, (j, wrong) -> j.count(wrong));
        for (int below : new int[] {-2, Integer.MIN_VALUE}) {
            all.add(new Refused("at(1, " + below + ")", j -> j.at(1, below), -10, BAD));
            all.add(new Refused("funniest(1, " + below + ")", j -> j.funniest(1, below), -1000, BAD));
        }
        return all;
    }

    private static void refusedChangingNothing() {
        sentence.of("Terms", "Refused, changing nothing but STATUS, the first of:");
        List<Refused> bad = wrongBranches();
        bad.addAll(wrongNumbers());
        for (boolean isFull : new boolean[] {false, true}) {
            for (Refused refused : bad) {
                dueRefused(isFull, refused);
            }
            dueRefused(isFull, new Refused("hand of none", j -> j.hand(0, 1, 0, 0, 0), NO, NO));
            dueRefused(isFull, new Refused("hand of none left", j -> j.hand(6, 7, 5, 0, 0), NO, NO));
        }
        dueRefused(false, new Refused("from(1)", j -> j.from(1), NO, NO));
        dueRefused(true, new Refused("say(0)", j -> j.say(0), FULL, FULL));
        dueRefused(true, new Refused("heard(0, 0)", j -> j.heard(0, 0), FULL, FULL));
        dueRefused(true, new Refused("type(59)", j -> j.type(59), FULL, FULL));
        EntailedJoke joke = rich(false);
        checks.due("say(0), one less", joke.say(0), 10);
        checks.due("heard(0, 0), one less", joke.heard(0, 0), 6);
        checks.due("type(59), fewer", joke.type(59), 16);
        checks.dueStatus(joke, 0, 0, 0);
    }

    private static void refusedBadFirst() {
        sentence.of("Terms", "the first of: BAD -2 a number is not as told; NO -3 as told; FULL -4");
        dueRefused(true, new Refused("say(10), no room", j -> j.say(10), BAD, BAD));
        dueRefused(true, new Refused("heard(10, 0), no room", j -> j.heard(10, 0), BAD, BAD));
        dueRefused(true, new Refused("heard(0, 2), no room", j -> j.heard(0, 2), BAD, BAD));
        dueRefused(true, new Refused("type(128), no room", j -> j.type(128), BAD, BAD));
        dueRefused(true, new Refused("hand(0, 0, ..) of none", j -> j.hand(0, 0, 0, 0, 0), BAD, BAD));
        dueRefused(true, new Refused("hand(0, 8, ..) of none", j -> j.hand(0, 8, 0, 0, 0), BAD, BAD));
        dueRefused(true, new Refused("KIND 6 of none", j -> j.hand(0, 1, 6, 0, 0), BAD, BAD));
        dueRefused(true, new Refused("place 10 of none", j -> j.hand(0, 1, 0, 10, 0), BAD, BAD));
        dueRefused(true, new Refused("x 10 of none", j -> j.hand(0, 1, 0, 0, 10), BAD, BAD));
        dueRefused(true, new Refused("hand(0, 1, ..) of none", j -> j.hand(0, 1, 0, 0, 0), NO, NO));
        dueRefused(false, new Refused("from(2)", j -> j.from(2), BAD, BAD));
        dueRefused(false, new Refused("from(1)", j -> j.from(1), NO, NO));
        EntailedJoke joke = new EntailedJoke();
        joke.hand(3, 2, 9, 99, 99);
        checks.dueStatus(joke, 1, 0, 0);
    }

    private static void refusedToldOtherwise() {
        sentence.of("Terms", "FULL -4 (where others are told they count as these).");
        EntailedJoke joke = Checks.with(0, 1);
        checks.due("at(8, 0)", joke.at(8, 0), -10);
        checks.dueStatus(joke, 1, 0, 0);
        checks.due("fits(0, 2)", joke.fits(0, 2), -10);
        checks.dueStatus(joke, 2, 0, 0);
        checks.due("fun(8)", joke.fun(8), -1000);
        checks.dueStatus(joke, 3, 0, 0);
        checks.due("funniest(5, 0)", joke.funniest(5, 0), -1000);
        checks.dueStatus(joke, 4, 0, 0);
        checks.due("status(3)", joke.status(3), -1);
        checks.dueStatus(joke, 5, 0, 0);
        checks.due("at(0, 1)", joke.at(0, 1), -5);
        checks.due("at(0, 0)", joke.at(0, 0), 1);
        checks.due("fun(0)", joke.fun(0), 2);
        checks.dueStatus(joke, 5, 0, 0);
    }

    // ---- promises 29 to 34

    private static void part() {
        sentence.of("Promise 29", "THE FRACTION: above (0), below (1). BAD.");
        EntailedJoke joke = Checks.with(0, 1, 2, 3);
        joke.odds(0, 1, 1, 10);
        checks.dueRefused(joke, "part(-1)", j -> j.part(-1), BAD, BAD);
        checks.due("part(0)", joke.part(0), 2);
        checks.due("part(1)", joke.part(1), 3);
        checks.dueRefused(joke, "part(2)", j -> j.part(2), BAD, BAD);
    }

    private static void imageIsBad() {
        sentence.of("Promise 30", "An IMAGE is kept: 1. BAD.");
        EntailedJoke joke = Checks.with(0, 1);
        checks.dueRefused(joke, "image(-1)", j -> j.image(-1), BAD, BAD);
        checks.dueRefused(joke, "image(2)", j -> j.image(2), BAD, BAD);
        checks.due("from(0), none was kept", joke.from(0), NO);
        checks.due("from(1), none was kept", joke.from(1), NO);
        checks.due("image(0)", joke.image(0), 1);
        checks.due("image(0) again", joke.image(0), 1);
        checks.due("image(1)", joke.image(1), 1);
    }

    private static void fromIsBad() {
        sentence.of("Promise 31", "It goes on from an IMAGE: 1. BAD;");
        EntailedJoke joke = Checks.with(0, 1);
        joke.image(0);
        joke.image(1);
        checks.dueRefused(joke, "from(-1)", j -> j.from(-1), BAD, BAD);
        checks.due("from(0)", joke.from(0), 1);
        checks.due("from(1)", joke.from(1), 1);
        checks.dueRefused(joke, "from(2)", j -> j.from(2), BAD, BAD);
    }

    private static void fromIsNo() {
        sentence.of("Promise 31", "NO: none was kept.");
        for (int kept = 0; kept < 2; kept++) {
            int other = 1 - kept;
            EntailedJoke joke = Checks.with(0, 1);
            checks.due("from(" + kept + ")", joke.from(kept), NO);
            joke.image(kept);
            checks.dueRefused(joke, "from(" + other + ")", j -> j.from(other), NO, NO);
            checks.due("from(" + kept + ")", joke.from(kept), 1);
            joke.house();
            checks.due("from(" + kept + ") behind house()", joke.from(kept), 1);
            checks.due("from(" + other + ") behind from(" + kept + ")", joke.from(other), NO);
            checks.dueTale(joke, 0, 1);
        }
        EntailedJoke empty = new EntailedJoke();
        empty.image(0);
        checks.due("from(0) of an image of an empty one", empty.from(0), 1);
    }

    private static void statusOfAnother() {
        sentence.of("Promise 32", "STATUS: BAD (0), NO (1), FULL (2). -1: another what (counts as BAD).");
        EntailedJoke joke = new EntailedJoke();
        checks.due("status(-1)", joke.status(-1), -1);
        checks.due("status(0)", joke.status(0), 1);
        checks.due("status(2)", joke.status(2), 0);
        checks.due("status(3)", joke.status(3), -1);
        checks.due("status(0)", joke.status(0), 2);
        checks.due("status(1)", joke.status(1), 0);
    }

    private static void counts() {
        sentence.of("Promise 33", "How many: 0 TALES that are not empty, 1 PARTS of all, 2 PARTS of ROW, 3 HEARD,"
            + " 4 that may be undone, 5 bytes of THE TEXT.");
        int[] most = {8, 80, 10, 6, 8, 150};
        EntailedJoke joke = new EntailedJoke();
        for (int what = 0; what < 6; what++) {
            checks.due("count(" + what + ") at first", joke.count(what), 0);
        }
        for (int i = 0; i < 160; i++) {
            joke.say(i % 10);
            joke.heard(1, 1);
            joke.type(65);
        }
        for (int branch = 0; branch < 8; branch++) {
            checks.due("count(0)", joke.count(0), branch);
            checks.due("count(1)", joke.count(1), 10 * branch);
            checks.due("count(4)", joke.count(4), branch);
            joke.tale(branch);
        }
        joke.tale(7);
        for (int what = 0; what < 6; what++) {
            checks.due("count(" + what + ") at most", joke.count(what), most[what]);
        }
    }

    private static void countIsBad() {
        sentence.of("Promise 33", "5 bytes of THE TEXT. BAD.");
        EntailedJoke joke = new EntailedJoke();
        joke.type(0);
        checks.dueRefused(joke, "count(-1)", j -> j.count(-1), BAD, BAD);
        checks.due("count(0)", joke.count(0), 0);
        checks.due("count(5)", joke.count(5), 1);
        checks.dueRefused(joke, "count(6)", j -> j.count(6), BAD, BAD);
    }

    private static void digestOfNone() {
        sentence.of("Promise 34", "h = 1051; then h = 31 h + v for each v:");
        checks.due("digest() of a new object", new EntailedJoke().digest(), folded(0, 0, 0, 0, 0, 0,
            0, -1, 0, -1, 0, -1, 0, -1, 0, -1, 0, -1, 0, -1, 0, -1, 0, 1));
    }

    private static void digestOfAll() {
        sentence.of("Promise 34", "count(0) to count(5); of BRANCHES 0 to 7 how many PARTS, these,");
        EntailedJoke joke = new EntailedJoke();
        List<Long> due = new ArrayList<>(List.of(8L, 80L, 10L, 6L, 8L, 150L));
        for (int i = 0; i < 150; i++) {
            joke.type(i % 128);
        }
        for (int branch = 0; branch < 8; branch++) {
            joke.hush();
            due.add(10L);
            for (int i = 0; i < 10; i++) {
                joke.say((i + branch) % 10);
                due.add((i + branch) % 10L);
            }
            joke.tale(branch);
            due.add(-1L);
        }
        for (int i = 0; i < 10; i++) {
            due.add((i + 7) % 10L);
        }
        for (int i = 0; i < 6; i++) {
            joke.heard(9 - i, i % 2);
            due.add(9L - i);
            due.add(i % 2L);
        }
        joke.odds(7, 0, 4, 10);
        due.add(3L);
        due.add(5L);
        checks.due("digest() of a full one", joke.digest(), folded(due.stream().mapToLong(v -> v).toArray()));
    }

    private static void digestOfParents() {
        sentence.of("Promise 34", "the PARENT (NONE: -1);");
        EntailedJoke joke = Checks.with(0, 4);
        joke.hand(0, 1, 1, 0, 0);
        joke.hand(0, 7, 0, 0, 0);
        checks.due("digest()", joke.digest(), folded(2, 2, 0, 0, 3, 0,
            1, 4, -1, 0, 0, 0, -1, 0, -1, 0, -1, 0, -1, 0, -1, 1, 4, 0, 0, 1));
    }

    private static void farNumbers() {
        sentence.of("Terms", "BAD -2 a number is not as told;");
        EntailedJoke joke = rich(true);
        long digest = joke.digest();
        int refused = 0;
        for (int far : new int[] {16, 31, 32, 33, 64, 65, 256, 65536, -16, -32, -64, -256, 1 << 31, 1 << 30}) {
            checks.due("say", joke.say(far), BAD);
            checks.due("tale", joke.tale(far), BAD);
            checks.due("hand", joke.hand(far, 7, 0, 0, 0), BAD);
            checks.due("hand", joke.hand(1, far, 0, 0, 0), BAD);
            checks.due("hand", joke.hand(1, 7, far, 0, 0), BAD);
            checks.due("hand", joke.hand(1, 7, 0, far, 0), BAD);
            checks.due("hand", joke.hand(1, 7, 0, 0, far), BAD);
            checks.due("heard", joke.heard(far, 0), BAD);
            checks.due("image", joke.image(far), BAD);
            checks.due("from", joke.from(far), BAD);
            checks.due("count", joke.count(far), BAD);
            checks.due("at", joke.at(far, 0), -10);
            refused += 12;
        }
        checks.dueStatus(joke, refused, 0, 0);
        checks.due("digest()", joke.digest(), digest);
    }
}
