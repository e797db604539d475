import java.util.Arrays;

/** Counts and prints the answers that are not as due; the tests share it. */
final class Checks {
    private int wrong = 0;
    private String about = "";

    void about(String what) {
        about = what;
    }

    void due(String call, long got, long want) {
        if (got != want) {
            wrong++;
            System.out.println(about + ": " + call + " answered " + got + ", due is " + want);
        }
    }

    void holds(String what, boolean is) {
        if (!is) {
            wrong++;
            System.out.println(about + ": " + what + " does not hold");
        }
    }

    int wrong() {
        return wrong;
    }

    void end() {
        if (wrong != 0) {
            System.out.println(wrong + " answers are not as due");
            System.exit(1);
        }
    }

    /** The parts 0, 1, 2 ..: n of them, all unlike. */
    static int[] rising(int n) {
        int[] parts = new int[n];
        for (int i = 0; i < n; i++) {
            parts[i] = i;
        }
        return parts;
    }

    static int[] like(int x, int n) {
        int[] parts = new int[n];
        Arrays.fill(parts, x);
        return parts;
    }

    static EntailedJoke with(int branch, int... parts) {
        EntailedJoke joke = new EntailedJoke();
        tell(joke, branch, parts);
        return joke;
    }

    /** Leaves the row empty. */
    static void tell(EntailedJoke joke, int branch, int... parts) {
        say(joke, parts);
        joke.tale(branch);
        joke.hush();
    }

    static void say(EntailedJoke joke, int... parts) {
        joke.hush();
        for (int part : parts) {
            joke.say(part);
        }
    }

    static void type(EntailedJoke joke, String text) {
        joke.clear();
        for (int i = 0; i < text.length(); i++) {
            joke.type(text.charAt(i));
        }
    }

    static int read(EntailedJoke joke, String text) {
        type(joke, text);
        return joke.read();
    }

    void dueTale(EntailedJoke joke, int branch, int... parts) {
        due("at(" + branch + ", NONE)", joke.at(branch, EntailedJoke.NONE), parts.length);
        for (int i = 0; i < parts.length; i++) {
            due("at(" + branch + ", " + i + ")", joke.at(branch, i), parts[i]);
        }
        due("at(" + branch + ", " + parts.length + ")", joke.at(branch, parts.length), -5);
    }

    /** Takes image 0 for it. */
    void dueRow(EntailedJoke joke, int... parts) {
        due("parts of ROW", joke.count(2), parts.length);
        joke.image(0);
        joke.tale(0);
        dueTale(joke, 0, parts);
        joke.from(0);
    }

    void dueStatus(EntailedJoke joke, int bad, int no, int full) {
        due("status(0)", joke.status(0), bad);
        due("status(1)", joke.status(1), no);
        due("status(2)", joke.status(2), full);
    }

    /** For wrong input: the answer, the count of refusals, and that nothing else has changed. */
    interface Call {
        long on(EntailedJoke joke);
    }

    void dueRefused(EntailedJoke joke, String call, Call refused, long answer, int why) {
        long digest = joke.digest();
        int[] had = {joke.status(0), joke.status(1), joke.status(2)};
        due(call, refused.on(joke), answer);
        had[EntailedJoke.BAD - why]++;
        dueStatus(joke, had[0], had[1], had[2]);
        due("digest() after " + call, joke.digest(), digest);
    }
}
