import java.lang.reflect.Method;
import java.util.Arrays;
import java.util.HashMap;
import java.util.List;
import java.util.Map;

/** Long runs of calls, each answered by the class and by the model. */
public final class ModelTest {
    private static final int RUNS = 1500, CALLS = 500, CALLS_TOO_MANY = 20000;
    private static final String[] CALL_NAMES = {"house", "say", "hush", "tale", "hand", "undo", "type", "clear", "read",
        "at", "parent", "pointless", "apart", "first", "older", "fits", "covers", "heard", "forget", "door", "next",
        "fun", "funniest", "slip", "pawned", "odds", "centuries", "part", "image", "from", "status", "count", "digest"};
    private static final String OFTEN = "say say say say say tale tale hand hand hand hand heard undo hush fits fits "
        + "covers covers apart older fun slip pawned pawned centuries at at parent read read";
    private static final Map<String, Method> JOKE_CALLS = callsOf(EntailedJoke.class);
    private static final Map<String, Method> MODEL_CALLS = callsOf(Model.class);
    private static final Checks checks = new Checks();

    private long state;
    private EntailedJoke joke;
    private Model model;
    private final StringBuilder calls = new StringBuilder();

    public static void main(String[] args) {
        for (int run = 0; run < RUNS && checks.wrong() == 0; run++) {
            checks.about("run " + run);
            new ModelTest().run(run, CALLS);
        }
        // what is answered behind the 512th call is free, but it must be answered; it may as well be right
        checks.about("the long run");
        new ModelTest().run(RUNS, CALLS_TOO_MANY);
        checks.end();
    }

    /** SplitMix64, so that each run is the same everywhere. */
    private int below(int bound) {
        state += 0x9E3779B97F4A7C15L;
        long z = (state ^ state >>> 30) * 0xBF58476D1CE4E5B9L;
        z = (z ^ z >>> 27) * 0x94D049BB133111EBL;
        return (int) Long.remainderUnsigned(z ^ z >>> 31, bound);
    }

    private void run(int seed, int howMany) {
        state = seed;
        joke = new EntailedJoke();
        model = new Model();
        boolean isTyped = seed % 3 == 0;
        String[] often = OFTEN.split(" ");
        for (int call = 0; call < howMany && checks.wrong() == 0;) {
            if (isTyped && below(8) == 0) {
                call += typed();
            } else {
                call++;
                int which = below(often.length + CALL_NAMES.length);
                call(which < often.length ? often[which] : CALL_NAMES[which - often.length]);
            }
            if (below(4) == 0) {
                call++;
                call("digest");
            }
        }
        if (checks.wrong() != 0) {
            System.out.println("the calls: " + calls);
        }
    }

    /** Mostly from 0 to most, now and then just beside that, seldom far from it. */
    private int number(int most) {
        int choice = below(60);
        if (choice == 0) {
            return below(2) == 0 ? -1 : most + 1;
        }
        if (choice == 1 && below(4) == 0) {
            return below(2) == 0 ? Integer.MIN_VALUE : Integer.MAX_VALUE;
        }
        return below(most + 1);
    }

    /** Few kinds of parts, so that rows fit and tales are like. */
    private int somePart() {
        return below(3) == 0 ? number(9) : new int[] {1, 1, 7, 9, 8}[below(5)];
    }

    private void call(String name) {
        int branch = number(7);
        int what = number(1);
        int part = somePart();
        switch (name) {
            case "house" -> due(below(8) == 0 ? name : "door");
            case "say" -> due(name, part);
            case "tale", "parent", "covers", "fun", "slip" -> due(name, branch);
            case "hand" -> due(name, below(2) == 0 ? below(4) : branch, below(2) == 0 ? 4 + below(4) : number(7),
                number(5), number(9), part);
            case "type" -> due(name, number(127));
            case "at" -> due(name, branch, number(11) - 1);
            case "apart", "older" -> due(name, branch, number(7));
            case "fits" -> due(name, branch, what);
            case "heard" -> due(name, part, what);
            case "first", "part", "image", "from" -> due(name, what);
            case "funniest" -> due(name, number(4), number(5) - 1);
            case "pawned" -> due(name, below(2) == 0 ? number(1023) : 1 << below(10) | 1 << below(10), what);
            case "odds" -> due(name, branch, part, below(4) == 0 ? number(4) : number(3), number(10));
            case "centuries" -> due(name, branch, number(999999), number(60));
            case "status" -> due(name, number(2));
            case "count" -> due(name, number(5));
            default -> due(name);
        }
    }

    private int typed() {
        String text = someText();
        due("clear");
        for (int i = 0; i < text.length(); i++) {
            due("type", text.charAt(i));
        }
        due("read");
        return text.length() + 2;
    }

    private String someText() {
        StringBuilder text = new StringBuilder("house;");
        int items = below(6);
        for (int i = 0; i < items; i++) {
            text.append(below(3) == 0 ? someHand() : someTale());
        }
        if (below(3) == 0) {
            spoil(text);
        }
        if (below(6) == 0) {
            text.setLength(below(text.length() + 1));
        }
        return text.toString();
    }

    private void spoil(StringBuilder text) {
        int times = 1 + below(2);
        for (int time = 0; time < times && text.length() > 0; time++) {
            int place = below(text.length());
            char c = " ;0129azhouse-A~".charAt(below(16));
            switch (below(3)) {
                case 0 -> text.setCharAt(place, c);
                case 1 -> text.insert(place, c);
                default -> text.deleteCharAt(place);
            }
        }
    }

    private String someTale() {
        StringBuilder tale = new StringBuilder("tale " + number(7));
        int parts = below(10) == 0 ? 9 + below(3) : below(6);
        for (int i = 0; i < parts; i++) {
            tale.append(below(8) == 0 ? " 0" : " ").append(number(9));
        }
        return tale + (below(3) == 0 ? " ; " : ";");
    }

    private String someHand() {
        String ending = " " + number(5) + " " + number(9) + "  " + number(9);
        return "hand " + below(7) + " " + number(7) + ending + ";";
    }

    private void due(String name, int... arguments) {
        String call = name + Arrays.toString(arguments);
        calls.append(' ').append(call);
        checks.due(call, answer(JOKE_CALLS, joke, name, arguments), answer(MODEL_CALLS, model, name, arguments));
    }

    private static Map<String, Method> callsOf(Class<?> type) {
        Map<String, Method> calls = new HashMap<>();
        for (Method method : type.getDeclaredMethods()) {
            if (List.of(CALL_NAMES).contains(method.getName())) {
                calls.put(method.getName(), method);
            }
        }
        return calls;
    }

    private static long answer(Map<String, Method> calls, Object object, String name, int[] arguments) {
        try {
            return ((Number) calls.get(name).invoke(object, Arrays.stream(arguments).boxed().toArray())).longValue();
        } catch (ReflectiveOperationException thrown) {
            throw new IllegalStateException(name + Arrays.toString(arguments), thrown);
        }
    }
}
