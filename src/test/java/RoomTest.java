import com.sun.management.ThreadMXBean;
import java.lang.management.ManagementFactory;

/** All calls of a run live in one room: no call may make objects. */
public final class RoomTest {
    private static final int OBJECTS = 200, OBJECT_BYTES = 8000;
    private static final ThreadMXBean room = (ThreadMXBean) ManagementFactory.getThreadMXBean();
    private static final Checks checks = new Checks();

    public static void main(String[] args) {
        EntailedJoke[] jokes = new EntailedJoke[OBJECTS];
        EntailedJoke first = new EntailedJoke();
        allCalls(first);
        room.getCurrentThreadAllocatedBytes();
        checks.about("rule 12");
        long ahead = room.getCurrentThreadAllocatedBytes();
        for (int i = 0; i < OBJECTS; i++) {
            jokes[i] = new EntailedJoke();
        }
        long behind = room.getCurrentThreadAllocatedBytes();
        checks.holds("an object of few bytes: " + (behind - ahead) / OBJECTS, behind - ahead < OBJECTS * OBJECT_BYTES);
        ahead = room.getCurrentThreadAllocatedBytes();
        for (EntailedJoke joke : jokes) {
            allCalls(joke);
        }
        behind = room.getCurrentThreadAllocatedBytes();
        // a few bytes may be the machine's own, but not one object for each of the calls
        checks.holds("calls that make nothing: " + (behind - ahead) + " bytes", behind - ahead < 16 * OBJECTS);
        checks.end();
    }

    private static void allCalls(EntailedJoke joke) {
        for (int x = 0; x < 12; x++) {
            joke.say(x);
            joke.tale(x % 4);
            joke.heard(x, 1);
            joke.type(x);
        }
        joke.read();
        joke.clear();
        String text = "house;tale 0 1 2 7 9;hand 0 1 5 1 1;tale 2 4 5 6 7 8;";
        for (int i = 0; i < text.length(); i++) {
            joke.type(text.charAt(i));
        }
        joke.read();
        for (int kind = 0; kind < 7; kind++) {
            joke.hand(0, kind + 1, kind, 2, 9);
        }
        joke.image(0);
        joke.undo();
        joke.from(0);
        joke.from(1);
        joke.image(1);
        joke.heard(7, 1);
        asked(joke);
        joke.forget();
        joke.hush();
        joke.house();
    }

    private static void asked(EntailedJoke joke) {
        for (int branch = -1; branch < 9; branch++) {
            joke.at(branch, 1);
            joke.parent(branch);
            joke.apart(branch, 7 - branch);
            joke.older(branch, 7 - branch);
            joke.fits(branch, 1);
            joke.covers(branch);
            joke.fun(branch);
            joke.slip(branch);
            joke.odds(branch, 1, 4, 3);
            joke.centuries(branch, 3, 60);
            joke.funniest(branch, 0);
            joke.first(branch);
            joke.part(branch);
            joke.status(branch);
            joke.count(branch);
        }
        joke.pointless();
        joke.door();
        joke.next();
        joke.pawned(512, 0);
        joke.pawned(1023, 1);
        joke.digest();
    }
}
