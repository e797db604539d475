import java.math.BigInteger;
import java.util.ArrayList;
import java.util.HashMap;
import java.util.HashSet;
import java.util.List;
import java.util.Map;
import java.util.TreeSet;

/** The document told once more, with lists and copies of everything, as slowly as it likes. */
final class Model {
    private static final Map<Integer, List<Integer>> FUNNIEST = new HashMap<>();

    /** What an image keeps. */
    private static final class Kept {
        List<List<Integer>> tales = new ArrayList<>();
        List<Integer> parents = new ArrayList<>();
        List<Integer> row = new ArrayList<>();
        List<int[]> heard = new ArrayList<>();
        List<Kept> undo = new ArrayList<>();

        Kept() {
            for (int i = 0; i < 8; i++) {
                tales.add(List.of());
                parents.add(-1);
            }
        }

        Kept copy() {
            Kept kept = new Kept();
            kept.tales = new ArrayList<>(tales);
            kept.parents = new ArrayList<>(parents);
            kept.row = new ArrayList<>(row);
            kept.heard = new ArrayList<>(heard);
            kept.undo = new ArrayList<>(undo);
            return kept;
        }
    }

    private record Token(int place, String text) {
    }

    private static final class Fault extends Exception {
        private static final long serialVersionUID = 1;
        final int place;

        Fault(int place) {
            this.place = place;
        }
    }

    private Kept now = new Kept();
    private final Kept[] images = new Kept[2];
    private final StringBuilder text = new StringBuilder();
    private BigInteger above = BigInteger.ZERO;
    private BigInteger below = BigInteger.ONE;
    private final int[] status = new int[3];

    private int bad() {
        status[0]++;
        return -2;
    }

    private int no() {
        status[1]++;
        return -3;
    }

    private int full() {
        status[2]++;
        return -4;
    }

    private static boolean in(int from, int number, int to) {
        return from <= number && number <= to;
    }

    private List<Integer> told(int branch) {
        return now.tales.get(branch);
    }

    // ---- a house

    int house() {
        int had = howMany(0);
        now = new Kept();
        return had;
    }

    int say(int x) {
        if (!in(0, x, 9)) {
            return bad();
        }
        if (now.row.size() == 10) {
            return full();
        }
        now.row.add(x);
        return now.row.size();
    }

    int hush() {
        int had = now.row.size();
        now.row.clear();
        return had;
    }

    private void remember() {
        Kept ahead = now.copy();
        ahead.undo.clear();
        now.undo.add(ahead);
        while (now.undo.size() > 8) {
            now.undo.remove(0);
        }
    }

    int tale(int branch) {
        if (!in(0, branch, 7)) {
            return bad();
        }
        remember();
        now.tales.set(branch, List.copyOf(now.row));
        now.parents.set(branch, -1);
        return now.row.size();
    }

    static List<Integer> slipped(List<Integer> told, int kind, int i, int x) {
        List<Integer> tale = new ArrayList<>(told);
        int n = tale.size();
        if ((kind == 1 || kind == 4) && i < n) {
            tale.remove(i);
        }
        if (kind == 4) {
            while (tale.size() > i) {
                tale.remove(tale.size() - 1);
            }
        }
        if ((kind == 2 || kind == 5) && i < n) {
            tale.set(i, x);
        }
        if (kind == 5 && !tale.contains(9) && tale.size() < 10) {
            tale.add(9);
        }
        if (kind == 3 && i + 1 < n) {
            tale.add(i, tale.remove(i + 1));
        }
        return tale;
    }

    int hand(int a, int b, int kind, int i, int x) {
        if (!in(0, a, 7) || !in(0, b, 7) || !in(0, kind, 5) || !in(0, i, 9) || !in(0, x, 9) || a >= b) {
            return bad();
        }
        if (told(a).isEmpty()) {
            return no();
        }
        remember();
        now.tales.set(b, slipped(told(a), kind, i, x));
        now.parents.set(b, a);
        return told(b).size();
    }

    int undo() {
        if (now.undo.isEmpty()) {
            return no();
        }
        Kept ahead = now.undo.remove(now.undo.size() - 1);
        now.tales = new ArrayList<>(ahead.tales);
        now.parents = new ArrayList<>(ahead.parents);
        return howMany(0);
    }

    int type(int c) {
        if (!in(0, c, 127)) {
            return bad();
        }
        if (text.length() == 150) {
            return full();
        }
        text.append((char) c);
        return text.length();
    }

    int clear() {
        int had = text.length();
        text.setLength(0);
        return had;
    }

    private List<Token> tokens() {
        List<Token> tokens = new ArrayList<>();
        String left = text.toString();
        for (int place = 0; place < left.length();) {
            int end = place + 1;
            for (String kind : new String[] {"[a-z]+", "[0-9]+"}) {
                while (end <= left.length() && left.substring(place, end).matches(kind)) {
                    end++;
                }
            }
            end = Math.max(place + 1, end - 1);
            String token = left.substring(place, end);
            if (!token.equals(" ")) {
                tokens.add(new Token(place, token));
            }
            place = end;
        }
        return tokens;
    }

    private Token taken(List<Token> tokens, String kind) throws Fault {
        if (tokens.isEmpty()) {
            throw new Fault(text.length());
        }
        Token token = tokens.remove(0);
        if (!token.text.matches(kind)) {
            throw new Fault(token.place);
        }
        return token;
    }

    private Token numberTaken(List<Token> tokens, int from, int to) throws Fault {
        Token token = taken(tokens, "[0-9][0-9]?");
        if (!in(from, Integer.parseInt(token.text), to)) {
            throw new Fault(token.place);
        }
        return token;
    }

    int read() {
        Kept house = new Kept();
        List<Token> tokens = tokens();
        int items = 1;
        try {
            taken(tokens, "house");
            taken(tokens, ";");
            while (!tokens.isEmpty()) {
                if (taken(tokens, "tale|hand").text.equals("tale")) {
                    readTale(house, tokens);
                } else {
                    readHand(house, tokens);
                }
                items++;
            }
        } catch (Fault fault) {
            return -10 - fault.place;
        }
        now = house;
        return items;
    }

    private void readTale(Kept house, List<Token> tokens) throws Fault {
        int k = Integer.parseInt(numberTaken(tokens, 0, 7).text);
        List<Integer> parts = new ArrayList<>();
        while (tokens.isEmpty() || !tokens.get(0).text.equals(";")) {
            Token part = numberTaken(tokens, 0, 9);
            if (parts.size() == 10) {
                throw new Fault(part.place);
            }
            parts.add(Integer.parseInt(part.text));
        }
        taken(tokens, ";");
        house.tales.set(k, parts);
        house.parents.set(k, -1);
    }

    private void readHand(Kept house, List<Token> tokens) throws Fault {
        Token teller = numberTaken(tokens, 0, 7);
        int a = Integer.parseInt(teller.text);
        if (house.tales.get(a).isEmpty()) {
            throw new Fault(teller.place);
        }
        int b = Integer.parseInt(numberTaken(tokens, a + 1, 7).text);
        int kind = Integer.parseInt(numberTaken(tokens, 0, 5).text);
        int i = Integer.parseInt(numberTaken(tokens, 0, 9).text);
        int x = Integer.parseInt(numberTaken(tokens, 0, 9).text);
        taken(tokens, ";");
        house.tales.set(b, slipped(house.tales.get(a), kind, i, x));
        house.parents.set(b, a);
    }

    int at(int branch, int i) {
        if (!in(0, branch, 7) || i < -1) {
            bad();
            return -10;
        }
        if (i == -1) {
            return told(branch).size();
        }
        return i < told(branch).size() ? told(branch).get(i) : -5;
    }

    int parent(int branch) {
        return in(0, branch, 7) ? now.parents.get(branch) : bad();
    }

    // ---- tales

    int pointless() {
        for (int branch = 0; branch < 8; branch++) {
            if (!told(branch).isEmpty() && !told(branch).contains(9)) {
                return branch;
            }
        }
        return -1;
    }

    private static int slipsBetween(List<Integer> a, List<Integer> b, Map<Integer, Integer> known) {
        int i = a.size();
        int j = b.size();
        if (i == 0 || j == 0) {
            return i + j;
        }
        int key = 11 * i + j;
        if (!known.containsKey(key)) {
            int least = slipsBetween(a.subList(0, i - 1), b, known) + 1;
            least = Math.min(least, slipsBetween(a, b.subList(0, j - 1), known) + 1);
            int like = a.get(i - 1).equals(b.get(j - 1)) ? 0 : 1;
            least = Math.min(least, slipsBetween(a.subList(0, i - 1), b.subList(0, j - 1), known) + like);
            if (i > 1 && j > 1 && a.subList(i - 2, i).equals(List.of(b.get(j - 1), b.get(j - 2)))) {
                least = Math.min(least, slipsBetween(a.subList(0, i - 2), b.subList(0, j - 2), known) + 1);
            }
            known.put(key, least);
        }
        return known.get(key);
    }

    int apart(int a, int b) {
        if (!in(0, a, 7) || !in(0, b, 7)) {
            return bad();
        }
        return slipsBetween(told(a), told(b), new HashMap<>());
    }

    int first(int what) {
        if (!in(0, what, 1)) {
            return bad();
        }
        int[] best = null;
        for (int branch : notEmpty()) {
            int sum = 0;
            for (int other : notEmpty()) {
                sum += apart(branch, other);
            }
            if (best == null || sum < best[1]) {
                best = new int[] {branch, sum};
            }
        }
        return best == null ? -1 : best[what];
    }

    private List<Integer> notEmpty() {
        List<Integer> branches = new ArrayList<>();
        for (int branch = 0; branch < 8; branch++) {
            if (!told(branch).isEmpty()) {
                branches.add(branch);
            }
        }
        return branches;
    }

    int older(int a, int b) {
        if (!in(0, a, 7) || !in(0, b, 7)) {
            return bad();
        }
        int one = 100 * new HashSet<>(told(a)).size() + told(a).size();
        int other = 100 * new HashSet<>(told(b)).size() + told(b).size();
        return one > other ? 0 : one < other ? 1 : 2;
    }

    private List<Integer> places(int branch) {
        List<Integer> places = new ArrayList<>();
        for (int place = 0; place + now.row.size() <= told(branch).size(); place++) {
            boolean stands = true;
            for (int i = 0; i < now.row.size(); i++) {
                stands &= now.row.get(i) == 8 || now.row.get(i).equals(told(branch).get(place + i));
            }
            if (stands) {
                places.add(place);
            }
        }
        return places;
    }

    int fits(int branch, int what) {
        if (!in(0, branch, 7) || !in(0, what, 1)) {
            bad();
            return -10;
        }
        List<Integer> places = places(branch);
        return what == 0 ? places.size() : places.isEmpty() ? -1 : places.get(0);
    }

    int covers(int branch) {
        if (!in(0, branch, 7)) {
            return bad();
        }
        if (now.row.isEmpty()) {
            return 0;
        }
        for (int part = 0; part < told(branch).size(); part++) {
            boolean lies = false;
            for (int place : places(branch)) {
                lies |= place <= part && part < place + now.row.size();
            }
            if (!lies) {
                return 0;
            }
        }
        return 1;
    }

    // ---- what was heard, fun

    int heard(int x, int is) {
        if (!in(0, x, 9) || !in(0, is, 1)) {
            return bad();
        }
        if (now.heard.size() == 6) {
            return full();
        }
        now.heard.add(new int[] {x, is});
        return now.heard.size();
    }

    int forget() {
        int had = now.heard.size();
        now.heard.clear();
        return had;
    }

    private List<Integer> letThrough() {
        List<Integer> branches = notEmpty();
        for (int[] heard : now.heard) {
            branches.removeIf(branch -> told(branch).contains(heard[0]) != (heard[1] == 1));
        }
        return branches;
    }

    private static int bits(Iterable<Integer> branches) {
        int bits = 0;
        for (int branch : branches) {
            bits |= 1 << branch;
        }
        return bits;
    }

    int door() {
        return bits(letThrough());
    }

    int next() {
        List<Integer> these = letThrough();
        int best = -1;
        int least = 9;
        for (int x = 0; x < 10; x++) {
            int with = 0;
            int without = 0;
            for (int branch : these) {
                if (told(branch).contains(x)) {
                    with++;
                } else {
                    without++;
                }
            }
            if (Math.max(with, without) < least) {
                least = Math.max(with, without);
                best = x;
            }
        }
        return these.isEmpty() ? -1 : best;
    }

    static int funOf(List<Integer> tale) {
        int fun = 0;
        for (int i = 0; i < tale.size(); i++) {
            if (i == 0 || !tale.get(i).equals(tale.get(i - 1))) {
                fun += 2;
            }
            if (i > 0 && tale.get(i - 1) == 7 && tale.get(i) == 9) {
                fun += 5;
            }
            int ahead = 0;
            for (int other : tale.subList(0, i)) {
                ahead += other == tale.get(i) ? 1 : 0;
            }
            if (ahead >= 2) {
                fun -= 4;
            }
        }
        boolean ends = !tale.isEmpty() && tale.get(tale.size() - 1) == 9;
        return ends ? fun + 3 : fun;
    }

    int fun(int branch) {
        if (!in(0, branch, 7)) {
            bad();
            return -1000;
        }
        return funOf(told(branch));
    }

    int funniest(int m, int i) {
        if (!in(0, m, 4) || i < -1) {
            bad();
            return -1000;
        }
        List<Integer> best = FUNNIEST.computeIfAbsent(m, Model::funniestOf);
        return i >= m ? -5 : i == -1 ? funOf(best) : best.get(i);
    }

    private static List<Integer> funniestOf(int m) {
        List<Integer> best = null;
        for (int code = 0; code < Math.round(Math.pow(10, m)); code++) {
            List<Integer> row = new ArrayList<>();
            for (int place = 0, left = code; place < m; place++, left /= 10) {
                row.add(0, left % 10);
            }
            if (best == null || funOf(row) > funOf(best)) {
                best = row;
            }
        }
        return best;
    }

    int slip(int branch) {
        if (!in(0, branch, 7)) {
            return bad();
        }
        int best = 0;
        for (int slip = 0; slip < 600; slip++) {
            if (funAfter(branch, slip) > funAfter(branch, best)) {
                best = slip;
            }
        }
        return best;
    }

    private int funAfter(int branch, int slip) {
        return funOf(slipped(told(branch), slip / 100, slip / 10 % 10, slip % 10));
    }

    int pawned(int set, int what) {
        if (!in(0, set, 1023) || !in(0, what, 1)) {
            return bad();
        }
        TreeSet<Integer> wanted = new TreeSet<>();
        for (int part = 0; part < 10; part++) {
            if ((set & 1 << part) != 0) {
                wanted.add(part);
            }
        }
        if (what == 0) {
            List<Integer> branches = notEmpty();
            branches.removeIf(branch -> told(branch).stream().anyMatch(wanted::contains));
            return bits(branches);
        }
        for (int many = 0; many <= 8; many++) {
            for (int chosen = 0; chosen < 256; chosen++) {
                List<Integer> parts = new ArrayList<>();
                for (int branch = 0; branch < 8; branch++) {
                    if ((chosen & 1 << branch) != 0) {
                        parts.addAll(told(branch));
                    }
                }
                if (Integer.bitCount(chosen) == many && parts.containsAll(wanted)) {
                    return chosen;
                }
            }
        }
        return -1;
    }

    /** By all that may come of each handing, one after another. */
    private static BigInteger[] chance(List<Integer> tale, int x, int n, int c) {
        if (n == 0) {
            return new BigInteger[] {tale.contains(x) ? BigInteger.ONE : BigInteger.ZERO, BigInteger.ONE};
        }
        BigInteger[] kept = times(chance(tale, x, n - 1, c), 10 - c, 10);
        if (tale.isEmpty()) {
            return plus(kept, times(chance(tale, x, n - 1, c), c, 10));
        }
        BigInteger[] sum = kept;
        for (int place = 0; place < tale.size(); place++) {
            List<Integer> left = slipped(tale, 1, place, 0);
            sum = plus(sum, times(chance(left, x, n - 1, c), c, 10 * tale.size()));
        }
        return sum;
    }

    private static BigInteger[] times(BigInteger[] chance, int over, int under) {
        return lowest(chance[0].multiply(BigInteger.valueOf(over)), chance[1].multiply(BigInteger.valueOf(under)));
    }

    private static BigInteger[] plus(BigInteger[] one, BigInteger[] other) {
        return lowest(one[0].multiply(other[1]).add(other[0].multiply(one[1])), one[1].multiply(other[1]));
    }

    private static BigInteger[] lowest(BigInteger over, BigInteger under) {
        BigInteger divisor = over.gcd(under);
        return new BigInteger[] {over.divide(divisor), under.divide(divisor)};
    }

    int odds(int branch, int x, int n, int c) {
        if (!in(0, branch, 7) || !in(0, x, 9) || !in(0, n, 4) || !in(0, c, 10)) {
            return bad();
        }
        BigInteger[] chance = chance(told(branch), x, n, c);
        above = chance[0];
        below = chance[1];
        return 1;
    }

    int centuries(int branch, int seed, int n) {
        if (!in(0, branch, 7) || !in(0, seed, 999999) || !in(0, n, 60)) {
            return bad();
        }
        List<Integer> tale = told(branch);
        BigInteger x = BigInteger.valueOf(seed);
        int told = 0;
        while (tale.contains(7) && told < n) {
            int[] slip = new int[3];
            for (int i = 0; i < 3; i++) {
                x = x.multiply(BigInteger.valueOf(1103515245)).add(BigInteger.valueOf(12345))
                    .mod(BigInteger.valueOf(2147483648L));
                slip[i] = x.intValueExact() / 65536 % (i == 0 ? 6 : 10);
            }
            tale = slipped(tale, slip[0], slip[1], slip[2]);
            told++;
        }
        return tale.contains(7) ? -1 : told;
    }

    // ---- what there is

    long part(int what) {
        return what == 0 ? above.longValueExact() : what == 1 ? below.longValueExact() : bad();
    }

    int image(int i) {
        if (!in(0, i, 1)) {
            return bad();
        }
        images[i] = now.copy();
        return 1;
    }

    int from(int i) {
        if (!in(0, i, 1)) {
            return bad();
        }
        if (images[i] == null) {
            return no();
        }
        now = images[i].copy();
        return 1;
    }

    int status(int what) {
        if (!in(0, what, 2)) {
            bad();
            return -1;
        }
        return status[what];
    }

    private int howMany(int what) {
        int parts = 0;
        for (List<Integer> tale : now.tales) {
            parts += tale.size();
        }
        return List.of(notEmpty().size(), parts, now.row.size(), now.heard.size(), now.undo.size(), text.length())
            .get(what);
    }

    int count(int what) {
        return in(0, what, 5) ? howMany(what) : bad();
    }

    long digest() {
        List<Long> all = new ArrayList<>();
        for (int what = 0; what < 6; what++) {
            all.add((long) howMany(what));
        }
        for (int branch = 0; branch < 8; branch++) {
            all.add((long) told(branch).size());
            told(branch).forEach(part -> all.add((long) part));
            all.add((long) now.parents.get(branch));
        }
        now.row.forEach(part -> all.add((long) part));
        for (int[] heard : now.heard) {
            all.add((long) heard[0]);
            all.add((long) heard[1]);
        }
        all.add(above.longValueExact());
        all.add(below.longValueExact());
        long h = 1051;
        for (long v : all) {
            h = 31 * h + v;
        }
        return h;
    }
}
