import java.math.BigInteger;
import java.util.ArrayList;
import java.util.HashMap;
import java.util.List;
import java.util.Map;
import java.util.NoSuchElementException;

/**
 * The document once more, written for plainness and not for speed, with trees, lists and copies of everything:
 * OracleTest lets it answer the same calls as RopeWalk.
 */
final class Oracle {
    static final class Fault extends RuntimeException {
        private static final long serialVersionUID = 1L;
        final int kind;
        final int place;

        Fault(int kind, int place) {
            super(null, null, false, false);
            this.kind = kind;
            this.place = place;
        }
    }

    static final class Err extends RuntimeException {
        private static final long serialVersionUID = 1L;

        Err() {
            super(null, null, false, false);
        }
    }

    static final class Token {
        final String text;
        final int place;

        Token(String text, int place) {
            this.text = text;
            this.place = place;
        }

        boolean isWord() {
            return !text.isEmpty() && text.charAt(0) >= 'a' && text.charAt(0) <= 'z';
        }

        boolean isNumber() {
            return !text.isEmpty() && text.charAt(0) >= '0' && text.charAt(0) <= '9';
        }
    }

    static final class Node {
        final String sign;
        final Node left;
        final Node right;

        Node(String sign, Node left, Node right) {
            this.sign = sign;
            this.left = left;
            this.right = right;
        }
    }

    static final class Rope implements Cloneable {
        String name;
        int maker;
        int yards;
        int day;
        int is = 0;
        int sound = 0;
        int ship = -1;

        Rope copy() {
            try {
                return (Rope) clone();
            } catch (CloneNotSupportedException e) {
                throw new IllegalStateException(e);
            }
        }
    }

    static final class Ship implements Cloneable {
        String name;
        int load;
        int is = 0;
        int left = 0;
        int homes = 0;

        Ship copy() {
            try {
                return (Ship) clone();
            } catch (CloneNotSupportedException e) {
                throw new IllegalStateException(e);
            }
        }
    }

    /** All that the text tells and the days change; copied whole wherever something is tried. */
    static final class World {
        List<String> makers = new ArrayList<>();
        List<int[]> makerIs = new ArrayList<>();
        List<Rope> ropes = new ArrayList<>();
        List<Ship> ships = new ArrayList<>();
        List<int[]> sails = new ArrayList<>();
        Map<String, Node> laws = new HashMap<>();
        int lines = 0;
        int knots = 0;
        int storm = 0;
        long last = 0;
        int day = 0;
        int refused = 0;
        // How a trial is otherwise.
        Boolean storms = null;
        boolean byNumbers = false;
        boolean wears = true;

        World copy() {
            World w = new World();
            w.makers = makers;
            for (int[] m : makerIs) {
                w.makerIs.add(m.clone());
            }
            for (Rope r : ropes) {
                w.ropes.add(r.copy());
            }
            for (Ship s : ships) {
                w.ships.add(s.copy());
            }
            w.sails.addAll(sails);
            w.laws = laws;
            w.lines = lines;
            w.knots = knots;
            w.storm = storm;
            w.last = last;
            w.day = day;
            w.refused = refused;
            return w;
        }

        boolean asItGoes() {
            return storms != null ? storms : storm >= 50;
        }

        int bear(int ship) {
            return ropes.stream().filter(r -> r.ship == ship && r.is == 1).mapToInt(r -> r.sound).sum();
        }

        int mood(int ship) {
            int best = 0;
            int bestYards = 0;
            for (int thought = 0; thought <= 9; thought++) {
                int t = thought;
                int yards = ropes.stream().filter(r -> r.ship == ship && r.is == 1 && makerIs.get(r.maker)[0] == t)
                        .mapToInt(r -> r.yards).sum();
                if (yards > bestYards) {
                    best = thought;
                    bestYards = yards;
                }
            }
            return best;
        }

        Long value(String law, Rope r, Integer ship, boolean stormy) {
            Node node = laws.get(law);
            if (node == null) {
                return null;
            }
            Map<String, Long> names = new HashMap<>();
            names.put("day", (long) day);
            names.put("stormy", stormy ? 1L : 0L);
            if (r != null) {
                names.put("yards", (long) r.yards);
                names.put("even", (long) makerIs.get(r.maker)[1]);
                names.put("think", (long) makerIs.get(r.maker)[0]);
                names.put("sound", law.equals("twist") ? 0L : r.sound);
                names.put("bear", r.ship < 0 ? 0L : bear(r.ship));
            } else {
                names.put("yards", 0L);
                names.put("even", 0L);
                names.put("think", (long) mood(ship));
                names.put("sound", (long) ships.get(ship).load);
                names.put("bear", (long) bear(ship));
            }
            try {
                return work(node, names).longValueExact();
            } catch (Err e) {
                return null;
            }
        }

        static BigInteger work(Node n, Map<String, Long> names) {
            BigInteger v;
            if (n.left == null && n.right == null) {
                v = BigInteger.valueOf(names.containsKey(n.sign) ? names.get(n.sign) : Long.parseLong(n.sign));
            } else if (n.left == null) {
                v = bit(work(n.right, names).signum() == 0);
            } else {
                BigInteger a = work(n.left, names);
                BigInteger b = work(n.right, names);
                v = join(n.sign, a, b);
            }
            if (v.abs().compareTo(BigInteger.TEN.pow(12)) > 0) {
                throw new Err();
            }
            return v;
        }

        static BigInteger join(String sign, BigInteger a, BigInteger b) {
            int c = a.compareTo(b);
            switch (sign) {
                case "+": return a.add(b);
                case "-": return a.subtract(b);
                case "*": return a.multiply(b);
                case "/":
                    if (b.signum() == 0) {
                        throw new Err();
                    }
                    return a.divide(b);
                case "or": return bit(a.signum() != 0 || b.signum() != 0);
                case "and": return bit(a.signum() != 0 && b.signum() != 0);
                case "<": return bit(c < 0);
                case "<=": return bit(c <= 0);
                case "=": return bit(c == 0);
                case "<>": return bit(c != 0);
                case ">=": return bit(c >= 0);
                case ">": return bit(c > 0);
                default: throw new IllegalStateException(sign);
            }
        }

        static BigInteger bit(boolean b) {
            return b ? BigInteger.ONE : BigInteger.ZERO;
        }

        int twist(Rope r) {
            Long v = value("twist", r, null, asItGoes());
            return v == null ? 10 * makerIs.get(r.maker)[1] + r.yards : (int) Math.max(0, Math.min(999, v));
        }

        void pass() {
            for (Rope r : ropes) {
                if (r.day == day && r.is == 0) {
                    r.sound = twist(r);
                    r.is = 1;
                }
            }
            for (int[] v : sails) {
                if (v != null && v[1] == day) {
                    Ship s = ships.get(v[0]);
                    if (s.is == 0) {
                        s.is = 1;
                        s.left = v[2];
                    } else {
                        refused++;
                    }
                }
            }
            boolean stormy = asItGoes();
            if (byNumbers) {
                stormy = storm == 100;
                if (storm > 0 && storm < 100) {
                    last = BigInteger.valueOf(last).multiply(BigInteger.valueOf(1103515245))
                            .add(BigInteger.valueOf(12345)).mod(BigInteger.ONE.shiftLeft(31)).longValueExact();
                    stormy = last / 65536 % 100 < storm;
                }
            }
            for (int i = 0; i < ships.size(); i++) {
                if (ships.get(i).is == 1) {
                    atSea(i, stormy);
                }
            }
            day++;
        }

        void atSea(int i, boolean stormy) {
            Ship s = ships.get(i);
            Long v = value("pull", null, i, stormy);
            long pull = v == null ? (stormy ? 2 : 1) * s.load : Math.max(0, Math.min(9999, v));
            if (bear(i) < pull) {
                s.is = 2;
                s.left = 0;
                for (Rope r : ropes) {
                    if (r.ship == i && r.is == 1) {
                        r.is = 3;
                    }
                }
                return;
            }
            for (Rope r : ropes) {
                if (wears && r.ship == i && r.is == 1) {
                    Long w = value("wear", r, null, stormy);
                    r.sound -= w == null ? (stormy ? 3 : 1) : (int) Math.max(0, Math.min(99, w));
                    if (r.sound <= 0) {
                        r.sound = 0;
                        r.is = 2;
                    }
                }
            }
            if (--s.left == 0) {
                s.is = 0;
                s.homes++;
            }
        }

        World passed(int n) {
            World w = this;
            for (int i = 0; i < n; i++) {
                w.pass();
            }
            return w;
        }

        int lost() {
            return (int) ships.stream().filter(s -> s.is == 2).count();
        }

        int homes() {
            return ships.stream().mapToInt(s -> s.homes).sum();
        }

        int ropesThatAre(int is) {
            return (int) ropes.stream().filter(r -> r.is == is).count();
        }

        boolean free(Rope r) {
            return r.is == 1 && r.ship < 0;
        }
    }

    /** The grammar, one method a rule, over all tokens at once. */
    static final class Parser {
        static final String LANGUAGE = " maker rope ship rig sail storm seed law twist wear pull or and not yards even think"
                + " sound bear stormy day ";
        static final String NAMES = " yards even think sound bear stormy day ";
        final List<Token> tokens = new ArrayList<>();
        final World w = new World();
        int at = 0;
        int open = 0;
        boolean isStorm = false;
        boolean isSeed = false;

        Parser(String text) {
            int i = 0;
            while (i < text.length()) {
                char c = text.charAt(i);
                int j = i + 1;
                if (c == 10 || c == 32) {
                    i++;
                    continue;
                }
                if (c >= 'a' && c <= 'z') {
                    while (j < text.length() && text.charAt(j) >= 'a' && text.charAt(j) <= 'z') {
                        j++;
                    }
                } else if (c >= '0' && c <= '9') {
                    while (j < text.length() && text.charAt(j) >= '0' && text.charAt(j) <= '9') {
                        j++;
                    }
                } else {
                    String two = text.substring(i, Math.min(i + 2, text.length()));
                    if (two.equals("<=") || two.equals("<>") || two.equals(">=")) {
                        j++;
                    }
                }
                tokens.add(new Token(text.substring(i, j), i));
                i = j;
            }
            tokens.add(new Token("", text.length()));
        }

        Token now() {
            return tokens.get(at);
        }

        boolean sees(String... texts) {
            for (String t : texts) {
                if (now().text.equals(t)) {
                    return true;
                }
            }
            return false;
        }

        Token take(String text) {
            if (!sees(text)) {
                throw new Fault(1, now().place);
            }
            return tokens.get(at++);
        }

        Token takeW() {
            Token t = now();
            if (!t.isWord() || t.text.length() > 6 || LANGUAGE.contains(" " + t.text + " ")) {
                throw new Fault(1, t.place);
            }
            at++;
            return t;
        }

        int takeN(int least, int most) {
            Token t = now();
            if (!t.isNumber()) {
                throw new Fault(1, t.place);
            }
            BigInteger n = new BigInteger(t.text);
            if (n.compareTo(BigInteger.valueOf(least)) < 0 || n.compareTo(BigInteger.valueOf(most)) > 0) {
                throw new Fault(2, t.place);
            }
            at++;
            return n.intValueExact();
        }

        String takeNew(List<String> names) {
            Token t = takeW();
            if (names.contains(t.text)) {
                throw new Fault(3, t.place);
            }
            return t.text;
        }

        int takeOld(List<String> names) {
            Token t = takeW();
            if (!names.contains(t.text)) {
                throw new Fault(4, t.place);
            }
            return names.indexOf(t.text);
        }

        List<String> ropeNames() {
            List<String> names = new ArrayList<>();
            w.ropes.forEach(r -> names.add(r.name));
            return names;
        }

        List<String> shipNames() {
            List<String> names = new ArrayList<>();
            w.ships.forEach(s -> names.add(s.name));
            return names;
        }

        World parse() {
            while (!sees("")) {
                line();
                take(";");
                w.lines++;
            }
            return w;
        }

        void line() {
            Token word = now();
            at++;
            switch (word.text) {
                case "maker":
                    limit(word, w.makers.size(), 6);
                    String name = takeNew(w.makers);
                    w.makers.add(name);
                    w.makerIs.add(new int[] {takeN(0, 9), takeN(0, 9)});
                    break;
                case "rope":
                    limit(word, w.ropes.size(), 8);
                    Rope r = new Rope();
                    r.name = takeNew(ropeNames());
                    r.maker = takeOld(w.makers);
                    r.yards = takeN(1, 99);
                    r.day = takeN(0, 99);
                    w.ropes.add(r);
                    break;
                case "ship":
                    limit(word, w.ships.size(), 5);
                    Ship s = new Ship();
                    s.name = takeNew(shipNames());
                    s.load = takeN(0, 999);
                    w.ships.add(s);
                    break;
                case "rig":
                    int place = now().place;
                    Rope rigged = w.ropes.get(takeOld(ropeNames()));
                    if (rigged.ship >= 0) {
                        throw new Fault(3, place);
                    }
                    rigged.ship = takeOld(shipNames());
                    break;
                case "sail":
                    limit(word, w.sails.size(), 10);
                    w.sails.add(new int[] {takeOld(shipNames()), takeN(0, 99), takeN(1, 30)});
                    break;
                case "storm":
                    once(word, isStorm);
                    w.storm = takeN(0, 100);
                    isStorm = true;
                    break;
                case "seed":
                    once(word, isSeed);
                    w.last = takeN(0, 99999);
                    isSeed = true;
                    break;
                case "law":
                    Token law = now();
                    if (!sees("twist", "wear", "pull")) {
                        throw new Fault(1, law.place);
                    }
                    once(law, w.laws.containsKey(law.text));
                    at++;
                    w.laws.put(law.text, or());
                    break;
                default:
                    throw new Fault(1, word.place);
            }
        }

        static void limit(Token word, int size, int most) {
            if (size >= most) {
                throw new Fault(2, word.place);
            }
        }

        static void once(Token word, boolean isTold) {
            if (isTold) {
                throw new Fault(3, word.place);
            }
        }

        String knot() {
            Token t = now();
            if (w.knots >= 64) {
                throw new Fault(2, t.place);
            }
            w.knots++;
            at++;
            return t.text;
        }

        Node or() {
            Node n = and();
            while (sees("or")) {
                n = new Node(knot(), n, and());
            }
            return n;
        }

        Node and() {
            Node n = not();
            while (sees("and")) {
                n = new Node(knot(), n, not());
            }
            return n;
        }

        Node not() {
            if (sees("not")) {
                return new Node(knot(), null, not());
            }
            Node n = sum();
            if (sees("<", "<=", "=", "<>", ">=", ">")) {
                n = new Node(knot(), n, sum());
            }
            return n;
        }

        Node sum() {
            Node n = product();
            while (sees("+", "-")) {
                n = new Node(knot(), n, product());
            }
            return n;
        }

        Node product() {
            Node n = primary();
            while (sees("*", "/")) {
                n = new Node(knot(), n, primary());
            }
            return n;
        }

        Node primary() {
            Token t = now();
            if (sees("(")) {
                if (open == 8) {
                    throw new Fault(2, t.place);
                }
                open++;
                at++;
                Node n = or();
                take(")");
                open--;
                return n;
            }
            if (t.isNumber()) {
                if (new BigInteger(t.text).compareTo(BigInteger.valueOf(9999)) > 0) {
                    throw new Fault(2, t.place);
                }
                return new Node(knot().replaceFirst("^0+(?=.)", ""), null, null);
            }
            if (t.isWord() && NAMES.contains(" " + t.text + " ")) {
                return new Node(knot(), null, null);
            }
            throw new Fault(1, t.place);
        }
    }

    StringBuilder tape = new StringBuilder();
    World start = new World();
    World now = new World();
    World image = null;
    int[] fault = {0, -1};
    List<World> undos = new ArrayList<>();
    List<Object[]> seen = new ArrayList<>();
    int known = -1;

    int feed(int... five) {
        if (tape.length() + 20 > 700) {
            return -1;
        }
        for (int n : five) {
            for (int i = 3; i >= 0; i--) {
                tape.append((char) (n >>> 8 * i & 255));
            }
        }
        return tape.length();
    }

    int text(int n) {
        if (n < 0 || n > tape.length()) {
            return -2;
        }
        String text = tape.substring(0, n);
        tape.setLength(0);
        try {
            World w = new Parser(text).parse();
            start = w;
            now = w.copy();
            image = null;
            undos.clear();
            seen.clear();
            known = -1;
            fault = new int[] {0, -1};
            return w.lines;
        } catch (Fault f) {
            fault = new int[] {f.kind, f.place};
            return -1;
        }
    }

    int fault(int what) {
        return what == 0 || what == 1 ? fault[what] : -1;
    }

    int named(int what, int letters) {
        List<String> names = new ArrayList<>();
        if (what == 0) {
            names = now.makers;
        }
        if (what == 1) {
            for (Rope r : now.ropes) {
                names.add(r.name);
            }
        }
        if (what == 2) {
            for (Ship s : now.ships) {
                names.add(s.name);
            }
        }
        for (int i = 0; i < names.size(); i++) {
            if (Check.letters(names.get(i)) == letters) {
                return i;
            }
        }
        return -1;
    }

    boolean isRope(int i) {
        return i >= 0 && i < now.ropes.size();
    }

    boolean isShip(int i) {
        return i >= 0 && i < now.ships.size();
    }

    boolean isMaker(int i) {
        return i >= 0 && i < now.makers.size();
    }

    int rope(int i, int what) {
        if (!isRope(i)) {
            throw new IndexOutOfBoundsException();
        }
        Rope r = now.ropes.get(i);
        int[] all = {r.maker, r.yards, r.is, r.sound, r.ship < 0 ? -2 : r.ship};
        if (what < 0 || what > 4) {
            throw new NoSuchElementException();
        }
        return all[what];
    }

    int ship(int i, int what) {
        if (!isShip(i) || what < 0 || what > 6) {
            return -1;
        }
        Ship s = now.ships.get(i);
        int bits = 0;
        for (int r = 0; r < now.ropes.size(); r++) {
            if (now.ropes.get(r).ship == i) {
                bits += 1 << r;
            }
        }
        return new int[] {s.load, s.is, s.left, s.homes, now.bear(i), now.mood(i), bits}[what];
    }

    int maker(int i, int what) {
        return !isMaker(i) || what < 0 || what > 1 ? -1 : now.makerIs.get(i)[what];
    }

    long law(int what, int its) {
        Long v = null;
        if (what == 2 && isShip(its)) {
            v = now.value("pull", null, its, now.asItGoes());
        }
        if ((what == 0 || what == 1) && isRope(its)) {
            v = now.value(what == 0 ? "twist" : "wear", now.ropes.get(its), null, now.asItGoes());
        }
        return v == null ? Long.MIN_VALUE : v;
    }

    void remember() {
        undos.add(now.copy());
        if (undos.size() > 20) {
            undos.remove(0);
        }
    }

    int rig(int rope, int ship) {
        if (!isRope(rope) || !isShip(ship)) {
            return -1;
        }
        if (now.ropes.get(rope).is > 1 || now.ropes.get(rope).ship >= 0 || now.ships.get(ship).is != 0) {
            return -2;
        }
        remember();
        now.ropes.get(rope).ship = ship;
        return now.bear(ship);
    }

    boolean takeOut(int rope) {
        if (!isRope(rope) || now.ropes.get(rope).ship < 0 || now.ships.get(now.ropes.get(rope).ship).is != 0) {
            return false;
        }
        remember();
        now.ropes.get(rope).ship = -1;
        return true;
    }

    int mend(int rope) {
        if (!isRope(rope)) {
            return -1;
        }
        Rope r = now.ropes.get(rope);
        if (r.is == 0 || r.is == 3 || (r.ship >= 0 && now.ships.get(r.ship).is != 0)) {
            return -2;
        }
        remember();
        r = now.ropes.get(rope);
        r.sound = now.twist(r);
        r.is = 1;
        return r.sound;
    }

    int sail(int ship, int days) {
        if (!isShip(ship) || days < 1 || days > 30) {
            return -1;
        }
        if (now.ships.get(ship).is != 0) {
            return -2;
        }
        remember();
        now.ships.get(ship).is = 1;
        now.ships.get(ship).left = days;
        return now.bear(ship);
    }

    int go(int n) {
        if (n < 0 || n > 200 || now.day + n > 9000) {
            return -1;
        }
        if (n > 0) {
            undos.clear();
        }
        now.byNumbers = true;
        now.passed(n);
        now.byNumbers = false;
        return now.day;
    }

    int ahead(int n, int what, int ship) {
        if (n < 0 || n > 200 || what < 0 || what > 4 || (what == 4 && !isShip(ship))) {
            return -1;
        }
        World w = now.copy().passed(n);
        switch (what) {
            case 0: return w.lost();
            case 1: return w.homes() - now.homes();
            case 2: return w.ropesThatAre(2);
            case 3: return w.refused - now.refused;
            default: return w.bear(ship);
        }
    }

    int loses(int ship) {
        if (!isShip(ship)) {
            return -1;
        }
        World w = now.copy();
        for (int i = 0; i <= 199; i++) {
            if (w.ships.get(ship).is == 2) {
                return i;
            }
            w.pass();
        }
        return -2;
    }

    int homes(int ship) {
        if (!isShip(ship)) {
            return -1;
        }
        World w = now.copy();
        for (int i = 1; i <= 199; i++) {
            w.pass();
            if (w.ships.get(ship).homes != now.ships.get(ship).homes) {
                return i;
            }
        }
        return -2;
    }

    int weakest(int ship) {
        if (!isShip(ship)) {
            return -1;
        }
        for (int sound = 0; sound <= 999; sound++) {
            for (int i = 0; i < now.ropes.size(); i++) {
                Rope r = now.ropes.get(i);
                if (r.ship == ship && r.is == 1 && r.sound == sound) {
                    return i;
                }
            }
        }
        return -2;
    }

    /** YARDS of a set of free MADE ROPES; below 0, if one of them is none. */
    int yards(int bits) {
        int yards = 0;
        for (int i = 0; i < 8; i++) {
            if ((bits >> i & 1) == 1) {
                if (!isRope(i) || !now.free(now.ropes.get(i))) {
                    return -1;
                }
                yards += now.ropes.get(i).yards;
            }
        }
        return yards;
    }

    int splice(int n, int what) {
        if (n < 1 || n > 792 || what < 0 || what > 1) {
            return -1;
        }
        long best = Long.MAX_VALUE;
        for (int bits = 0; bits < 256; bits++) {
            if (yards(bits) >= n) {
                best = Math.min(best, (long) Integer.bitCount(bits) * 1000000 + yards(bits) * 1000L + bits);
            }
        }
        if (best == Long.MAX_VALUE) {
            return -2;
        }
        return what == 0 ? (int) (best % 1000) : (int) (best / 1000 % 1000) - n;
    }

    int exact(int n) {
        if (n < 0 || n > 792) {
            return -1;
        }
        int found = 0;
        for (int bits = 0; bits < 256; bits++) {
            found += yards(bits) == n ? 1 : 0;
        }
        return found;
    }

    int allot(int what) {
        if (what < 0 || what > 9) {
            return -1;
        }
        List<Integer> five = new ArrayList<>();
        for (int i = 0; i < now.ropes.size() && five.size() < 5; i++) {
            if (now.free(now.ropes.get(i))) {
                five.add(i);
            }
        }
        int none = now.ships.size();
        int[] best = null;
        int[] ways = new int[five.size()];
        while (true) {
            int[] got = allotted(five, ways, none);
            if (got != null && (best == null || got[8] > best[8] || (got[8] == best[8] && got[9] < best[9]))) {
                best = got;
            }
            int k = ways.length - 1;
            while (k >= 0 && ways[k] == none) {
                ways[k--] = 0;
            }
            if (k < 0) {
                break;
            }
            ways[k]++;
        }
        return best[what];
    }

    int[] allotted(List<Integer> five, int[] ways, int none) {
        World w = now.copy();
        int[] got = {-2, -2, -2, -2, -2, -2, -2, -2, 0, 0};
        for (int k = 0; k < ways.length; k++) {
            if (ways[k] == none) {
                continue;
            }
            if (w.ships.get(ways[k]).is != 0) {
                return null;
            }
            w.ropes.get(five.get(k)).ship = ways[k];
            got[five.get(k)] = ways[k];
            got[9] += w.ropes.get(five.get(k)).sound;
        }
        for (int s = 0; s < none; s++) {
            got[8] += w.ships.get(s).is == 0 && w.bear(s) >= w.ships.get(s).load ? 1 : 0;
        }
        return got;
    }

    int game(int what) {
        int nim = 0;
        for (Rope r : now.ropes) {
            nim ^= r.is == 1 ? r.yards : 0;
        }
        if (what == 0) {
            return nim == 0 ? 1 : 0;
        }
        if (what != 1 && what != 2) {
            return -1;
        }
        for (int i = 0; i < now.ropes.size(); i++) {
            for (int pay = 1; now.ropes.get(i).is == 1 && pay <= now.ropes.get(i).yards; pay++) {
                if ((nim ^ now.ropes.get(i).yards ^ (now.ropes.get(i).yards - pay)) == 0) {
                    return what == 1 ? i : pay;
                }
            }
        }
        return -2;
    }

    int putOff() {
        int best = -2;
        for (int bits = 0; bits < 1 << now.sails.size(); bits++) {
            World w = now.copy();
            boolean fits = true;
            for (int v = 0; v < w.sails.size(); v++) {
                if ((bits >> v & 1) == 1) {
                    fits &= w.sails.get(v)[1] >= now.day;
                    w.sails.set(v, null);
                }
            }
            if (!fits || (best >= 0 && Integer.bitCount(bits) >= Integer.bitCount(best))) {
                continue;
            }
            if (w.passed(60).lost() == 0) {
                best = bits;
            }
        }
        return best;
    }

    List<Integer> restsOf(int a, int b) {
        int[] x = now.makerIs.get(a);
        int[] y = now.makerIs.get(b);
        int both = 9 - Math.abs(x[0] - y[0]);
        int[][] gainA = {{both, x[1]}, {y[1] + 1, x[1] / 2}};
        int[][] gainB = {{both, x[1] + 1}, {y[1], y[1] / 2}};
        List<Integer> found = new ArrayList<>();
        for (int i = 0; i < 2; i++) {
            for (int j = 0; j < 2; j++) {
                if (gainA[i][j] >= gainA[1 - i][j] && gainB[i][j] >= gainB[i][1 - j]) {
                    found.add(10 * i + j);
                }
            }
        }
        return found;
    }

    int rests(int a, int b) {
        return !isMaker(a) || !isMaker(b) || a == b ? -1 : restsOf(a, b).size();
    }

    int rest(int a, int b, int k) {
        if (!isMaker(a) || !isMaker(b) || a == b || k < 0) {
            return -1;
        }
        return k < restsOf(a, b).size() ? restsOf(a, b).get(k) : -2;
    }

    long calm(int n, int what) {
        if (n < 0 || n > 6 || what < 0 || what > 1) {
            return -1;
        }
        BigInteger above = BigInteger.valueOf(100 - now.storm).pow(n);
        BigInteger below = BigInteger.valueOf(100).pow(n);
        return (what == 0 ? above : below).divide(above.gcd(below)).longValueExact();
    }

    int see(int days, int ship, boolean isLost) {
        if (days < 1 || days > 60 || !isShip(ship) || seen.size() == 24) {
            return -1;
        }
        seen.add(new Object[] {days, ship, isLost});
        return seen.size() - 1;
    }

    int strike(int i) {
        if (i < 0 || i >= seen.size() || seen.size() == 24) {
            return -1;
        }
        seen.add(new Object[] {i});
        return seen.size() - 1;
    }

    boolean known(int n) {
        if (n < -1 || n > seen.size()) {
            return false;
        }
        known = n;
        return true;
    }

    int knownBy() {
        return known < 0 ? seen.size() : known;
    }

    boolean isStruck(int i) {
        for (int j = i + 1; j < knownBy(); j++) {
            if (seen.get(j).length == 1 && (Integer) seen.get(j)[0] == i && !isStruck(j)) {
                return true;
            }
        }
        return false;
    }

    boolean lostWith(int maker, int even, int ship, int days) {
        World w = start.copy();
        w.makerIs.get(maker)[1] = even;
        return w.passed(days).ships.get(ship).is == 2;
    }

    int evens(int maker) {
        if (!isMaker(maker)) {
            return -1;
        }
        int bits = 0;
        for (int even = 0; even <= 9; even++) {
            boolean fits = true;
            for (int i = 0; i < knownBy(); i++) {
                Object[] s = seen.get(i);
                if (s.length == 3 && !isStruck(i)) {
                    fits &= lostWith(maker, even, (Integer) s[1], (Integer) s[0]) == (Boolean) s[2];
                }
            }
            bits += fits ? 1 << even : 0;
        }
        return bits;
    }

    int ask(int maker, int n, int what) {
        if (!isMaker(maker) || n < 1 || n > 60 || what < 0 || what > 1) {
            return -1;
        }
        int evens = evens(maker);
        int best = -2;
        int bestWorst = -2;
        for (int ship = 0; ship < now.ships.size(); ship++) {
            int[] parts = {0, 0};
            for (int even = 0; even <= 9; even++) {
                if ((evens >> even & 1) == 1) {
                    parts[lostWith(maker, even, ship, n) ? 1 : 0]++;
                }
            }
            int worst = Math.max(parts[0], parts[1]);
            if (best < 0 || worst < bestWorst) {
                best = ship;
                bestWorst = worst;
            }
        }
        return what == 0 ? best : bestWorst;
    }

    int chance(int seed, int n, int ship) {
        if (seed < 0 || n < 1 || n > 99 || !isShip(ship)) {
            return -1;
        }
        long last = seed;
        int lost = 0;
        for (int i = 0; i < 10; i++) {
            World w = now.copy();
            w.byNumbers = true;
            w.last = last;
            w.passed(n);
            last = w.last;
            lost += w.ships.get(ship).is == 2 ? 1 : 0;
        }
        return lost;
    }

    int tried(int what, int i, int n) {
        if (what < 0 || what > 4 || n < 0 || n > 200 || (what == 2 ? !isShip(i) : i != 0)) {
            return -1;
        }
        World w = now.copy();
        if (what < 2) {
            w.storms = what == 1;
        }
        for (int v = 0; what == 2 && v < w.sails.size(); v++) {
            if (w.sails.get(v)[0] == i) {
                w.sails.set(v, null);
            }
        }
        w.wears = what != 3;
        if (what == 4) {
            w.makerIs.forEach(m -> m[1] = 9);
        }
        return w.passed(n).lost();
    }

    int undo() {
        if (undos.isEmpty()) {
            return -1;
        }
        now = undos.remove(undos.size() - 1);
        return undos.size();
    }

    int keep() {
        image = now.copy();
        return now.day;
    }

    int back() {
        if (image == null) {
            return -1;
        }
        now = image.copy();
        undos.clear();
        return now.day;
    }

    int count(int what) {
        int atSea = (int) now.ships.stream().filter(s -> s.is == 1).count();
        int sound = now.ropes.stream().mapToInt(r -> r.sound).sum();
        int[] all = {now.makers.size(), now.ropes.size(), now.ships.size(), now.sails.size(), now.knots, now.day,
            now.ropesThatAre(1), now.ropesThatAre(2), now.ropesThatAre(3), atSea, now.lost(), now.homes(),
            now.refused, sound, seen.size(), knownBy(), undos.size()};
        return what < 0 || what > 16 ? -1 : all[what];
    }
}
