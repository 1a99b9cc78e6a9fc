import java.nio.charset.StandardCharsets;
import java.util.ArrayList;
import java.util.List;
import java.util.NoSuchElementException;
import java.util.Random;

/** Runs of calls by a fixed seed, each answered by RopeWalk and by Oracle, which must agree. */
public final class OracleTest {
    private static final int RUNS = 1200;
    private static final int CALLS = 512;
    private final Random dice;
    private final RopeWalk x = new RopeWalk();
    private final Oracle y = new Oracle();
    private final List<String> log = new ArrayList<>();
    private int calls = 0;

    private OracleTest(long seed) {
        dice = new Random(seed);
    }

    public static void main(String[] args) {
        int wrong = 0;
        for (int run = 0; run < RUNS && wrong < 5; run++) {
            if (!new OracleTest(run).agrees(run)) {
                wrong++;
            }
        }
        System.out.println(RUNS + " runs, " + wrong + " that don't agree");
        if (wrong != 0) {
            System.exit(1);
        }
    }

    private boolean agrees(int run) {
        boolean isAllFaults = run % 3 == 0;
        while (calls < CALLS) {
            int kind = dice.nextInt(isAllFaults ? 3 : 60);
            boolean isSame = calls == 0 || kind == 0 ? textsAgree(isAllFaults) : callsAgree(which(run));
            if (!isSame) {
                System.out.println("run " + run + " does not agree at its last row:");
                log.forEach(row -> System.out.println("  " + row));
                return false;
            }
        }
        return true;
    }

    /** Some runs mostly rig, take out, mend, sail and undo, so that more than can be undone comes together. */
    private int which(int run) {
        int any = dice.nextInt(37);
        return run % 5 == 1 && dice.nextInt(5) != 0 ? new int[] {8, 9, 9, 10, 10, 11, 32, 4, 5}[any % 9] : any;
    }

    private boolean same(String call, long got, long want) {
        calls++;
        log.add(call + " -> " + got + (got == want ? "" : ", by Oracle " + want));
        return got == want;
    }

    private boolean textsAgree(boolean mayBeWrong) {
        String text = new Texts(dice).text(mayBeWrong);
        byte[] bytes = text.getBytes(StandardCharsets.ISO_8859_1);
        log.add("text: " + text);
        for (int at = 0; at < bytes.length; at += 20) {
            int[] five = new int[5];
            for (int i = 0; i < 20; i++) {
                five[i / 4] = five[i / 4] << 8 | (at + i < bytes.length ? bytes[at + i] & 255 : 32);
            }
            if (!same("feed", x.feed(five[0], five[1], five[2], five[3], five[4]), y.feed(five))) {
                return false;
            }
        }
        int n = dice.nextInt(20) == 0 ? bytes.length + 40 - dice.nextInt(80) : bytes.length;
        return same("text(" + n + ")", x.text(n), y.text(n)) && same("fault(0)", x.fault(0), y.fault(0))
                && same("fault(1)", x.fault(1), y.fault(1)) && same("count(4)", x.count(4), y.count(4));
    }

    /** A number that mostly is one of 0 .. below and sometimes lies just or far beyond. */
    private int any(int below) {
        switch (dice.nextInt(24)) {
            case 0: return -1;
            case 1: return below;
            case 2: return dice.nextInt(40) == 0 ? dice.nextInt() : 0;
            default: return dice.nextInt(Math.max(1, below));
        }
    }

    private int ropes() {
        return any(Math.max(1, y.now.ropes.size()));
    }

    private int ships() {
        return any(Math.max(1, y.now.ships.size()));
    }

    private int makers() {
        return any(Math.max(1, y.now.makers.size()));
    }

    private boolean callsAgree(int which) {
        int rope = ropes();
        int ship = ships();
        int maker = makers();
        int a;
        int b;
        switch (which) {
            case 0:
                a = dice.nextInt();
                return dice.nextInt(8) != 0 || same("feed", x.feed(a, 1, 2, 3, 4), y.feed(a, 1, 2, 3, 4));
            case 1:
                a = -1 - dice.nextInt(3);
                return same("text(" + a + ")", x.text(a), y.text(a));
            case 2:
                a = any(2);
                return same("fault(" + a + ")", x.fault(a), y.fault(a));
            case 3:
                a = any(3);
                b = dice.nextInt(5) == 0 ? dice.nextInt() : Check.letters(Texts.NAMES[dice.nextInt(Texts.NAMES.length)]);
                return same("named(" + a + "," + b + ")", x.named(a, b), y.named(a, b));
            case 4:
                a = any(5);
                return same("rope(" + rope + "," + a + ")", Check.rope(x, rope, a), oracleRope(rope, a));
            case 5:
                a = any(7);
                return same("ship(" + ship + "," + a + ")", x.ship(ship, a), y.ship(ship, a));
            case 6:
                a = any(2);
                return same("maker(" + maker + "," + a + ")", x.maker(maker, a), y.maker(maker, a));
            case 7:
                a = any(3);
                b = a == 2 ? ship : rope;
                return same("law(" + a + "," + b + ")", x.law(a, b), y.law(a, b));
            case 8:
                return same("rig(" + rope + "," + ship + ")", x.rig(rope, ship), y.rig(rope, ship));
            case 9:
                return same("takeOut(" + rope + ")", x.takeOut(rope) ? 1 : 0, y.takeOut(rope) ? 1 : 0);
            case 10:
                return same("mend(" + rope + ")", x.mend(rope), y.mend(rope));
            case 11:
                a = dice.nextInt(10) == 0 ? any(31) : 1 + dice.nextInt(6);
                return same("sail(" + ship + "," + a + ")", x.sail(ship, a), y.sail(ship, a));
            case 12:
                a = dice.nextInt(25) == 0 ? any(201) : dice.nextInt(3);
                return same("go(" + a + ")", x.go(a), y.go(a));
            case 13:
                a = dice.nextInt(12) == 0 ? any(201) : dice.nextInt(20);
                b = any(5);
                return same("ahead(" + a + "," + b + "," + ship + ")", x.ahead(a, b, ship), y.ahead(a, b, ship));
            case 14:
                return same("loses(" + ship + ")", x.loses(ship), y.loses(ship));
            case 15:
                return same("homes(" + ship + ")", x.homes(ship), y.homes(ship));
            case 16:
                return same("weakest(" + ship + ")", x.weakest(ship), y.weakest(ship));
            case 17:
                a = dice.nextInt(10) == 0 ? any(793) : 1 + dice.nextInt(200);
                b = any(2);
                return same("splice(" + a + "," + b + ")", x.splice(a, b), y.splice(a, b));
            case 18:
                a = dice.nextInt(4) == 0 ? any(793) : Math.max(0, y.yards(dice.nextInt(256)));
                return same("exact(" + a + ")", x.exact(a), y.exact(a));
            default:
                return laterCallsAgree(which, ship, maker);
        }
    }

    private boolean laterCallsAgree(int which, int ship, int maker) {
        int a;
        int b;
        switch (which) {
            case 19:
                a = any(10);
                return same("allot(" + a + ")", x.allot(a), y.allot(a));
            case 20:
                a = any(3);
                return same("game(" + a + ")", x.game(a), y.game(a));
            case 21:
                return dice.nextInt(4) != 0 || same("putOff()", x.putOff(), y.putOff());
            case 22:
                a = makers();
                return same("rests(" + maker + "," + a + ")", x.rests(maker, a), y.rests(maker, a));
            case 23:
                a = makers();
                b = any(4);
                return same("rest(" + maker + "," + a + "," + b + ")", x.rest(maker, a, b), y.rest(maker, a, b));
            case 24:
                a = any(7);
                b = any(2);
                return same("calm(" + a + "," + b + ")", x.calm(a, b), y.calm(a, b));
            case 25:
                a = 1 + any(60);
                boolean isLost = dice.nextInt(4) == 0 ? dice.nextBoolean()
                        : y.isShip(ship) && a >= 1 && a <= 60 && y.start.copy().passed(a).ships.get(ship).is == 2;
                return same("see(" + a + "," + ship + "," + isLost + ")", x.see(a, ship, isLost), y.see(a, ship, isLost));
            case 26:
                a = any(Math.max(1, y.seen.size()));
                return same("strike(" + a + ")", x.strike(a), y.strike(a));
            case 27:
                a = dice.nextInt(3) == 0 ? -1 : any(y.seen.size() + 1);
                return same("known(" + a + ")", x.known(a) ? 1 : 0, y.known(a) ? 1 : 0);
            case 28:
                return same("evens(" + maker + ")", x.evens(maker), y.evens(maker));
            case 29:
                a = 1 + any(60);
                b = any(2);
                return same("ask(" + maker + "," + a + "," + b + ")", x.ask(maker, a, b), y.ask(maker, a, b));
            case 30:
                a = dice.nextInt(9) == 0 ? dice.nextInt() : dice.nextInt() & Integer.MAX_VALUE;
                b = dice.nextInt(4) == 0 ? 1 + any(99) : 1 + dice.nextInt(20);
                return same("chance(" + a + "," + b + "," + ship + ")", x.chance(a, b, ship), y.chance(a, b, ship));
            case 31:
                int what = any(5);
                a = dice.nextInt(12) == 0 ? any(201) : dice.nextInt(30);
                b = what == 2 ? ship : any(1);
                return same("tried(" + what + "," + b + "," + a + ")", x.tried(what, b, a), y.tried(what, b, a));
            case 32:
                return same("undo()", x.undo(), y.undo());
            case 33:
                return dice.nextInt(3) != 0 || same("keep()", x.keep(), y.keep());
            case 34:
                return dice.nextInt(3) != 0 || same("back()", x.back(), y.back());
            default:
                a = any(17);
                return same("count(" + a + ")", x.count(a), y.count(a));
        }
    }

    private int oracleRope(int rope, int what) {
        try {
            return y.rope(rope, what);
        } catch (IndexOutOfBoundsException e) {
            return Check.OUT_OF_BOUNDS;
        } catch (NoSuchElementException e) {
            return Check.NO_SUCH;
        }
    }
}
