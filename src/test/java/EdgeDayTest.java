import java.math.BigInteger;
import java.util.function.Consumer;

/** Each sentence of '==== 2' and of promises 6 to 14 that names a boundary. */
public final class EdgeDayTest {
    private static final long ERROR = Long.MIN_VALUE;
    private static final int[] FAR = {Integer.MIN_VALUE, -2, -1, 1000, Integer.MAX_VALUE};
    /** By DAY 2 p is MADE in x in HARBOUR, q at SEA in y, r LOST in z, s BROKEN in x, t TO COME in none, u MADE in none. */
    private static final String ALL_KINDS = "maker m 2 3;rope p m 9 0;rope q m 9 0;rope r m 9 0;rope s m 1 0;rope t m 5 50;rope u m 7 0;"
            + "ship x 0;ship y 0;ship z 99;ship w 5;rig p x;rig q y;rig r z;rig s x;sail x 0 1;sail y 0 9;sail z 0 1;law wear 35;";
    private static final Check c = new Check();

    public static void main(String[] args) {
        madeOnItsDay();
        madeWherever();
        twist();
        voyagesOfADay();
        stormOdds();
        numbersWrap();
        pull();
        wear();
        lost();
        home();
        mood();
        namesOfLaws();
        namesBySomeDays();
        values();
        asItGoes();
        rope();
        ship();
        maker();
        law();
        rig();
        takeOut();
        mend();
        sail();
        go();
        c.end();
    }

    private static RopeWalk gone(String text, int days) {
        RopeWalk x = Check.told(text);
        x.go(days);
        return x;
    }

    private static RopeWalk allKinds() {
        return gone(ALL_KINDS, 2);
    }

    private static void leaves(String call, String text, int days, Consumer<RopeWalk> refused) {
        c.due(call + " leaves all as it was", Look.isLeftAsItWas(x -> {
            Check.tell(x, text);
            x.go(days);
            x.keep();
            x.rig(5, 3);
        }, refused), true);
    }

    private static void madeOnItsDay() {
        c.part("SOUND is 0 till it is MADE; each ROPE of this DAY that is TO COME is MADE");
        RopeWalk x = Check.told("maker m 0 1;rope a m 5 0;rope b m 6 1;rope d m 7 99;");
        x.go(0);
        for (int rope = 0; rope < 3; rope++) {
            c.due("to come", Check.rope(x, rope, 2), 0);
            c.due("its sound", Check.rope(x, rope, 3), 0);
        }
        c.due("in sum", x.count(13), 0);
        x.go(1);
        c.due("a on DAY 0", Check.rope(x, 0, 3), 15);
        c.due("b not yet", Check.rope(x, 1, 2), 0);
        x.go(1);
        c.due("b on DAY 1", Check.rope(x, 1, 3), 16);
        x.go(97);
        c.due("DAY 99", x.count(5), 99);
        c.due("d not yet", Check.rope(x, 2, 2), 0);
        x.go(1);
        c.due("d on DAY 99", Check.rope(x, 2, 3), 17);
        c.due("all are made", x.count(6), 3);
    }

    private static void madeWherever() {
        c.part("MADE (wherever its SHIP is)");
        RopeWalk x = Check.told("maker m 0 1;rope a m 5 1;rope b m 6 1;rope d m 7 1;rope e m 8 1;ship x 0;ship y 0;ship z 9;"
                + "rig a x;rig b y;rig d z;sail y 0 9;sail z 0 9;");
        x.go(1);
        c.due("in harbour", x.ship(0, 1), 0);
        c.due("at sea", x.ship(1, 1), 1);
        c.due("lost", x.ship(2, 1), 2);
        x.go(1);
        c.due("in one in harbour", Check.rope(x, 0, 3), 15);
        c.due("in one at sea, worn at once", Check.rope(x, 1, 3), 15);
        c.due("in a lost one", Check.rope(x, 2, 3), 17);
        c.due("it is made, not lost", Check.rope(x, 2, 2), 1);
        c.due("in none", Check.rope(x, 3, 3), 18);
    }

    private static int made(String twist) {
        return Check.rope(gone("maker m 4 9;rope a m 99 0;" + twist, 1), 0, 3);
    }

    private static void twist() {
        c.part("SOUND is E of twist (0 .. 999; ten times EVEN and YARDS, in sum, without, with an ERROR)");
        c.due("without", made(""), 189);
        c.due("without, the least", Check.rope(gone("maker m 4 0;rope a m 1 0;", 1), 0, 3), 1);
        c.due("1/0", made("law twist 1/0;"), 189);
        c.due("0", made("law twist 0;"), 0);
        c.due("0-1", made("law twist 0-1;"), 0);
        c.due("999", made("law twist 999;"), 999);
        c.due("1000", made("law twist 1000;"), 999);
        c.due("998", made("law twist 998;"), 998);
        c.due("10 to the 12", made("law twist 1000*1000*1000*1000;"), 999);
        c.due("and 1", made("law twist 1000*1000*1000*1000+1;"), 189);
        c.due("10 to the 12 below 0", made("law twist 0-1000*1000*1000*1000;"), 0);
        c.due("and 1", made("law twist 0-1000*1000*1000*1000-1;"), 189);
        // 2 to the 32, which an int would take for 0, and a bit more.
        c.due("beyond an int", made("law twist 4096*4096*256+5;"), 999);
        c.due("beyond an int, below 0", made("law twist 5-4096*4096*256;"), 0);
        RopeWalk x = gone("maker m 4 9;rope a m 99 0;law twist 0;", 1);
        c.due("one of sound 0 is made", Check.rope(x, 0, 2), 1);
    }

    private static void voyagesOfADay() {
        c.part("VOYAGES of this DAY, by their numbers: a SHIP in HARBOUR is at SEA, for so many DAYS; else it is REFUSED");
        RopeWalk x = gone("ship x 0;sail x 0 30;sail x 0 1;sail x 29 1;sail x 30 1;", 1);
        c.due("the first one of the day", x.ship(0, 2), 29);
        c.due("the second is refused", x.count(12), 1);
        x.go(28);
        c.due("at sea for 1 more", x.ship(0, 2), 1);
        x.go(1);
        c.due("refused on its last day", x.count(12), 2);
        c.due("home", x.ship(0, 3), 1);
        x.go(1);
        c.due("out and home on DAY 30", x.ship(0, 3), 2);
        x = gone("ship x 0;sail x 0 1;sail x 0 30;", 1);
        c.due("the first by number", x.ship(0, 3), 1);
        c.due("not the second", x.count(12), 1);
        x = gone("ship x 9;ship y 0;sail x 0 1;sail x 1 1;sail y 1 1;", 2);
        c.due("a lost one is refused", x.count(12), 1);
        c.due("another one isn't", x.ship(1, 3), 1);
        x = gone("ship x 0;sail x 99 1;", 99);
        c.due("DAY 99 not yet", x.count(11), 0);
        x.go(1);
        c.due("DAY 99", x.count(11), 1);
        x.go(200);
        c.due("not again", x.count(11), 1);
        String ten = "ship x 0;" + "sail x 5 1;".repeat(10);
        x = gone(ten, 6);
        c.due("nine of ten", x.count(12), 9);
    }

    private static int firstNumber(int seed) {
        return numbers(seed, 1)[0];
    }

    private static int[] numbers(long seed, int many) {
        BigInteger last = BigInteger.valueOf(seed);
        int[] row = new int[many];
        for (int i = 0; i < many; i++) {
            last = last.multiply(BigInteger.valueOf(1103515245)).add(BigInteger.valueOf(12345)).mod(BigInteger.ONE.shiftLeft(31));
            row[i] = last.divide(BigInteger.valueOf(65536)).intValueExact();
        }
        return row;
    }

    private static void stormOdds() {
        c.part("STORMY: a number modulo 100 below storm (no number, if storm is 0 or 100)");
        String text = "maker m 0 0;rope p m 1 0;ship x 0;rig p x;sail x 0 1;law twist 9;law wear stormy;";
        for (int storm : new int[] {0, 1, 2, 49, 50, 51, 98, 99, 100}) {
            for (int number = 0; number < 100; number++) {
                boolean isNear = Math.abs(number - storm) <= 1 || number == 0 || number == 99;
                if (!isNear) {
                    continue;
                }
                int seed = 0;
                while (firstNumber(seed) % 100 != number) {
                    seed++;
                }
                RopeWalk x = gone(text + "storm " + storm + ";seed " + seed + ";", 1);
                c.due("storm " + storm + " by " + number, 9 - Check.rope(x, 0, 3), number < storm ? 1 : 0);
            }
        }
    }

    private static void numbersWrap() {
        c.part("Numbers: times 1103515245 and 12345, without what is above 31 bits, by 65536");
        for (int seed : new int[] {0, 1, 2, 65536, 99998, 99999}) {
            int[] due = numbers(seed, 60);
            RopeWalk x = Check.told("maker m 0 0;rope p m 1 0;ship x 0;rig p x;sail x 0 30;sail x 30 30;storm 37;seed " + seed
                    + ";law twist 999;law wear stormy;");
            int stormy = 0;
            for (int day = 0; day < 60; day++) {
                stormy += due[day] % 100 < 37 ? 1 : 0;
                x.go(1);
                c.due("seed " + seed + ", day " + day, 999 - Check.rope(x, 0, 3), stormy);
            }
        }
        // Each DAY has one, be a SHIP at SEA or not.
        int[] due = numbers(5, 60);
        RopeWalk x = gone("maker m 0 0;rope p m 1 0;ship x 0;rig p x;sail x 59 1;storm 50;seed 5;law twist 999;law wear stormy;", 60);
        c.due("the 60th", 999 - Check.rope(x, 0, 3), due[59] % 100 < 50 ? 1 : 0);
        c.due("0 is the first of seed 0", due.length == 60 && firstNumber(0) == 0, true);
    }

    private static int sailed(int sound, String more) {
        return gone("maker m 0 0;rope p m 1 0;ship x 20;rig p x;sail x 0 2;law twist " + sound + ";" + more, 1).ship(0, 1);
    }

    private static void pull() {
        c.part("PULL is E of pull (0 .. 9999; LOAD, in a storm twice, without, with an ERROR); if BEAR is less, the SHIP is LOST");
        c.due("as much as LOAD", sailed(20, ""), 1);
        c.due("1 less", sailed(19, ""), 2);
        c.due("in a storm as much as twice", sailed(40, "storm 100;"), 1);
        c.due("1 less", sailed(39, "storm 100;"), 2);
        c.due("with an ERROR", sailed(20, "law pull 1/0;"), 1);
        c.due("1 less", sailed(19, "law pull 1/0;"), 2);
        c.due("with an ERROR in a storm", sailed(40, "storm 100;law pull 1/0;"), 1);
        c.due("1 less", sailed(39, "storm 100;law pull 1/0;"), 2);
        c.due("E", sailed(7, "law pull 7;"), 1);
        c.due("E and 1", sailed(7, "law pull 8;"), 2);
        c.due("E in a storm is not twice", sailed(7, "storm 100;law pull 7;"), 1);
        c.due("0 and BEAR 0", sailed(0, "law pull 0;"), 1);
        c.due("below 0 is 0", sailed(0, "law pull 0-1;"), 1);
        c.due("far below 0 is 0", sailed(0, "law pull 0-1000*1000*1000*1000;"), 1);
        c.due("1 and BEAR 0", sailed(0, "law pull 1;"), 2);
        c.due("9999", sailed(999, "law pull 9999;"), 2);
        c.due("10000", sailed(999, "law pull 9999+1;"), 2);
        c.due("2 to the 32", sailed(999, "law pull 4096*4096*256;"), 2);
        c.due("beyond 10 to the 12 it is LOAD", sailed(20, "law pull 1000*1000*1000*1001;"), 1);
        String eight = "maker m 0 0;rope a m 1 0;rope b m 1 0;rope d m 1 0;rope e m 1 0;rope f m 1 0;rope g m 1 0;rope h m 1 0;"
                + "rope i m 1 0;ship x 0;rig a x;rig b x;rig d x;rig e x;rig f x;rig g x;rig h x;rig i x;sail x 0 2;law twist 999;"
                + "law wear 0;law pull ";
        c.due("8 ropes, 7992", gone(eight + "7992;", 1).ship(0, 1), 1);
        c.due("8 ropes, 7993", gone(eight + "7993;", 1).ship(0, 1), 2);
        c.due("8 ropes, 9999 and more", gone(eight + "9999*2;", 1).ship(0, 1), 2);
        c.due("no ropes, LOAD 0", gone("ship x 0;sail x 0 1;", 1).ship(0, 3), 1);
        c.due("no ropes, LOAD 0 in a storm", gone("ship x 0;sail x 0 1;storm 100;", 1).ship(0, 3), 1);
        c.due("no ropes, LOAD 1", gone("ship x 1;sail x 0 1;", 1).ship(0, 1), 2);
        c.due("in harbour none is lost", gone("ship x 999;", 1).ship(0, 1), 0);
    }

    private static int worn(int sound, String more) {
        return Check.rope(gone("maker m 0 0;rope p m 1 0;ship x 0;rig p x;sail x 0 2;law twist " + sound + ";" + more, 1), 0, 3);
    }

    private static int wornIs(int sound, String more) {
        return Check.rope(gone("maker m 0 0;rope p m 1 0;ship x 0;rig p x;sail x 0 2;law twist " + sound + ";" + more, 1), 0, 2);
    }

    private static void wear() {
        c.part("less by E of wear (0 .. 99; 1, in a storm 3, without, with an ERROR)");
        c.due("without", worn(500, ""), 499);
        c.due("without, in a storm", worn(500, "storm 100;"), 497);
        c.due("with an ERROR", worn(500, "law wear 1/0;"), 499);
        c.due("with an ERROR in a storm", worn(500, "law wear 1/0;storm 100;"), 497);
        c.due("0", worn(500, "law wear 0;"), 500);
        c.due("below 0", worn(500, "law wear 0-1;"), 500);
        c.due("99", worn(500, "law wear 99;"), 401);
        c.due("100", worn(500, "law wear 100;"), 401);
        c.due("98", worn(500, "law wear 98;"), 402);
        c.due("2 to the 32 and 7", worn(500, "law wear 4096*4096*256+7;"), 401);
        c.due("10 to the 12", worn(500, "law wear 1000*1000*1000*1000;"), 401);
        c.due("more", worn(500, "law wear 1000*1000*1000*1001;"), 499);
        c.part("if it is 0 or less then, it is 0 and the ROPE is BROKEN");
        c.due("2 by 1", worn(2, ""), 1);
        c.due("2 by 1 is made", wornIs(2, ""), 1);
        c.due("1 by 1", worn(1, ""), 0);
        c.due("1 by 1 is broken", wornIs(1, ""), 2);
        c.due("2 by 3", worn(2, "storm 100;"), 0);
        c.due("2 by 3 is broken", wornIs(2, "storm 100;"), 2);
        c.due("3 by 3 is broken", wornIs(3, "storm 100;"), 2);
        c.due("4 by 3 is made", wornIs(4, "storm 100;"), 1);
        c.due("0 by 0 is broken", wornIs(0, "law wear 0;"), 2);
        c.due("1 by 0 is made", wornIs(1, "law wear 0;"), 1);
        c.due("99 by 99 is broken", wornIs(99, "law wear 99;"), 2);
        c.due("100 by 99 is made", wornIs(100, "law wear 99;"), 1);
        RopeWalk x = gone("maker m 0 0;rope p m 1 0;rope q m 9 0;rope r m 9 0;ship x 0;ship y 0;rig p x;rig q y;sail x 0 2;", 2);
        c.due("of a ship in harbour none wears", Check.rope(x, 1, 3), 9);
        c.due("one in no ship neither", Check.rope(x, 2, 3), 9);
        c.due("a ship whose last rope breaks is home by LOAD 0", x.ship(0, 3), 1);
        x = gone("maker m 0 0;rope p m 1 0;ship x 1;rig p x;sail x 0 2;", 1);
        c.due("its last rope broke this day: at sea still", x.ship(0, 1), 1);
        x.go(1);
        c.due("lost on the next", x.ship(0, 1), 2);
        c.due("the rope stays broken", Check.rope(x, 0, 2), 2);
    }

    private static void lost() {
        c.part("the SHIP is LOST, and all ROPES in it that are MADE (SOUND stays; BROKEN ones, those TO COME stay so)");
        RopeWalk x = gone("maker m 0 0;rope p m 9 0;rope q m 1 0;rope r m 9 50;rope s m 8 0;rope t m 7 0;ship x 9;ship y 0;rig p x;"
                + "rig q x;rig r x;rig s y;sail x 0 5;sail x 1 1;", 2);
        c.due("lost", x.ship(0, 1), 2);
        c.due("the made one", Check.rope(x, 0, 2), 3);
        c.due("its sound", Check.rope(x, 0, 3), 8);
        c.due("the broken one", Check.rope(x, 1, 2), 2);
        c.due("the one to come", Check.rope(x, 2, 2), 0);
        c.due("in another ship", Check.rope(x, 3, 2), 1);
        c.due("in none", Check.rope(x, 4, 2), 1);
        c.due("no day left", x.ship(0, 2), 0);
        c.due("BEAR of those that are made", x.ship(0, 4), 0);
        c.due("all three are in it still", x.ship(0, 6), 7);
        c.due("lost ropes", x.count(8), 1);
        c.due("it stays lost", x.go(60), 62);
        c.due("made on DAY 50", Check.rope(x, 2, 2), 1);
        c.due("BEAR then", x.ship(0, 4), 9);
        c.due("lost", x.ship(0, 1), 2);
        c.due("one lost", x.count(10), 1);
    }

    private static void home() {
        c.part("the SHIP has 1 DAY less at SEA; none left: it is HOME, in HARBOUR, once more");
        for (int days : new int[] {1, 2, 29, 30}) {
            RopeWalk x = Check.told("ship x 0;sail x 0 " + days + ";");
            x.go(days - 1);
            c.due("a day ahead", x.ship(0, 3), 0);
            c.due("days yet", x.ship(0, 2), days == 1 ? 0 : 1);
            x.go(1);
            c.due("home", x.ship(0, 3), 1);
            c.due("in harbour", x.ship(0, 1), 0);
            c.due("none left", x.ship(0, 2), 0);
            x.go(1);
            c.due("home but once", x.ship(0, 3), 1);
        }
        RopeWalk x = gone("ship x 0;" + "sail x 3 1;sail x 4 1;sail x 5 1;sail x 6 1;sail x 7 1;sail x 8 1;sail x 9 1;sail x 10 1;"
                + "sail x 11 1;sail x 12 1;", 13);
        c.due("ten times", x.ship(0, 3), 10);
        c.due("none refused", x.count(12), 0);
    }

    private static void mood() {
        c.part("MOOD: the THOUGHT of which ROPES in it that are MADE have most YARDS, the least of several; 0, if there are none");
        String head = "maker a 9 1;maker b 0 1;maker d 5 1;maker e 9 1;";
        String tail = "ship x 0;ship y 0;";
        c.due("none", gone(head + tail, 1).ship(0, 5), 0);
        c.due("only 9", gone(head + "rope p a 1 0;" + tail + "rig p x;", 1).ship(0, 5), 9);
        c.due("of another ship", gone(head + "rope p a 1 0;" + tail + "rig p y;", 1).ship(0, 5), 0);
        c.due("to come", gone(head + "rope p a 1 1;" + tail + "rig p x;", 1).ship(0, 5), 0);
        c.due("9 and 5 alike", gone(head + "rope p a 7 0;rope q d 7 0;" + tail + "rig p x;rig q x;", 1).ship(0, 5), 5);
        c.due("9 by 1 yard", gone(head + "rope p a 8 0;rope q d 7 0;" + tail + "rig p x;rig q x;", 1).ship(0, 5), 9);
        c.due("9 by two makers", gone(head + "rope p a 4 0;rope q d 7 0;rope r e 4 0;" + tail + "rig p x;rig q x;rig r x;", 1)
                .ship(0, 5), 9);
        c.due("5 ahead of 9 of 4 and 3", gone(head + "rope p a 4 0;rope q d 7 0;rope r e 3 0;" + tail + "rig p x;rig q x;rig r x;", 1)
                .ship(0, 5), 5);
        c.due("0 and 9 alike", gone(head + "rope p b 7 0;rope q a 7 0;" + tail + "rig p x;rig q x;", 1).ship(0, 5), 0);
        for (int thought = 0; thought <= 9; thought++) {
            String other = "maker f " + thought + " 1;rope p f 9 0;rope q b 8 0;rope r d 7 0;";
            RopeWalk x = gone(head + other + tail + "rig p x;rig q x;rig r y;", 1);
            c.due("of THOUGHT " + thought, x.ship(0, 5), thought);
            c.due("of another ship, whatever was asked ahead", x.ship(1, 5), 5);
            c.due("of THOUGHT " + thought + " still", x.ship(0, 5), thought);
        }
        c.due("yards, not sound", gone(head + "rope p a 7 0;rope q d 6 0;law twist day;" + tail + "rig p x;rig q x;", 1).ship(0, 5), 9);
    }

    private static void namesOfLaws() {
        c.part("NAMES: (of pull 0), (of pull even 0, think MOOD), (of pull LOAD; of twist 0), (of a ROPE in none 0)");
        String[] names = {"yards", "even", "think", "sound", "bear", "stormy", "day"};
        // By DAY 2: p MADE in x in HARBOUR, q BROKEN at SEA, r LOST, s BROKEN in x, t TO COME, u MADE in none.
        long[][] twist = {{9, 3, 2, 0, 4, 0, 2}, {9, 3, 2, 0, 0, 0, 2}, {9, 3, 2, 0, 0, 0, 2}, {1, 3, 2, 0, 4, 0, 2}, {5, 3, 2, 0, 0, 0, 2},
            {7, 3, 2, 0, 0, 0, 2}};
        long[] sound = {4, 0, 39, 0, 0, 37};
        long[][] pull = {{0, 0, 2, 0, 4, 0, 2}, {0, 0, 0, 0, 0, 0, 2}, {0, 0, 0, 99, 0, 0, 2}, {0, 0, 0, 5, 0, 0, 2}};
        for (int name = 0; name < names.length; name++) {
            // Till DAY 2 the laws are the plain ones, so that all comes about as in ALL_KINDS; then they are the name alone.
            String plain = ALL_KINDS.replace("law wear 35;", "");
            RopeWalk x = gone(plain + "law wear 35*(day<2)+" + names[name] + "*(day>=2);law twist (even*10+yards)*(day<2)+" + names[name]
                    + "*(day>=2);law pull sound*(day<2)+" + names[name] + "*(day>=2);", 2);
            for (int rope = 0; rope < 6; rope++) {
                c.due(names[name] + " of twist of " + rope, x.law(0, rope), twist[rope][name]);
                c.due(names[name] + " of wear of " + rope, x.law(1, rope), name == 3 ? sound[rope] : twist[rope][name]);
            }
            for (int ship = 0; ship < 4; ship++) {
                c.due(names[name] + " of pull of " + ship, x.law(2, ship), pull[ship][name]);
            }
        }
    }

    private static void namesBySomeDays() {
        c.part("bear: BEAR of the SHIP as it is by then; stormy: 1 in a storm; day: the DAY");
        RopeWalk x = gone("maker m 0 0;rope p m 5 0;rope q m 6 0;rope r m 7 0;ship x 0;rig q x;rig p x;law twist yards+bear;", 1);
        c.due("p, made first", Check.rope(x, 0, 3), 5);
        c.due("q, beside p", Check.rope(x, 1, 3), 11);
        c.due("r, in none", Check.rope(x, 2, 3), 7);
        x = gone("maker m 0 0;rope p m 50 0;rope q m 60 0;ship x 0;rig p x;rig q x;sail x 0 1;law wear bear;", 1);
        c.due("p by 110, 99 at most: broken", Check.rope(x, 0, 2), 2);
        c.due("q by 60, what p was is gone: broken", Check.rope(x, 1, 2), 2);
        x = gone("maker m 0 0;rope p m 50 0;rope q m 61 0;ship x 0;rig p x;rig q x;sail x 0 1;law wear bear-1;", 1);
        c.due("q by 60 of 61", Check.rope(x, 1, 3), 1);
        x = Check.told("ship x 0;law pull day;law twist day;");
        for (int day : new int[] {0, 1, 200}) {
            c.due("day", x.law(2, 0), day);
            x.go(day == 1 ? 199 : 1);
        }
        for (int i = 0; i < 43; i++) {
            x.go(200);
        }
        x.go(199);
        c.due("the last day", x.law(2, 0), 9000);
        x = gone("maker m 0 0;rope p m 9 0;ship x 0;rig p x;sail x 1 3;law wear day;", 1);
        c.due("9 - 1 - 2", x.ahead(2, 4, 0), 6);
        c.due("9 - 1 - 2 - 3", x.ahead(3, 4, 0), 3);
        x.go(3);
        c.due("by DAYS", x.ship(0, 4), 3);
    }

    private static void value(String e, long due) {
        c.due(e, Check.told("ship x 7;law pull " + e + ";").law(2, 0), due);
    }

    private static void values() {
        c.part("ERROR: / by 0, a value above 10 to the 12 or below 0 by more than that");
        long most = 1000000000000L;
        String million = "(1000*1000)";
        String whole = million + "*" + million;
        value(whole, most);
        value(whole + "+0", most);
        value(whole + "+1", ERROR);
        value(whole + "-1", most - 1);
        value("0-" + whole, -most);
        value("0-" + whole + "-0", -most);
        value("0-" + whole + "-1", ERROR);
        value("1-" + whole, 1 - most);
        value("(0-" + million + ")*" + million, -most);
        value("(0-" + million + ")*(0-" + million + ")", most);
        value("(1000*1000+1)*" + million, ERROR);
        value("(0-1000*1000-1)*" + million, ERROR);
        value("(" + whole + ")*1", most);
        value("(" + whole + ")*2", ERROR);
        value("(" + whole + ")*(0-1)", -most);
        value("(" + whole + ")*(0-2)", ERROR);
        value("(" + whole + ")*0", 0);
        value("0*(" + whole + ")", 0);
        value("(" + whole + ")+(" + whole + ")", ERROR);
        value("(" + whole + ")-(" + whole + ")", 0);
        value("0-(" + whole + ")-(" + whole + ")", ERROR);
        // Products that a long would wrap: to the 18 it holds them, to the 24 it doesn't.
        value("(" + whole + ")*" + million, ERROR);
        value("(" + whole + ")*(" + whole + ")", ERROR);
        value("(0-" + whole + ")*(" + whole + ")", ERROR);
        value("(0-" + whole + ")*(0-" + whole + ")", ERROR);
        // An ERROR inside is one of the whole, whatever is done with it.
        value("(" + whole + "+1)*0", ERROR);
        value("0*(" + whole + "+1)", ERROR);
        value("(" + whole + "+1)-1", ERROR);
        value("(" + whole + "+1)/2", ERROR);
        value("(" + whole + "+1)>0", ERROR);
        value("not(1/0)", ERROR);
        value("1 or 1/0", ERROR);
        value("1/0 or 1", ERROR);
        value("0 and 1/0", ERROR);
        value("1/0 and 0", ERROR);
        c.part("/ is cut towards 0");
        value("0/5", 0);
        value("4/5", 0);
        value("5/5", 1);
        value("9/5", 1);
        value("(0-4)/5", 0);
        value("(0-5)/5", -1);
        value("(0-9)/5", -1);
        value("9/(0-5)", -1);
        value("(0-9)/(0-5)", 1);
        value("5/0", ERROR);
        value("0/0", ERROR);
        value("5/(sound-7)", ERROR);
        value("(" + whole + ")/1", most);
        value("(" + whole + ")/(0-1)", -most);
        c.part("comparisons, and, or, not are 1 or 0 (what isn't 0 is as 1)");
        value("(0-1) and 2", 1);
        value("(0-1) or 0", 1);
        value("not(0-1)", 0);
        value("not 0", 1);
        value("0 and 0", 0);
        value("0 and 1", 0);
        value("1 and 0", 0);
        value("0 or 0", 0);
        value("(2>1)+(2>1)", 2);
        String[] signs = {"<", "<=", "=", "<>", ">=", ">"};
        for (int a = 4; a <= 6; a++) {
            boolean[] due = {a < 5, a <= 5, a == 5, a != 5, a >= 5, a > 5};
            for (int i = 0; i < signs.length; i++) {
                value(a + signs[i] + "5", due[i] ? 1 : 0);
                value("(0-5)" + signs[i] + "(0-" + a + ")", due[i] ? 1 : 0);
            }
        }
    }

    private static void asItGoes() {
        c.part("AS IT GOES: it is STORMY, if storm is 50 at least");
        String text = "maker m 0 0;rope p m 20 0;rope q m 1 0;ship x 10;rig p x;sail x 0 9;law wear 1+stormy;law twist yards+stormy;storm ";
        for (int storm : new int[] {0, 1, 49, 50, 99, 100}) {
            RopeWalk x = Check.told(text + storm + ";");
            int stormy = storm >= 50 ? 1 : 0;
            c.due("of law() at " + storm, x.law(1, 0), 1 + stormy);
            c.due("of twist at " + storm, x.law(0, 0), 20 + stormy);
            c.due("of AHEAD at " + storm, x.ahead(1, 4, 0), 19);
            c.due("of LOSES at " + storm, x.loses(0), stormy == 1 ? 2 : -2);
            x.go(1);
            c.due("of a DAY's twist at " + storm, Check.rope(x, 1, 3), 1 + stormy);
            c.due("of mending at " + storm, x.mend(1), 1 + stormy);
        }
    }

    private static void rope() {
        c.part("6: IndexOutOfBoundsException: no such ROPE. NoSuchElementException: no such what");
        RopeWalk x = allKinds();
        int[][] due = {{0, 9, 1, 4, 0}, {0, 9, 2, 0, 1}, {0, 9, 3, 39, 2}, {0, 1, 2, 0, 0}, {0, 5, 0, 0, -2}, {0, 7, 1, 37, -2}};
        for (int rope = 0; rope < 6; rope++) {
            for (int what = 0; what < 5; what++) {
                c.due("rope(" + rope + ", " + what + ")", Check.rope(x, rope, what), due[rope][what]);
            }
            c.due("rope(" + rope + ", 5)", Check.rope(x, rope, 5), Check.NO_SUCH);
            for (int far : FAR) {
                c.due("rope(" + rope + ", " + far + ")", Check.rope(x, rope, far), Check.NO_SUCH);
            }
        }
        for (int what = 0; what < 5; what++) {
            c.due("rope(6, " + what + ")", Check.rope(x, 6, what), Check.OUT_OF_BOUNDS);
            for (int far : FAR) {
                c.due("rope(" + far + ", " + what + ")", Check.rope(x, far, what), Check.OUT_OF_BOUNDS);
            }
        }
        leaves("rope()", ALL_KINDS, 2, y -> {
            Check.rope(y, 6, 0);
            Check.rope(y, -1, 0);
            Check.rope(y, 0, 5);
            Check.rope(y, 0, -1);
        });
    }

    private static void ship() {
        c.part("7: NONE: no such ones");
        RopeWalk x = allKinds();
        int[][] due = {{0, 0, 0, 1, 4, 2, 9}, {0, 1, 7, 0, 0, 0, 2}, {99, 2, 0, 0, 0, 0, 4}, {5, 0, 0, 0, 0, 0, 0}};
        for (int ship = 0; ship < 4; ship++) {
            for (int what = 0; what < 7; what++) {
                c.due("ship(" + ship + ", " + what + ")", x.ship(ship, what), due[ship][what]);
            }
            c.due("ship(" + ship + ", 7)", x.ship(ship, 7), -1);
            for (int far : FAR) {
                c.due("ship(" + ship + ", " + far + ")", x.ship(ship, far), -1);
            }
        }
        for (int what = -1; what <= 7; what++) {
            c.due("ship(4, " + what + ")", x.ship(4, what), -1);
            for (int far : FAR) {
                c.due("ship(" + far + ", " + what + ")", x.ship(far, what), -1);
            }
        }
    }

    private static void maker() {
        c.part("8: NONE: no such ones");
        RopeWalk x = Check.told("maker a 1 2;maker b 3 4;");
        for (int maker = 0; maker < 2; maker++) {
            c.due("maker(" + maker + ", 0)", x.maker(maker, 0), 1 + 2 * maker);
            c.due("maker(" + maker + ", 1)", x.maker(maker, 1), 2 + 2 * maker);
            c.due("maker(" + maker + ", 2)", x.maker(maker, 2), -1);
            for (int far : FAR) {
                c.due("maker(" + maker + ", " + far + ")", x.maker(maker, far), -1);
            }
        }
        for (int what = 0; what < 2; what++) {
            c.due("maker(2, " + what + ")", x.maker(2, what), -1);
            for (int far : FAR) {
                c.due("maker(" + far + ", " + what + ")", x.maker(far, what), -1);
            }
        }
    }

    private static void law() {
        c.part("9: Long.MIN_VALUE: an ERROR, no such law, no such one; of a ROPE, whatever became of it");
        String laws = "law twist 100+yards;law pull 200+sound;";
        RopeWalk x = gone(ALL_KINDS + laws, 2);
        int[] yards = {9, 9, 9, 1, 5, 7};
        for (int rope = 0; rope < 6; rope++) {
            c.due("law(0, " + rope + ")", x.law(0, rope), 100 + yards[rope]);
            c.due("law(1, " + rope + ")", x.law(1, rope), 35);
        }
        int[] load = {0, 0, 99, 5};
        for (int ship = 0; ship < 4; ship++) {
            c.due("law(2, " + ship + ")", x.law(2, ship), 200 + load[ship]);
        }
        c.due("law(0, 6)", x.law(0, 6), ERROR);
        c.due("law(1, 6)", x.law(1, 6), ERROR);
        c.due("law(2, 4)", x.law(2, 4), ERROR);
        for (int far : FAR) {
            for (int what = 0; what < 3; what++) {
                c.due("law(" + what + ", " + far + ")", x.law(what, far), ERROR);
            }
            c.due("law(" + far + ", 0)", x.law(far, 0), ERROR);
        }
        c.due("law(3, 0)", x.law(3, 0), ERROR);
        x = allKinds();
        c.due("not told: twist", x.law(0, 0), ERROR);
        c.due("not told: pull", x.law(2, 0), ERROR);
        x = gone(ALL_KINDS + "law twist 1/day;law pull 0-1000*1000*1000*1000;", 0);
        c.due("an ERROR", x.law(0, 0), ERROR);
        x.go(1);
        c.due("none", x.law(0, 0), 1);
        c.due("the least value", x.law(2, 0), -1000000000000L);
    }

    private static void rig() {
        c.part("10: BEAR then; -2: it can't be (as said); NONE: no such ones");
        RopeWalk x = allKinds();
        c.due("made, in none", x.rig(5, 3), 37);
        c.due("to come, in none", x.rig(4, 3), 37);
        c.due("in a ship now", x.rig(5, 0), -2);
        x = allKinds();
        c.due("to come alone", x.rig(4, 3), 0);
        String[] why = {"in a ship in harbour", "in one at sea", "lost", "broken, in a ship"};
        for (int rope = 0; rope < 4; rope++) {
            for (int ship = 0; ship < 4; ship++) {
                c.due(why[rope] + " into " + ship, x.rig(rope, ship), -2);
            }
        }
        c.due("into one at sea", x.rig(5, 1), -2);
        c.due("into a lost one", x.rig(5, 2), -2);
        c.due("taken out", x.takeOut(3), true);
        c.due("broken, in none", x.rig(3, 0), -2);
        c.due("mended", x.mend(3), 31);
        c.due("made again", x.rig(3, 3), 31);
        for (int far : FAR) {
            c.due("rig(" + far + ", 0)", x.rig(far, 0), -1);
            c.due("rig(5, " + far + ")", x.rig(5, far), -1);
        }
        c.due("rig(6, 0)", x.rig(6, 0), -1);
        c.due("rig(5, 4)", x.rig(5, 4), -1);
        c.due("no such SHIP of one that can't be", x.rig(0, 4), -1);
        c.due("no such ROPE into one at sea", x.rig(6, 1), -1);
        leaves("rig()", ALL_KINDS, 2, y -> {
            for (int rope = 0; rope < 4; rope++) {
                for (int ship = 0; ship < 4; ship++) {
                    y.rig(rope, ship);
                }
            }
            y.rig(4, 1);
            y.rig(4, 2);
            y.rig(5, 0);
            y.rig(6, 0);
            y.rig(-1, 0);
            y.rig(4, 4);
            y.rig(4, -1);
        });
    }

    private static void takeOut() {
        c.part("11: false: no such ROPE, in none, the SHIP isn't in HARBOUR");
        RopeWalk x = allKinds();
        c.due("made", x.takeOut(0), true);
        c.due("in none then", x.takeOut(0), false);
        c.due("at sea", x.takeOut(1), false);
        c.due("lost", x.takeOut(2), false);
        c.due("broken", x.takeOut(3), true);
        c.due("broken still", Check.rope(x, 3, 2), 2);
        c.due("to come, in none", x.takeOut(4), false);
        x.rig(4, 3);
        c.due("to come", x.takeOut(4), true);
        c.due("to come still", Check.rope(x, 4, 2), 0);
        c.due("made, in none", x.takeOut(5), false);
        c.due("takeOut(6)", x.takeOut(6), false);
        for (int far : FAR) {
            c.due("takeOut(" + far + ")", x.takeOut(far), false);
        }
        x = gone("maker m 0 0;rope p m 9 5;rope q m 9 5;ship x 1;ship y 0;rig p x;rig q y;sail x 0 1;sail y 0 9;", 1);
        c.due("to come, in a lost ship", x.takeOut(0), false);
        c.due("to come, in one at sea", x.takeOut(1), false);
        x.go(5);
        c.due("made in a lost ship", x.takeOut(0), false);
        leaves("takeOut()", ALL_KINDS, 2, y -> {
            y.takeOut(1);
            y.takeOut(2);
            y.takeOut(4);
            y.takeOut(6);
            y.takeOut(-1);
        });
    }

    private static void mend() {
        c.part("12: SOUND; -2: it can't be (as said; TO COME, LOST); NONE: no such ROPE");
        RopeWalk x = allKinds();
        c.due("made, in one in harbour", x.mend(0), 39);
        c.due("broken, in one in harbour", x.mend(3), 31);
        c.due("made then", Check.rope(x, 3, 2), 1);
        c.due("broken, in one at sea", x.mend(1), -2);
        c.due("lost", x.mend(2), -2);
        c.due("to come", x.mend(4), -2);
        c.due("made, in none", x.mend(5), 37);
        c.due("mend(6)", x.mend(6), -1);
        for (int far : FAR) {
            c.due("mend(" + far + ")", x.mend(far), -1);
        }
        x = allKinds();
        x.takeOut(3);
        c.due("broken, in none", x.mend(3), 31);
        x = gone("maker m 0 0;rope p m 9 5;rope q m 9 0;ship x 1;ship y 0;rig p x;rig q y;sail x 0 1;sail y 0 9;", 6);
        c.due("made, in a lost ship", x.mend(0), -2);
        c.due("made, in one at sea", x.mend(1), -2);
        leaves("mend()", ALL_KINDS, 2, y -> {
            y.mend(1);
            y.mend(2);
            y.mend(4);
            y.mend(6);
            y.mend(-1);
        });
        String twist = "maker m 2 3;rope p m 9 0;ship x 0;rig p x;sail x 0 1;law twist ";
        c.due("0", gone(twist + "5-day*5;", 1).mend(0), 0);
        c.due("below 0", gone(twist + "5-day*9;", 1).mend(0), 0);
        c.due("999", gone(twist + "5+day*994;", 1).mend(0), 999);
        c.due("more", gone(twist + "5+day*995;", 1).mend(0), 999);
        c.due("with an ERROR", gone(twist + "5/(1-day);", 1).mend(0), 39);
        c.due("bear with its own sound", gone(twist + "5+bear*2;", 1).mend(0), 5 + 2 * 4);
        c.due("a broken one has no part in bear", gone(twist + "1+bear*2;", 1).mend(0), 1);
    }

    private static void sail() {
        c.part("13: BEAR; -2: it isn't in HARBOUR; NONE: no such ones");
        for (int days = 1; days <= 30; days += 29) {
            RopeWalk x = allKinds();
            c.due("sail(0, " + days + ")", x.sail(0, days), 4);
            c.due("days", x.ship(0, 2), days);
            c.due("at sea", x.sail(0, days), -2);
            c.due("without ropes", x.sail(3, days), 0);
        }
        RopeWalk x = allKinds();
        c.due("at sea", x.sail(1, 1), -2);
        c.due("lost", x.sail(2, 1), -2);
        c.due("sail(4, 1)", x.sail(4, 1), -1);
        c.due("sail(0, 0)", x.sail(0, 0), -1);
        c.due("sail(0, 31)", x.sail(0, 31), -1);
        for (int far : FAR) {
            c.due("sail(0, " + far + ")", x.sail(0, far), -1);
            c.due("sail(" + far + ", 1)", x.sail(far, 1), -1);
        }
        c.due("no such days of one at sea", x.sail(1, 0), -1);
        c.due("no such days of a lost one", x.sail(2, 31), -1);
        leaves("sail()", ALL_KINDS, 2, y -> {
            y.sail(1, 1);
            y.sail(2, 30);
            y.sail(4, 1);
            y.sail(-1, 1);
            y.sail(0, 0);
            y.sail(0, 31);
        });
        c.part("13: this DAY is the first");
        x = Check.told("ship x 0;ship y 1;");
        x.sail(0, 1);
        x.sail(1, 30);
        x.go(1);
        c.due("home", x.ship(0, 3), 1);
        c.due("lost", x.ship(1, 1), 2);
    }

    private static void go() {
        c.part("14: so many DAYS (0 .. 200): which one it is; NONE, and none does: no such number, behind 9000");
        RopeWalk x = Check.told(ALL_KINDS);
        c.due("go(0)", x.go(0), 0);
        c.due("go(1)", x.go(1), 1);
        c.due("go(200)", x.go(200), 201);
        c.due("go(201)", x.go(201), -1);
        for (int far : FAR) {
            c.due("go(" + far + ")", x.go(far), -1);
        }
        c.due("none did", x.count(5), 201);
        for (int i = 0; i < 43; i++) {
            x.go(200);
        }
        c.due("DAY 8801", x.count(5), 8801);
        c.due("200 would be behind 9000", x.go(200), -1);
        c.due("none did", x.count(5), 8801);
        c.due("199 are not", x.go(199), 9000);
        c.due("none more", x.go(1), -1);
        c.due("nor 200", x.go(200), -1);
        c.due("nor below 0", x.go(-1), -1);
        c.due("0 are", x.go(0), 9000);
        c.due("it is asked still", x.ahead(200, 0, 0), 1);
        c.due("rigging", x.rig(5, 3), 37);
        c.due("a go that does not go leaves what can be undone", x.go(1), -1);
        c.due("1", x.count(16), 1);
        leaves("go()", ALL_KINDS, 2, y -> {
            y.go(201);
            y.go(-1);
            y.go(0);
            y.go(Integer.MAX_VALUE);
            y.go(Integer.MIN_VALUE);
        });
    }
}
