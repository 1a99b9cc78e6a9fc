import java.math.BigInteger;

/** Each sentence of '==== 3' and of promises 15 to 33 that names a boundary. */
public final class EdgeAskTest {
    private static final int[] FAR = {Integer.MIN_VALUE, -2, -1, 1000, Integer.MAX_VALUE};
    private static final String LONGEST = "maker m 0 0;rope p m 40 0;ship x 12;rig p x;sail x 99 30;";
    private static final Check c = new Check();

    public static void main(String[] args) {
        ahead();
        loses();
        homes();
        weakest();
        splice();
        exact();
        allotOfFive();
        allotBorne();
        allotOrder();
        game();
        putOffDays();
        putOffSets();
        haul();
        calm();
        seen();
        seenFull();
        struck();
        knownBy();
        evens();
        ask();
        chance();
        tried();
        allFull();
        questionsChangeNothing();
        oneBehindAnother();
        c.end();
    }

    private static RopeWalk gone(String text, int days) {
        RopeWalk x = Check.told(text);
        x.go(days);
        return x;
    }

    private static void ahead() {
        c.part("15: AHEAD (n 0 .. 200), NONE: no such ones");
        // x comes home on DAY 2, y is lost on DAY 3, q breaks on DAY 1, one is refused on DAY 1.
        RopeWalk x = Check.told("maker m 0 0;rope p m 9 0;rope q m 2 0;ship x 0;ship y 5;rig p x;rig q x;sail x 0 3;sail x 1 1;sail y 3 1;");
        int[][] due = {{0, 0, 0, 0, 0}, {0, 0, 0, 0, 9}, {0, 0, 1, 1, 7}, {0, 1, 1, 1, 6}, {1, 1, 1, 1, 6}, {1, 1, 1, 1, 6}};
        for (int n = 0; n <= 5; n++) {
            for (int what = 0; what <= 4; what++) {
                c.due("ahead(" + n + ", " + what + ", 0)", x.ahead(n, what, 0), due[n][what]);
            }
        }
        for (int what = 0; what <= 4; what++) {
            c.due("ahead(200, " + what + ", 0)", x.ahead(200, what, 0), due[5][what]);
            c.due("ahead(201, " + what + ", 0)", x.ahead(201, what, 0), -1);
            c.due("ahead(-1, " + what + ", 0)", x.ahead(-1, what, 0), -1);
            for (int far : FAR) {
                c.due("the ship isn't looked at of all but 4", x.ahead(4, what, far), what == 4 ? -1 : due[4][what]);
                c.due("ahead(" + far + ", " + what + ", 0)", x.ahead(far, what, 0), -1);
            }
            c.due("ship 2", x.ahead(4, what, 2), what == 4 ? -1 : due[4][what]);
        }
        c.due("the last ship", x.ahead(4, 4, 1), 0);
        c.due("ahead(0, 5, 0)", x.ahead(0, 5, 0), -1);
        for (int far : FAR) {
            c.due("ahead(0, " + far + ", 0)", x.ahead(0, far, 0), -1);
        }
        x = gone(LONGEST, 0);
        c.due("on the last day of the longest voyage", x.ahead(129, 0, 0), 1);
        c.due("a day ahead of it", x.ahead(128, 0, 0), 0);
        RopeWalk none = new RopeWalk();
        for (int what = 0; what <= 3; what++) {
            c.due("of nothing, " + what, none.ahead(200, what, 0), 0);
        }
        c.due("of no ship", none.ahead(200, 4, 0), -1);
        x.go(200);
        c.due("LOST then, those that are so, too", x.ahead(0, 0, 0), 1);
        x = gone("ship x 0;ship y 0;sail x 0 1;sail y 0 1;sail x 0 1;sail x 3 1;sail x 3 1;", 2);
        c.due("two came home", x.count(11), 2);
        c.due("none more", x.ahead(1, 1, 0), 0);
        c.due("one more by then", x.ahead(2, 1, 0), 1);
        c.due("one was refused", x.count(12), 1);
        c.due("none more", x.ahead(1, 3, 0), 0);
        c.due("one more by then", x.ahead(2, 3, 0), 1);
    }

    private static void loses() {
        c.part("16: LOSES: (1: this one) .. (0: it is); -2: not by then; NONE: no such SHIP");
        RopeWalk x = Check.told(LONGEST);
        c.due("the last day there can be", x.loses(0), 129);
        x.go(128);
        c.due("this one", x.loses(0), 1);
        x.go(1);
        c.due("it is", x.loses(0), 0);
        c.due("loses(1)", x.loses(1), -1);
        for (int far : FAR) {
            c.due("loses(" + far + ")", x.loses(far), -1);
        }
        c.due("borne by 1 more", Check.told(LONGEST.replace("40", "41")).loses(0), -2);
        c.due("never sails", Check.told("ship x 999;").loses(0), -2);
        x = Check.told("ship x 999;ship y 1;ship z 1;sail z 0 1;");
        x.sail(1, 30);
        c.due("by call, this one", x.loses(1), 1);
        c.due("by a voyage, this one", x.loses(2), 1);
        c.due("no ships", new RopeWalk().loses(0), -1);
    }

    private static void homes() {
        c.part("17: HOMES; -2: not by then, LOST; NONE: no such SHIP");
        RopeWalk x = Check.told("ship x 0;ship y 0;ship z 1;sail x 99 30;sail z 0 1;");
        c.due("the last day there can be", x.homes(0), 129);
        c.due("never sails", x.homes(1), -2);
        c.due("lost ahead of it", x.homes(2), -2);
        x.sail(1, 1);
        c.due("this one", x.homes(1), 1);
        x.go(1);
        c.due("not once more", x.homes(1), -2);
        c.due("lost", x.homes(2), -2);
        x.sail(1, 30);
        c.due("once more", x.homes(1), 30);
        x.go(127);
        c.due("in 1", x.homes(0), 1);
        x.go(1);
        c.due("not again", x.homes(0), -2);
        c.due("homes(3)", x.homes(3), -1);
        for (int far : FAR) {
            c.due("homes(" + far + ")", x.homes(far), -1);
        }
        c.due("no ships", new RopeWalk().homes(0), -1);
    }

    private static void weakest() {
        c.part("18: WEAKEST; -2: there is none; NONE: no such SHIP");
        String text = "maker m 0 0;rope a m 5 0;rope b m 4 0;rope d m 4 0;rope e m 3 9;rope f m 1 0;rope g m 2 0;ship x 0;ship y 0;ship z 9;"
                + "rig a x;rig b x;rig d x;rig e x;rig f x;rig g z;sail x 0 1;sail z 0 1;";
        RopeWalk x = Check.told(text);
        c.due("all to come", x.weakest(0), -2);
        c.due("without ropes", x.weakest(1), -2);
        x.go(1);
        c.due("the first of several; not the broken one, not the one to come", x.weakest(0), 1);
        c.due("all lost", x.weakest(2), -2);
        x.mend(1);
        c.due("4 and 3", x.weakest(0), 2);
        x.mend(2);
        c.due("all 4", x.weakest(0), 0);
        x.mend(0);
        x.go(9);
        c.due("made on DAY 9", x.weakest(0), 3);
        c.due("weakest(3)", x.weakest(3), -1);
        for (int far : FAR) {
            c.due("weakest(" + far + ")", x.weakest(far), -1);
        }
        c.due("no ships", new RopeWalk().weakest(0), -1);
    }

    private static final String EIGHT = "maker m 0 0;rope a m 99 0;rope b m 99 0;rope d m 99 0;rope e m 99 0;rope f m 99 0;rope g m 99 0;"
            + "rope h m 99 0;rope i m 99 0;ship x 0;";

    private static void splice() {
        c.part("19: SPLICE (n 1 .. 792); -2: by none; NONE: no such ones");
        RopeWalk x = gone(EIGHT, 1);
        c.due("splice(1, 0)", x.splice(1, 0), 1);
        c.due("splice(1, 1)", x.splice(1, 1), 98);
        c.due("splice(99, 0)", x.splice(99, 0), 1);
        c.due("splice(99, 1)", x.splice(99, 1), 0);
        c.due("splice(100, 0)", x.splice(100, 0), 3);
        c.due("splice(100, 1)", x.splice(100, 1), 98);
        c.due("splice(693, 0)", x.splice(693, 0), 127);
        c.due("splice(694, 0)", x.splice(694, 0), 255);
        c.due("splice(792, 0)", x.splice(792, 0), 255);
        c.due("splice(792, 1)", x.splice(792, 1), 0);
        c.due("splice(793, 0)", x.splice(793, 0), -1);
        c.due("splice(0, 0)", x.splice(0, 0), -1);
        for (int far : FAR) {
            c.due("splice(" + far + ", 0)", x.splice(far, 0), -1);
            c.due("splice(1, " + far + ")", x.splice(1, far), -1);
        }
        c.due("splice(1, 2)", x.splice(1, 2), -1);
        x.rig(7, 0);
        c.due("by none", x.splice(694, 0), -2);
        c.due("by none", x.splice(694, 1), -2);
        c.due("by all that are in none", x.splice(693, 1), 0);
        x.rig(0, 0);
        c.due("not one in a ship, for 1 neither", x.splice(1, 0), 2);
        c.due("for 1", x.splice(1, 1), 98);
        RopeWalk none = new RopeWalk();
        c.due("no ropes", none.splice(1, 0), -2);
        c.due("no ropes", none.splice(792, 1), -2);
        c.due("no ropes, no such n", none.splice(793, 1), -1);
        c.due("to come", Check.told(EIGHT).splice(1, 0), -2);
        x = gone("maker m 0 0;rope a m 3 0;rope b m 3 0;rope d m 2 0;rope e m 4 0;", 1);
        c.due("fewest, then least yards, then least bits", x.splice(6, 0), 1 | 2);
        c.due("least yards ahead of least bits", x.splice(5, 0), 1 | 4);
        c.due("fewest ahead of least yards", x.splice(4, 0), 8);
    }

    private static void exact() {
        c.part("20: EXACT (n 0 .. 792; nothing is one of 0); NONE: no such n");
        RopeWalk x = gone(EIGHT, 1);
        int[] sets = {1, 8, 28, 56, 70, 56, 28, 8, 1};
        for (int many = 0; many <= 8; many++) {
            c.due("exact(" + 99 * many + ")", x.exact(99 * many), sets[many]);
            c.due("one more", x.exact(99 * many + 1), many == 8 ? -1 : 0);
            c.due("one less", x.exact(99 * many - 1), many == 0 ? -1 : 0);
        }
        for (int far : FAR) {
            c.due("exact(" + far + ")", x.exact(far), -1);
        }
        c.due("nothing is one of 0", new RopeWalk().exact(0), 1);
        c.due("of nothing", new RopeWalk().exact(1), 0);
        c.due("of nothing", new RopeWalk().exact(792), 0);
        c.due("to come", Check.told(EIGHT).exact(99), 0);
    }

    private static void allotted(RopeWalk x, int... due) {
        for (int what = 0; what < 10; what++) {
            c.due("allot(" + what + ")", x.allot(what), due[what]);
        }
    }

    private static void allotOfFive() {
        c.part("21: the first 5 MADE ROPES in no SHIP; what 0 .. 9; NONE for another what");
        String six = "maker m 0 0;rope a m 1 0;rope b m 2 0;rope d m 3 0;rope e m 4 0;rope f m 5 0;rope g m 50 0;";
        RopeWalk x = gone(six + "ship x 15;", 1);
        allotted(x, 0, 0, 0, 0, 0, -2, -2, -2, 1, 15);
        x = gone(six + "ship x 16;", 1);
        allotted(x, -2, -2, -2, -2, -2, -2, -2, -2, 0, 0);
        x = gone(six + "ship x 16;ship y 0;rig a y;", 1);
        allotted(x, -2, -2, -2, -2, -2, 0, -2, -2, 2, 50);
        x = gone(six.replace("rope a m 1 0", "rope a m 1 9") + "ship x 50;", 1);
        allotted(x, -2, -2, -2, -2, -2, 0, -2, -2, 1, 50);
        for (int far : FAR) {
            c.due("allot(" + far + ")", x.allot(far), -1);
        }
        c.due("allot(10)", x.allot(10), -1);
        allotted(new RopeWalk(), -2, -2, -2, -2, -2, -2, -2, -2, 0, 0);
        allotted(gone(six, 1), -2, -2, -2, -2, -2, -2, -2, -2, 0, 0);
        allotted(gone("ship x 0;ship y 1;ship z 0;", 1), -2, -2, -2, -2, -2, -2, -2, -2, 2, 0);
        x = gone(six + "ship x 1;ship y 2;ship z 3;ship v 4;ship w 5;", 1);
        allotted(x, 0, 1, 2, 3, 4, -2, -2, -2, 5, 15);
    }

    private static void allotBorne() {
        c.part("21: BEAR of their LOAD at least then, those none is put into, too; of SHIPS in HARBOUR");
        String text = "maker m 0 0;rope a m 9 0;rope b m 9 0;ship x 18;ship y 9;rig a x;";
        RopeWalk x = gone(text, 1);
        allotted(x, -2, 0, -2, -2, -2, -2, -2, -2, 1, 9);
        x = gone(text.replace("18", "19"), 1);
        allotted(x, -2, 1, -2, -2, -2, -2, -2, -2, 1, 9);
        x = gone(text.replace("18", "9"), 1);
        allotted(x, -2, 1, -2, -2, -2, -2, -2, -2, 2, 9);
        x.sail(1, 1);
        allotted(x, -2, -2, -2, -2, -2, -2, -2, -2, 1, 0);
        x.sail(0, 1);
        allotted(x, -2, -2, -2, -2, -2, -2, -2, -2, 0, 0);
        x = gone("maker m 0 0;rope a m 9 0;ship x 5;ship y 9;sail x 0 1;", 1);
        c.due("x is lost", x.ship(0, 1), 2);
        allotted(x, 1, -2, -2, -2, -2, -2, -2, -2, 1, 9);
    }

    private static void allotOrder() {
        c.part("21: then that SOUND put in is least, of several the first by ROPES (SHIPS by numbers, none is last)");
        RopeWalk x = gone("maker m 0 0;rope a m 7 0;rope b m 6 0;rope d m 6 0;ship x 6;", 1);
        allotted(x, -2, 0, -2, -2, -2, -2, -2, -2, 1, 6);
        x = gone("maker m 0 0;rope a m 6 0;rope b m 6 0;ship x 6;ship y 6;ship z 6;", 1);
        allotted(x, 0, 1, -2, -2, -2, -2, -2, -2, 2, 12);
        x = gone("maker m 0 0;rope a m 9 0;rope b m 9 0;rope d m 9 0;ship x 99;ship y 5;law twist 0;", 1);
        allotted(x, 0, 0, 0, -2, -2, -2, -2, -2, 0, 0);
        x = gone("maker m 0 0;rope a m 5 0;rope b m 6 0;ship x 6;ship y 5;", 1);
        allotted(x, 1, 0, -2, -2, -2, -2, -2, -2, 2, 11);
    }

    private static void played(String text, int days, int wins, int rope, int yards) {
        RopeWalk x = gone(text, days);
        c.due("game(0) of " + text, x.game(0), wins);
        c.due("game(1) of " + text, x.game(1), rope);
        c.due("game(2) of " + text, x.game(2), yards);
    }

    private static void game() {
        c.part("22: GAME (of no ROPES the other one); -2: who begins can't win; NONE for another what");
        played("", 0, 1, -2, -2);
        played("maker m 0 0;rope a m 9 1;", 1, 1, -2, -2);
        played("maker m 0 0;rope a m 1 0;", 1, 0, 0, 1);
        played("maker m 0 0;rope a m 99 0;", 1, 0, 0, 99);
        played("maker m 0 0;rope a m 1 0;rope b m 1 0;", 1, 1, -2, -2);
        played("maker m 0 0;rope a m 1 0;rope b m 1 0;rope d m 1 0;", 1, 0, 0, 1);
        played("maker m 0 0;rope a m 98 0;rope b m 99 0;", 1, 0, 1, 1);
        played("maker m 0 0;rope a m 64 0;rope b m 99 0;", 1, 0, 1, 35);
        played("maker m 0 0;rope a m 1 0;rope b m 2 0;rope d m 3 0;", 1, 1, -2, -2);
        played("maker m 0 0;rope a m 2 0;rope b m 2 0;ship x 0;rig a x;", 1, 1, -2, -2);
        played("maker m 0 0;rope a m 2 0;rope b m 2 5;", 1, 0, 0, 2);
        // One BROKEN, one LOST: they are not paid out.
        played("maker m 0 0;rope a m 1 0;rope b m 2 0;rope d m 5 0;ship x 0;ship y 9;rig a x;rig b y;sail x 0 1;sail y 0 1;", 1, 0, 2, 5);
        RopeWalk x = gone("maker m 0 0;rope a m 9 0;", 1);
        c.due("game(3)", x.game(3), -1);
        for (int far : FAR) {
            c.due("game(" + far + ")", x.game(far), -1);
        }
    }

    private static void putOffDays() {
        c.part("23: VOYAGES of this DAY or later; no SHIP would be LOST in 60 DAYS; -2: a SHIP is LOST already, or would be");
        c.due("nothing told", new RopeWalk().putOff(), 0);
        c.due("no voyages", Check.told("ship x 9;").putOff(), 0);
        c.due("lost on the 60th", Check.told("ship x 9;sail x 59 1;").putOff(), 1);
        c.due("lost on the 61st", Check.told("ship x 9;sail x 60 1;").putOff(), 0);
        c.due("lost on the 99th", Check.told("ship x 9;sail x 98 1;").putOff(), 0);
        RopeWalk x = gone("ship x 9;sail x 60 1;", 1);
        c.due("from DAY 1 on it is the 60th", x.putOff(), 1);
        x.go(59);
        c.due("of this DAY", x.putOff(), 1);
        x.go(1);
        c.due("lost", x.putOff(), -2);
        // Lost on the 60th and on the 61st DAY, the voyage having begun ahead.
        String worn = "maker m 0 0;rope p m 10 0;ship x 10;rig p x;sail x 59 2;";
        c.due("lost on its second, the 61st", Check.told(worn).putOff(), 0);
        c.due("lost on its second, the 60th", Check.told(worn.replace("59 2", "58 2")).putOff(), 1);
        // One that sails already can't be put off.
        x = gone("maker m 0 0;rope p m 10 0;ship x 10;rig p x;sail x 0 2;sail x 1 1;", 1);
        c.due("at sea already, lost without all", x.putOff(), -2);
        x = Check.told("ship x 1;sail x 0 1;");
        c.due("ahead of it", x.putOff(), 1);
        x.sail(0, 1);
        c.due("by call it is lost without", x.putOff(), -2);
        x.undo();
        c.due("undone", x.putOff(), 1);
        x = gone("ship x 1;ship y 0;sail x 0 1;", 1);
        c.due("one is lost already, no voyage left", x.putOff(), -2);
    }

    private static void putOffSets() {
        c.part("23: the fewest (bits by their numbers, of several the least), those that are REFUSED, too");
        c.due("all ten", Check.told("ship x 1;" + "sail x 5 1;".repeat(10)).putOff(), 1023);
        c.due("the tenth", Check.told("ship x 0;ship y 1;" + "sail x 5 1;".repeat(9) + "sail y 5 1;").putOff(), 512);
        c.due("of five ships", Check.told("ship a 1;ship b 1;ship d 1;ship e 0;ship f 1;sail f 0 1;sail e 0 1;sail d 0 1;sail b 0 1;"
                + "sail a 0 1;").putOff(), 1 | 4 | 8 | 16);
        // Sound 12, LOAD 10: three DAYS at SEA can be borne.
        String three = "maker m 0 0;rope p m 12 0;ship x 10;rig p x;";
        c.due("three days", Check.told(three + "sail x 0 3;").putOff(), 0);
        c.due("four", Check.told(three + "sail x 0 4;").putOff(), 1);
        c.due("of 2, 1, 1 the least bits", Check.told(three + "sail x 0 2;sail x 3 1;sail x 5 1;").putOff(), 1);
        c.due("of 1, 1, 2 the least bits", Check.told(three + "sail x 0 1;sail x 3 1;sail x 5 2;").putOff(), 1);
        c.due("of 1, 1, 3 the fewest", Check.told(three + "sail x 0 1;sail x 3 1;sail x 5 3;").putOff(), 4);
        c.due("of 3, 3 either: the least bits", Check.told(three + "sail x 0 3;sail x 5 3;").putOff(), 1);
        c.due("without the first the refused one sails", Check.told(three + "sail x 0 4;sail x 1 4;").putOff(), 3);
        c.due("without the first the refused one is borne", Check.told(three + "sail x 0 4;sail x 1 3;").putOff(), 1);
    }

    private static void rests(String text, int... due) {
        RopeWalk x = Check.told(text);
        c.due("rests of " + text, x.rests(0, 1), due.length);
        for (int k = 0; k < 5; k++) {
            c.due("rest(" + k + ") of " + text, x.rest(0, 1, k), k < due.length ? due[k] : -2);
        }
        c.due("rest of " + text + " so many", x.rest(0, 1, Integer.MAX_VALUE), -2);
        c.due("rests turned", x.rests(1, 0), due.length);
    }

    private static void haul() {
        c.part("24, 25: HAUL: 9 less the difference; EVEN; EVEN and 1; half its EVEN, cut; REST: neither would have more otherwise");
        // Alike in THOUGHT both have 9: EVEN 8 and 1 is as much, EVEN 9 and 1 is more, EVEN 7 and 1 is less.
        rests("maker a 5 7;maker b 5 7;", 0);
        rests("maker a 5 8;maker b 5 8;", 0, 1, 10);
        rests("maker a 5 9;maker b 5 9;", 1, 10);
        rests("maker a 5 9;maker b 5 8;", 1, 10);
        // 0 when both haul; slacking has 1 beside EVEN 0, and none more of both slacking by EVEN 0 or 1.
        rests("maker a 0 0;maker b 9 0;", 1, 10, 11);
        rests("maker a 0 1;maker b 9 1;", 1, 10);
        rests("maker a 9 9;maker b 0 9;", 1, 10);
        // Both slack have half, cut: 0 of EVEN 1, as much as EVEN 0 hauls for alone.
        rests("maker a 0 0;maker b 9 1;", 1, 10);
        // 9 less 4 is 5: as much as EVEN 4 and 1.
        rests("maker a 0 4;maker b 4 4;", 0, 1, 10);
        rests("maker a 0 4;maker b 5 4;", 1, 10);
        rests("maker a 0 4;maker b 3 4;", 0);
        c.part("24: NONE: no such MAKERS, alike; 25: -2: there are no so many; NONE likewise, k is below 0");
        RopeWalk x = Check.told("maker a 1 1;maker b 1 1;maker d 1 1;maker e 1 1;maker f 1 1;maker g 2 3;");
        c.due("the last two", x.rests(4, 5) >= 0, true);
        c.due("the last and the first", x.rest(5, 0, 0) >= 0, true);
        c.due("rests(6, 0)", x.rests(6, 0), -1);
        c.due("rests(0, 6)", x.rests(0, 6), -1);
        c.due("rest(6, 0, 0)", x.rest(6, 0, 0), -1);
        c.due("rest(0, 6, 0)", x.rest(0, 6, 0), -1);
        for (int far : FAR) {
            c.due("rests(" + far + ", 0)", x.rests(far, 0), -1);
            c.due("rests(0, " + far + ")", x.rests(0, far), -1);
            c.due("rest(" + far + ", 0, 0)", x.rest(far, 0, 0), -1);
            c.due("rest(0, " + far + ", 0)", x.rest(0, far, 0), -1);
            c.due("rest(0, 1, " + far + ")", x.rest(0, 1, far), far < 0 ? -1 : -2);
        }
        for (int maker = 0; maker < 6; maker++) {
            c.due("alike", x.rests(maker, maker), -1);
            c.due("alike", x.rest(maker, maker, 0), -1);
        }
        c.due("no makers", new RopeWalk().rests(0, 1), -1);
        c.due("no makers", new RopeWalk().rest(0, 1, 0), -1);
        c.due("one maker", Check.told("maker a 1 1;").rests(0, 1), -1);
    }

    private static void calm() {
        c.part("26: CALM (n 0 .. 6) in least terms; NONE: no such ones");
        for (int storm = 0; storm <= 100; storm++) {
            RopeWalk x = Check.told("storm " + storm + ";");
            for (int n = 0; n <= 6; n++) {
                BigInteger above = BigInteger.valueOf(100 - storm).pow(n);
                BigInteger below = BigInteger.valueOf(100).pow(n);
                BigInteger common = above.gcd(below);
                c.due("calm(" + n + ", 0) of " + storm, x.calm(n, 0), above.divide(common).longValueExact());
                c.due("calm(" + n + ", 1) of " + storm, x.calm(n, 1), below.divide(common).longValueExact());
            }
            c.due("calm(7, 0)", x.calm(7, 0), -1);
            c.due("calm(-1, 1)", x.calm(-1, 1), -1);
        }
        RopeWalk x = Check.told("storm 100;");
        c.due("no days: 1 of 1", x.calm(0, 0), 1);
        c.due("never: 0 of 1", x.calm(6, 0), 0);
        c.due("never: 0 of 1", x.calm(6, 1), 1);
        c.due("calm(0, 2)", x.calm(0, 2), -1);
        for (int far : FAR) {
            c.due("calm(" + far + ", 0)", x.calm(far, 0), -1);
            c.due("calm(0, " + far + ")", x.calm(0, far), -1);
        }
    }

    /** x is LOST on a DAY by EVEN 0 .. 4. */
    private static String lostOn(int day) {
        return "maker m 0 7;maker n 0 7;rope p m 1 0;ship x 45;ship y 45;rig p x;sail x " + day + " 1;";
    }

    private static void seen() {
        c.part("27: behind so many DAYS 1 .. 60; its number; NONE: no such ones");
        RopeWalk x = Check.told(lostOn(0));
        for (int days : new int[] {0, 61, -1, 62, 200, Integer.MIN_VALUE, Integer.MAX_VALUE}) {
            c.due("see(" + days + ", 0)", x.see(days, 0, false), -1);
        }
        for (int far : FAR) {
            c.due("see(1, " + far + ")", x.see(1, far, false), -1);
        }
        c.due("see(1, 2)", x.see(1, 2, false), -1);
        c.due("none was", x.count(14), 0);
        c.due("see(1, 0)", x.see(1, 0, false), 0);
        c.due("see(60, 1)", x.see(60, 1, false), 1);
        c.due("two were", x.count(14), 2);
        c.due("no ships", new RopeWalk().see(1, 0, true), -1);
        c.part("SEEN behind so many DAYS a SHIP was LOST, or wasn't");
        for (int day : new int[] {0, 1, 58, 59, 60}) {
            for (int days : new int[] {1, 2, 59, 60}) {
                boolean isBehind = days > day;
                x = Check.told(lostOn(day));
                x.see(days, 0, true);
                c.due("lost on " + day + " behind " + days, x.evens(0), isBehind ? 31 : 0);
                x = Check.told(lostOn(day));
                x.see(days, 0, false);
                c.due("not lost on " + day + " behind " + days, x.evens(0), isBehind ? 992 : 1023);
            }
        }
    }

    private static void seenFull() {
        c.part("27, 28: SEEN, at most 24, numbered from 0 on; NONE: .. or there are 24");
        RopeWalk x = Check.told(lostOn(0));
        for (int i = 0; i < 24; i++) {
            c.due("the next", i % 3 == 2 ? x.strike(i - 1) : x.see(1 + i, 1, false), i);
            c.due("count(14)", x.count(14), i + 1);
            c.due("count(15), by all", x.count(15), i + 1);
        }
        String ahead = Look.of(x);
        c.due("a 25th", x.see(1, 0, true), -1);
        c.due("a 25th strike", x.strike(0), -1);
        c.due("a 25th strike of the last", x.strike(23), -1);
        c.due("no such one", x.strike(24), -1);
        c.due("all as it was", Look.of(x).equals(ahead), true);
        c.due("known(24)", x.known(24), true);
        c.due("known(25)", x.known(25), false);
        c.due("count(15)", x.count(15), 24);
        c.due("told anew there is room", Check.tell(x, lostOn(0)), 7);
        c.due("the first", x.see(1, 0, true), 0);
    }

    private static void struck() {
        c.part("28: a STRIKE of one: NONE: no such one SEEN");
        RopeWalk x = Check.told(lostOn(0));
        c.due("of nothing", x.strike(0), -1);
        x.see(1, 0, true);
        c.due("the next", x.strike(1), -1);
        for (int far : FAR) {
            c.due("strike(" + far + ")", x.strike(far), -1);
        }
        c.due("none came", x.count(14), 1);
        c.due("evens", x.evens(0), 31);
        c.due("the first", x.strike(0), 1);
        c.due("evens", x.evens(0), 1023);
        c.part("a STRIKE may be STRUCK: then it doesn't count; asked from the last one on");
        for (int i = 1; i < 23; i++) {
            c.due("the last one", x.strike(i), i + 1);
            c.due("evens", x.evens(0), i % 2 == 1 ? 31 : 1023);
        }
        for (int n = 0; n <= 24; n++) {
            x.known(n);
            c.due("by the first " + n, x.evens(0), n % 2 == 1 ? 31 : 1023);
        }
        x = Check.told(lostOn(0));
        x.see(1, 0, true);
        x.strike(0);
        x.strike(0);
        x.strike(1);
        c.due("twice struck, one strike struck", x.evens(0), 1023);
        x.strike(2);
        c.due("both", x.evens(0), 31);
        x.strike(4);
        c.due("one again", x.evens(0), 1023);
    }

    private static void knownBy() {
        c.part("29: KNOWN by n from now on (-1: by all, also those to come): true; false: no such n");
        RopeWalk x = Check.told(lostOn(0));
        c.due("known(0) of none", x.known(0), true);
        c.due("known(1) of none", x.known(1), false);
        c.due("known(-1) of none", x.known(-1), true);
        c.due("known(-2)", x.known(-2), false);
        x.see(1, 0, true);
        x.see(1, 0, false);
        c.due("by all", x.evens(0), 0);
        c.due("by all two", x.count(15), 2);
        c.due("known(2)", x.known(2), true);
        c.due("by 2", x.evens(0), 0);
        c.due("known(3)", x.known(3), false);
        for (int far : new int[] {-2, 24, 25, Integer.MIN_VALUE, Integer.MAX_VALUE}) {
            c.due("known(" + far + ")", x.known(far), false);
        }
        c.due("2 still", x.count(15), 2);
        x.strike(1);
        c.due("the strike is to come by 2", x.evens(0), 0);
        c.due("known(1)", x.known(1), true);
        c.due("by 1", x.evens(0), 31);
        c.due("known(0)", x.known(0), true);
        c.due("by 0", x.evens(0), 1023);
        c.due("none known", x.count(15), 0);
        c.due("three seen", x.count(14), 3);
        c.due("known(3)", x.known(3), true);
        c.due("by 3", x.evens(0), 31);
        x.strike(2);
        c.due("by 3 still", x.evens(0), 31);
        c.due("known(-1)", x.known(-1), true);
        c.due("by all", x.evens(0), 0);
        x.strike(3);
        c.due("those to come", x.evens(0), 31);
        c.due("by all five", x.count(15), 5);
        c.due("known(-3)", x.known(-3), false);
        x.strike(4);
        c.due("by all still", x.evens(0), 0);
    }

    private static void evens() {
        c.part("30: EVENS (bits); NONE: no such MAKER");
        RopeWalk x = Check.told(lostOn(0));
        c.due("nothing seen", x.evens(0), 1023);
        c.due("the last maker", x.evens(1), 1023);
        c.due("evens(2)", x.evens(2), -1);
        for (int far : FAR) {
            c.due("evens(" + far + ")", x.evens(far), -1);
        }
        x.see(1, 0, true);
        c.due("not so by EVEN 7 told, whatever n's is", x.evens(1), 0);
        c.due("by m's 0 .. 4", x.evens(0), 31);
        c.due("no makers", new RopeWalk().evens(0), -1);
        // Sound 10 EVEN and 1: EVEN 9 alone bears 91, none bears 92, 0 bears 1.
        for (int load : new int[] {1, 2, 11, 12, 91, 92}) {
            x = Check.told("maker m 0 7;rope p m 1 0;ship x " + load + ";rig p x;sail x 0 1;");
            x.see(1, 0, false);
            int due = load == 1 ? 1023 : load <= 11 ? 1022 : load == 12 ? 1020 : load == 91 ? 512 : 0;
            c.due("LOAD " + load, x.evens(0), due);
        }
        c.part("30: as it goes from the TEXT on, nothing done by call");
        x = Check.told(lostOn(2) + "storm 50;");
        x.see(3, 0, true);
        int due = x.evens(0);
        c.due("in a storm 90: by all", due, 1023 - 512);
        x.takeOut(0);
        x.go(1);
        x.sail(1, 3);
        x.go(5);
        c.due("whatever goes on", x.evens(0), due);
        x.keep();
        x.back();
        c.due("and by an image", x.evens(0), due);
    }

    private static void ask() {
        c.part("31: ASK (n 1 .. 60); -2: there are none; NONE: no such ones");
        String five = "maker m 0 0;rope a m 1 0;rope b m 1 0;rope d m 1 0;rope e m 1 0;rope f m 1 0;ship u 15;ship v 55;ship w 45;ship x 45;"
                + "ship y 95;rig a u;rig b v;rig d w;rig e x;rig f y;sail u 0 1;sail v 0 1;sail w 1 1;sail x 1 1;sail y 59 1;";
        RopeWalk x = Check.told(five);
        c.due("behind 1: v tells 6 of 10", x.ask(0, 1, 0), 1);
        c.due("behind 1", x.ask(0, 1, 1), 6);
        c.due("behind 2: w and x halve it, the first", x.ask(0, 2, 0), 2);
        c.due("behind 2", x.ask(0, 2, 1), 5);
        c.due("behind 60", x.ask(0, 60, 0), 2);
        c.due("ask(0, 0, 0)", x.ask(0, 0, 0), -1);
        c.due("ask(0, 61, 0)", x.ask(0, 61, 0), -1);
        c.due("ask(0, 1, 2)", x.ask(0, 1, 2), -1);
        c.due("ask(1, 1, 0)", x.ask(1, 1, 0), -1);
        for (int far : FAR) {
            c.due("ask(" + far + ", 1, 0)", x.ask(far, 1, 0), -1);
            c.due("ask(0, " + far + ", 0)", x.ask(0, far, 0), -1);
            c.due("ask(0, 1, " + far + ")", x.ask(0, 1, far), -1);
        }
        x.see(2, 2, true);
        c.due("0 .. 4 left: u tells 2 of 5", x.ask(0, 1, 0), 0);
        c.due("3 at worst", x.ask(0, 1, 1), 3);
        x.see(1, 0, true);
        c.due("0, 1 left: none tells", x.ask(0, 60, 0), 0);
        c.due("2 at worst", x.ask(0, 60, 1), 2);
        x.see(60, 4, false);
        c.due("none left", x.evens(0), 0);
        c.due("SHIP 0", x.ask(0, 60, 0), 0);
        c.due("0", x.ask(0, 60, 1), 0);
        x.known(1);
        c.due("EVENS by KNOWN", x.ask(0, 1, 1), 3);
        x = Check.told("maker m 0 0;maker n 0 0;ship x 0;");
        c.due("none tells: the first", x.ask(1, 1, 0), 0);
        c.due("all ten", x.ask(1, 60, 1), 10);
        x = Check.told("maker m 0 0;");
        for (int what = 0; what <= 1; what++) {
            c.due("no ships", x.ask(0, 1, what), -2);
            c.due("no ships", x.ask(0, 60, what), -2);
            c.due("no ships, no such n", x.ask(0, 61, what), -1);
            c.due("no ships, no such maker", x.ask(1, 1, what), -1);
        }
        c.due("no makers, no ships", new RopeWalk().ask(0, 1, 0), -1);
        x = Check.told("maker m 0 5;rope p m 1 0;ship x 45;rig p x;sail x 59 2;");
        c.due("behind 59", x.ask(0, 59, 1), 10);
        c.due("behind 60", x.ask(0, 60, 1), 5);
    }

    /** A SHIP of which the last of n DAYS is its only one at SEA, lost by a storm: by numbers alone. */
    private static int stormsOnTheLast(long seed, int n, int storm) {
        BigInteger last = BigInteger.valueOf(seed);
        int found = 0;
        for (int i = 1; i <= 10 * n; i++) {
            last = last.multiply(BigInteger.valueOf(1103515245)).add(BigInteger.valueOf(12345)).mod(BigInteger.ONE.shiftLeft(31));
            int number = last.divide(BigInteger.valueOf(65536)).intValueExact();
            found += i % n == 0 && number % 100 < storm ? 1 : 0;
        }
        return found;
    }

    private static void chance() {
        c.part("32: numbers from a seed 0 .. 2147483647 on, one behind another; n 1 .. 99; NONE: no such ones");
        for (int n : new int[] {1, 2, 50, 98, 99}) {
            String text = "maker m 0 0;rope p m 15 0;ship x 10;ship y 0;rig p x;sail x " + (n - 1) + " 9;storm ";
            for (int storm : new int[] {0, 1, 30, 50, 99, 100}) {
                RopeWalk x = Check.told(text + storm + ";");
                for (int seed : new int[] {0, 1, 99999, 100000, 2147483646, 2147483647}) {
                    int due = storm % 100 == 0 ? storm / 10 : stormsOnTheLast(seed, n, storm);
                    c.due("chance(" + seed + ", " + n + ", 0) of " + storm, x.chance(seed, n, 0), due);
                }
                c.due("the other ship", x.chance(0, n, 1), 0);
            }
        }
        RopeWalk x = Check.told("ship x 1;ship y 1;sail x 98 1;storm 40;");
        c.due("lost on the 99th", x.chance(5, 99, 0), 10);
        c.due("not on the 98th", x.chance(5, 98, 0), 0);
        c.due("chance(5, 100, 0)", x.chance(5, 100, 0), -1);
        c.due("chance(5, 0, 0)", x.chance(5, 0, 0), -1);
        c.due("chance(-1, 1, 0)", x.chance(-1, 1, 0), -1);
        c.due("chance(5, 1, 2)", x.chance(5, 1, 2), -1);
        c.due("chance of the least int", x.chance(Integer.MIN_VALUE, 1, 0), -1);
        for (int far : FAR) {
            c.due("chance(5, " + far + ", 0)", x.chance(5, far, 0), -1);
            c.due("chance(5, 1, " + far + ")", x.chance(5, 1, far), -1);
        }
        c.due("no ships", new RopeWalk().chance(0, 1, 0), -1);
        x.go(98);
        c.due("from now", x.chance(5, 1, 0), 10);
        x.go(1);
        c.due("it is", x.chance(5, 99, 0), 10);
    }

    private static void tried() {
        c.part("33: TRIED (n 0 .. 200); NONE: no such ones (i 0 of all but 2)");
        RopeWalk x = Check.told("maker m 0 0;rope p m 20 0;ship x 12;ship y 9;rig p x;sail x 0 20;sail y 99 1;storm 49;");
        // x: never stormy lost by wear on its 10th DAY; always stormy at once. y: on DAY 99.
        int[][] due = {{0, 0, 0, 0, 0}, {0, 1, 0, 0, 0}, {0, 1, 0, 0, 0}};
        for (int what = 0; what <= 4; what++) {
            c.due("tried(" + what + ", 0, 0)", x.tried(what, 0, 0), due[0][what]);
            c.due("tried(" + what + ", 0, 1)", x.tried(what, 0, 1), due[1][what]);
            c.due("tried(" + what + ", 0, 9)", x.tried(what, 0, 9), due[2][what]);
            c.due("tried(" + what + ", 0, 201)", x.tried(what, 0, 201), -1);
            c.due("tried(" + what + ", 0, -1)", x.tried(what, 0, -1), -1);
            for (int far : FAR) {
                c.due("tried(" + what + ", 0, " + far + ")", x.tried(what, 0, far), -1);
                c.due("tried(" + what + ", " + far + ", 1)", x.tried(what, far, 1), -1);
            }
            c.due("tried(" + what + ", 1, 1)", x.tried(what, 1, 1), what == 2 ? 0 : -1);
            c.due("tried(" + what + ", 2, 1)", x.tried(what, 2, 1), -1);
        }
        int[] tenth = {1, 1, 0, 0, 0};
        int[] all = {2, 2, 1, 1, 1};
        for (int what = 0; what <= 4; what++) {
            c.due("tried(" + what + ", 0, 10)", x.tried(what, 0, 10), tenth[what]);
            c.due("tried(" + what + ", 0, 99)", x.tried(what, 0, 99), tenth[what]);
            c.due("tried(" + what + ", 0, 100)", x.tried(what, 0, 100), all[what]);
            c.due("tried(" + what + ", 0, 200)", x.tried(what, 0, 200), all[what]);
        }
        c.due("y never sails", x.tried(2, 1, 200), 1);
        c.due("tried(5, 0, 1)", x.tried(5, 0, 1), -1);
        for (int far : FAR) {
            c.due("tried(" + far + ", 0, 1)", x.tried(far, 0, 1), -1);
        }
        c.due("EVEN 9 bears as much", Check.told("maker m 0 0;rope p m 5 0;ship x 95;rig p x;sail x 0 1;").tried(4, 0, 1), 0);
        c.due("not 1 more", Check.told("maker m 0 0;rope p m 5 0;ship x 96;rig p x;sail x 0 1;").tried(4, 0, 1), 1);
        String even = "maker m 0 3;rope p m 5 0;ship x 9;rig p x;sail x 0 1;law twist even;";
        c.due("even is 9, too", Check.told(even).tried(4, 0, 1), 0);
        c.due("even is not 10", Check.told(even.replace("x 9", "x 10")).tried(4, 0, 1), 1);
        c.due("ROPES MADE already stay", gone(even.replace("sail x 0", "sail x 1"), 1).tried(4, 0, 1), 1);
        RopeWalk none = new RopeWalk();
        for (int what = 0; what <= 4; what++) {
            c.due("of nothing", none.tried(what, 0, 200), what == 2 ? -1 : 0);
        }
        x.go(200);
        for (int what = 0; what <= 4; what++) {
            c.due("those that are lost", x.tried(what, 0, 0), 2);
        }
    }

    /** As many of everything as may be, asked up to the last one of each. */
    private static void allFull() {
        c.part("as many of everything as may be");
        StringBuilder text = new StringBuilder();
        for (int i = 0; i < 6; i++) {
            text.append("maker ").append((char) ('a' + i)).append(" ").append(i).append(" ").append(i).append(";");
        }
        for (int i = 0; i < 8; i++) {
            text.append("rope ").append((char) ('a' + i)).append(" f ").append(11 + i).append(" 0;");
        }
        text.append("ship a 1;ship b 2;ship c 0;ship d 3;ship e 516;");
        for (int i = 0; i < 8; i++) {
            text.append("rig ").append((char) ('a' + i)).append(" e;");
        }
        RopeWalk x = gone(text + "sail e 99 30;".repeat(10), 1);
        c.due("weakest(4)", x.weakest(4), 0);
        c.due("ship(4, 4)", x.ship(4, 4), 516);
        c.due("ship(4, 5)", x.ship(4, 5), 5);
        c.due("ship(4, 6)", x.ship(4, 6), 255);
        c.due("rope(7, 3)", Check.rope(x, 7, 3), 68);
        c.due("game(0)", x.game(0), 0);
        c.due("game(1)", x.game(1), 5);
        c.due("game(2): 16 to 8", x.game(2), 8);
        allotted(x, -2, -2, -2, -2, -2, -2, -2, -2, 2, 0);
        c.due("borne on its first day, not on its second", x.loses(4), 100);
        c.due("not within 60", x.putOff(), 0);
        c.due("homes(4)", x.homes(4), -2);
        c.due("ahead(100, 0, 4)", x.ahead(100, 0, 4), 1);
        c.due("ahead(100, 3, 4): nine of the same DAY", x.ahead(100, 3, 4), 9);
        c.due("ahead(98, 4, 4)", x.ahead(98, 4, 4), 516);
        c.due("chance(1, 99, 4)", x.chance(1, 99, 4), 0);
        c.due("tried(2, 4, 200)", x.tried(2, 4, 200), 0);
        c.due("tried(3, 0, 200)", x.tried(3, 0, 200), 0);
        c.due("rests(5, 4)", x.rests(5, 4), x.rests(4, 5));
        c.due("evens(5)", x.evens(5), 1023);
        c.due("ask(5, 60, 0)", x.ask(5, 60, 0), 0);
        c.due("splice(1, 0)", x.splice(1, 0), -2);
        c.due("takeOut(7)", x.takeOut(7), true);
        allotted(x, -2, -2, -2, -2, -2, -2, -2, 0, 2, 68);
        c.due("splice(18, 0)", x.splice(18, 0), 128);
        c.due("exact(18)", x.exact(18), 1);
        x.go(40);
        c.due("lost on DAY 99, within 60 of DAY 41", x.putOff(), 1023);
        x.go(59);
        c.due("all eight, but the one in none", x.count(8), 7);
        c.due("lost", x.ship(4, 1), 2);
    }

    private static void questionsChangeNothing() {
        c.part("what is asked changes nothing");
        c.due("not an answer more", Look.isLeftAsItWas(x -> {
            Check.tell(x, Look.SMALL);
            x.go(1);
            x.see(3, 0, true);
            x.keep();
            x.rig(1, 1);
            x.sail(1, 3);
        }, x -> {
            for (int n : new int[] {-1, 0, 1, 7, 60, 200, 201}) {
                for (int what = 0; what <= 4; what++) {
                    x.ahead(n, what, 0);
                    x.tried(what, 0, n);
                }
                x.chance(n, n, 0);
                x.ask(0, n, 0);
                x.splice(n, 0);
                x.exact(n);
                x.calm(n, 0);
                x.loses(n);
                x.homes(n);
                x.weakest(n);
                x.allot(n);
                x.game(n);
                x.rests(0, n);
                x.rest(0, 1, n);
                x.evens(n);
                x.named(n, n);
                x.fault(n);
                x.law(0, n);
                x.law(n, 0);
                x.putOff();
            }
        }), true);
        c.due("refused SEEN, STRUCK, KNOWN", Look.isLeftAsItWas(x -> {
            Check.tell(x, Look.SMALL);
            x.go(1);
            x.see(3, 0, true);
            x.see(3, 0, false);
            x.known(1);
            x.keep();
            x.rig(1, 1);
        }, x -> {
            x.see(0, 0, true);
            x.see(61, 0, true);
            x.see(1, 2, true);
            x.see(1, -1, true);
            x.strike(2);
            x.strike(-1);
            x.known(3);
            x.known(-2);
        }), true);
    }

    /** Two ROPES TO COME, one BROKEN, SHIPS in HARBOUR and at SEA, all laws by stormy and even. */
    private static final String MANY_LAWS = "maker a 3 4;maker b 7 2;rope p a 20 0;rope q b 30 0;rope r b 5 2;rope s a 6 2;rope t a 1 0;"
            + "ship x 50;ship y 9;ship z 0;rig p x;rig r x;rig t z;sail z 0 1;sail x 1 4;sail x 3 2;sail y 6 1;"
            + "law twist even*9+yards+stormy*50;law wear 1+stormy*2+even;law pull sound+stormy*7;storm ";

    private static final int CALLS = 38;

    private static long call(RopeWalk x, int which) {
        switch (which) {
            case 0: return x.go(1);
            case 1: return x.mend(1);
            case 2: return x.mend(4);
            case 3: return x.law(0, 0);
            case 4: return x.law(1, 0);
            case 5: return x.law(2, 0);
            case 6: return x.ahead(3, 0, 0);
            case 7: return x.ahead(3, 4, 0);
            case 8: return x.ahead(3, 4, 2);
            case 9: return x.loses(0);
            case 10: return x.loses(1);
            case 11: return x.homes(0);
            case 12: return x.homes(2);
            case 13: return x.weakest(0);
            case 14: return x.splice(9, 0);
            case 15: return x.allot(1);
            case 16: return x.game(2);
            case 17: return x.putOff();
            case 18: return x.evens(0);
            case 19: return x.evens(1);
            case 20: return x.ask(0, 5, 1);
            case 21: return x.ask(1, 9, 0);
            case 22: return x.chance(77, 9, 0);
            case 23: return x.chance(78, 9, 1);
            case 24: case 25: case 26: case 27: case 28: return x.tried(which - 24, 0, 9);
            case 29: return x.tried(2, 1, 9);
            case 30: return x.see(5, 0, true);
            case 31: return x.keep();
            case 32: return x.back();
            case 33: return x.rig(1, 1);
            case 34: return x.sail(1, 2);
            case 35: return x.ship(0, 5);
            case 36: return x.ship(2, 5);
            default: return x.count(13);
        }
    }

    private static RopeWalk aheadOfBoth(int storm, boolean isEarly) {
        RopeWalk x = Check.told(MANY_LAWS + storm + ";");
        x.go(isEarly ? 0 : 2);
        x.see(2, 0, false);
        return x;
    }

    /** A question leaves no trace on the call right behind it, whichever that is. */
    private static void oneBehindAnother() {
        c.part("a call behind a question");
        for (int storm : new int[] {30, 60}) {
            for (int which = 0; which < CALLS; which++) {
                boolean isQuestion = which >= 3 && which <= 29 || which >= 35;
                for (int next = 0; isQuestion && next < CALLS; next++) {
                    for (boolean isEarly : new boolean[] {true, false}) {
                        RopeWalk with = aheadOfBoth(storm, isEarly);
                        RopeWalk without = aheadOfBoth(storm, isEarly);
                        call(with, which);
                        c.due("call " + next + " behind " + which, call(with, next), call(without, next));
                        c.due("all behind " + which + ", " + next, Look.of(with).equals(Look.of(without)), true);
                    }
                }
            }
        }
    }
}
