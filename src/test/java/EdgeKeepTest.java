import java.util.function.Consumer;

/** Each sentence of '==== 4' and of promises 34 to 37 that names a boundary, and that of 512 calls. */
public final class EdgeKeepTest {
    private static final int[] FAR = {Integer.MIN_VALUE, -2, -1, 17, 1000, Integer.MAX_VALUE};
    private static final String FLEET = "maker m 2 3;rope p m 9 0;rope q m 9 0;rope r m 1 0;rope s m 5 50;ship x 0;ship y 0;ship z 99;"
            + "rig p x;rig r y;sail y 0 1;sail z 1 1;sail y 2 1;storm 40;seed 3;law wear 33;";
    private static final Check c = new Check();

    public static void main(String[] args) {
        nothingToUndo();
        eachIsUndone();
        refusedIsNotCounted();
        twentyAtMost();
        noDayWentBy();
        noImage();
        inPlaceOfOneAhead();
        allIsAsInTheImage();
        butWhatWasSeen();
        nothingToUndoThen();
        countOfNothing();
        countFull();
        countOfAnother();
        calls512();
        c.end();
    }

    private static RopeWalk gone(String text, int days) {
        RopeWalk x = Check.told(text);
        x.go(days);
        return x;
    }

    private static void nothingToUndo() {
        c.part("34: how many are left; NONE: none");
        RopeWalk x = new RopeWalk();
        c.due("of a new object", x.undo(), -1);
        c.due("again", x.undo(), -1);
        x = Check.told(FLEET);
        c.due("behind a text", x.undo(), -1);
        x.rig(1, 0);
        c.due("one", x.undo(), 0);
        c.due("none", x.undo(), -1);
        x.rig(1, 0);
        c.due("one again", x.undo(), 0);
        c.due("none left as it was", Look.isLeftAsItWas(y -> {
            Check.tell(y, FLEET);
            y.go(1);
            y.keep();
        }, y -> {
            y.undo();
            y.undo();
        }), true);
    }

    /** What a call changes is as it was when it is undone. */
    private static void undone(String call, int days, Consumer<RopeWalk> change) {
        c.due(call, Look.isLeftAsItWas(x -> {
            Check.tell(x, FLEET);
            x.go(days);
            x.keep();
            x.rig(1, 1);
        }, x -> {
            String ahead = Look.of(x);
            change.accept(x);
            c.due(call + " changes something", Look.of(x).equals(ahead), false);
            c.due(call + " can be undone", x.count(16), 2);
            c.due(call + " is undone", x.undo(), 1);
        }), true);
    }

    private static void eachIsUndone() {
        c.part("Rigging, taking out, mending, sailing by call (ROPES, SOUND, SHIPS) can be undone");
        undone("rig one to come", 1, x -> x.rig(3, 0));
        undone("take out one made", 1, x -> x.takeOut(0));
        undone("take out one broken", 1, x -> x.takeOut(2));
        undone("take out one to come", 0, x -> x.takeOut(0));
        undone("mend one broken", 1, x -> x.mend(2));
        undone("mend one made", 1, x -> x.mend(0));
        undone("sail for 1", 1, x -> x.sail(0, 1));
        undone("sail for 30", 1, x -> x.sail(1, 30));
        c.part("the latest first");
        RopeWalk x = gone(FLEET, 1);
        x.takeOut(0);
        x.rig(0, 1);
        x.mend(2);
        x.sail(1, 5);
        c.due("the sailing", x.undo(), 3);
        c.due("in harbour", x.ship(1, 1), 0);
        c.due("no days", x.ship(1, 2), 0);
        c.due("mended still", Check.rope(x, 2, 2), 1);
        c.due("the mending", x.undo(), 2);
        c.due("broken", Check.rope(x, 2, 2), 2);
        c.due("its sound", Check.rope(x, 2, 3), 0);
        c.due("rigged still", Check.rope(x, 0, 4), 1);
        c.due("the rigging", x.undo(), 1);
        c.due("in none", Check.rope(x, 0, 4), -2);
        c.due("the taking out", x.undo(), 0);
        c.due("in its ship", Check.rope(x, 0, 4), 0);
    }

    private static void refusedIsNotCounted() {
        c.part("what can't be is nothing to undo");
        RopeWalk x = gone(FLEET, 2);
        x.rig(1, 0);
        x.rig(1, 0);
        x.rig(3, 2);
        x.rig(4, 0);
        x.rig(0, 9);
        x.takeOut(3);
        x.takeOut(9);
        x.mend(3);
        x.mend(-1);
        x.sail(2, 1);
        x.sail(0, 0);
        x.sail(0, 31);
        x.sail(3, 1);
        c.due("count(16)", x.count(16), 1);
        c.due("undo", x.undo(), 0);
    }

    private static void twentyAtMost() {
        c.part("the latest first (20 at most)");
        for (int many : new int[] {1, 19, 20, 21, 22, 40, 41}) {
            RopeWalk x = gone(FLEET, 1);
            boolean[] isIn = new boolean[many + 1];
            isIn[0] = true;
            for (int i = 1; i <= many; i++) {
                isIn[i] = !isIn[i - 1];
                c.due("changed", isIn[i] ? x.rig(0, 0) >= 0 : x.takeOut(0), true);
                c.due("count(16)", x.count(16), Math.min(i, 20));
            }
            int left = Math.min(many, 20);
            for (int i = many - 1; left > 0; i--) {
                left--;
                c.due("undo of " + many, x.undo(), left);
                c.due("as it was ahead of it", Check.rope(x, 0, 4), isIn[i] ? 0 : -2);
            }
            c.due("none of " + many, x.undo(), -1);
            c.due("the oldest ones stay", Check.rope(x, 0, 4), isIn[many - Math.min(many, 20)] ? 0 : -2);
            c.due("room again", x.mend(0), 39);
            c.due("count(16)", x.count(16), 1);
        }
    }

    private static void noDayWentBy() {
        c.part("if no DAY went by since");
        RopeWalk x = gone(FLEET, 1);
        x.rig(1, 0);
        c.due("go(0)", x.go(0), 1);
        c.due("go(201)", x.go(201), -1);
        c.due("go(-1)", x.go(-1), -1);
        c.due("none went by", x.count(16), 1);
        c.due("undo", x.undo(), 0);
        x.rig(1, 0);
        x.sail(0, 3);
        x.go(1);
        c.due("one did", x.count(16), 0);
        c.due("undo", x.undo(), -1);
        c.due("rigged still", Check.rope(x, 1, 4), 0);
        c.due("at sea still", x.ship(0, 1), 1);
        x.takeOut(2);
        c.due("since then", x.undo(), 0);
        c.due("not what was ahead", x.undo(), -1);
        // A text that is refused or has a FAULT is no DAY; one that is read leaves nothing to undo.
        x.takeOut(2);
        x.text(-1);
        Check.tell(x, "#");
        c.due("count(16)", x.count(16), 1);
        Check.tell(x, FLEET);
        c.due("count(16) behind a text", x.count(16), 0);
    }

    private static void noImage() {
        c.part("36: NONE: there is none");
        RopeWalk x = new RopeWalk();
        c.due("of a new object", x.back(), -1);
        c.due("keep()", x.keep(), 0);
        c.due("back()", x.back(), 0);
        x.text(0);
        c.due("behind a text", x.back(), -1);
        c.due("leaves all as it was", Look.isLeftAsItWas(y -> {
            Check.tell(y, FLEET);
            y.go(1);
            y.rig(1, 0);
        }, RopeWalk::back), true);
        x = gone(FLEET, 1);
        x.keep();
        Check.tell(x, "#");
        c.due("a FAULT leaves it", x.back(), 1);
        x.text(-1);
        c.due("a text that is refused, too", x.back(), 1);
    }

    private static void inPlaceOfOneAhead() {
        c.part("35: an IMAGE is kept (in place of one ahead): which DAY it is");
        RopeWalk x = Check.told(FLEET);
        c.due("keep()", x.keep(), 0);
        x.go(1);
        c.due("keep()", x.keep(), 1);
        x.go(5);
        c.due("back()", x.back(), 1);
        c.due("back() again", x.back(), 1);
        x.go(0);
        c.due("keep()", x.keep(), 1);
        for (int i = 0; i < 44; i++) {
            x.go(200);
        }
        x.go(199);
        c.due("keep() on DAY 9000", x.keep(), 9000);
        c.due("back() to it", x.back(), 9000);
        c.due("it is the last", x.go(1), -1);
        c.due("keeping changes nothing", Look.isLeftAsItWas(y -> {
            Check.tell(y, FLEET);
            y.go(1);
            y.rig(1, 0);
            y.keep();
        }, RopeWalk::keep), true);
    }

    private static void allIsAsInTheImage() {
        c.part("36: all is as in the IMAGE");
        for (int days = 0; days <= 6; days++) {
            RopeWalk x = gone(FLEET, days);
            x.rig(1, 0);
            x.mend(2);
            x.sail(0, 4);
            x.keep();
            RopeWalk y = gone(FLEET, days);
            y.rig(1, 0);
            y.mend(2);
            y.sail(0, 4);
            y.keep();
            // Only that nothing can be undone tells the image from what was kept.
            y.back();
            x.go(9);
            x.mend(0);
            x.takeOut(1);
            x.sail(1, 30);
            x.go(3);
            c.due("back()", x.back(), days);
            c.due("as kept on DAY " + days, Look.of(x).equals(Look.of(y)), true);
            c.due("and so are the numbers to come", sums(x).equals(sums(y)), true);
        }
    }

    private static String sums(RopeWalk x) {
        StringBuilder all = new StringBuilder();
        for (int day = 0; day < 12; day++) {
            x.go(1);
            all.append(x.count(13)).append(' ').append(x.count(10)).append(' ').append(x.count(11)).append(' ').append(x.count(12))
                    .append(';');
        }
        return all.toString();
    }

    private static void butWhatWasSeen() {
        c.part("36: all (but what was SEEN)");
        RopeWalk x = gone(FLEET, 1);
        x.see(2, 2, true);
        x.keep();
        x.see(1, 2, true);
        x.strike(0);
        c.due("back()", x.back(), 1);
        c.due("three stay", x.count(14), 3);
        c.due("the next one's number", x.see(1, 0, false), 3);
        c.due("the second is known still", x.evens(0), 0);
        x.back();
        c.due("four stay", x.count(14), 4);
        for (int i = 4; i < 24; i++) {
            x.see(1, 0, false);
        }
        x.back();
        c.due("24 stay", x.see(1, 0, false), -1);
        c.part("36: by how many it is KNOWN is of what was SEEN: from known() on, whatever the IMAGE");
        x = gone(FLEET, 1);
        x.see(2, 2, true);
        x.see(1, 2, true);
        x.known(0);
        x.keep();
        x.known(2);
        x.back();
        c.due("by 2", x.count(15), 2);
        x.keep();
        x.known(0);
        x.back();
        c.due("by 0", x.count(15), 0);
        c.due("all EVENS", x.evens(0), 1023);
        x.keep();
        x.known(-1);
        x.back();
        x.see(1, 0, false);
        c.due("by all, those that come behind it, too", x.count(15), 3);
    }

    private static void nothingToUndoThen() {
        c.part("36: nothing to undo then");
        RopeWalk x = gone(FLEET, 1);
        x.rig(1, 0);
        c.due("keep()", x.keep(), 1);
        c.due("what can be undone stays so", x.count(16), 1);
        x.sail(0, 2);
        c.due("both", x.count(16), 2);
        x.back();
        c.due("none", x.count(16), 0);
        c.due("undo()", x.undo(), -1);
        c.due("rigged as in the image", Check.rope(x, 1, 4), 0);
        c.due("in harbour as in the image", x.ship(0, 1), 0);
        x.takeOut(1);
        c.due("since then", x.undo(), 0);
        c.due("rigged again", Check.rope(x, 1, 4), 0);
    }

    private static void countOfNothing() {
        c.part("37: of nothing");
        for (RopeWalk x : new RopeWalk[] {new RopeWalk(), Check.told(" "), gone("seed 1;", 0)}) {
            for (int what = 0; what <= 16; what++) {
                c.due("count(" + what + ")", x.count(what), 0);
            }
        }
    }

    private static String eight(String line) {
        StringBuilder text = new StringBuilder();
        for (char name = 'a'; name < 'i'; name++) {
            text.append(line.replace('?', name));
        }
        return text.toString();
    }

    private static void counted(RopeWalk x, int what, int due) {
        c.due("count(" + what + ")", x.count(what), due);
    }

    private static void countFull() {
        c.part("37: full");
        String ropes = "maker m 0 0;" + eight("rope ? m 1 0;");
        RopeWalk x = gone(ropes + "law twist 999;", 1);
        counted(x, 6, 8);
        counted(x, 13, 7992);
        x = gone(ropes + "ship x 0;" + eight("rig ? x;") + "sail x 0 1;", 1);
        counted(x, 7, 8);
        counted(x, 6, 0);
        counted(x, 13, 0);
        x = gone(ropes + "ship x 9;" + eight("rig ? x;") + "sail x 0 1;", 1);
        counted(x, 8, 8);
        counted(x, 10, 1);
        counted(x, 13, 8);
        String ships = "ship a 0;ship b 0;ship d 0;ship e 0;ship f 0;";
        x = Check.told(ships + "sail a 0 9;sail b 0 9;sail d 0 9;sail e 0 9;sail f 0 9;sail a 1 1;sail b 1 1;sail d 1 1;sail e 1 1;sail f 1 1;");
        counted(x, 9, 0);
        x.go(1);
        counted(x, 9, 5);
        counted(x, 12, 0);
        x.go(1);
        counted(x, 12, 5);
        x.go(7);
        counted(x, 11, 5);
        counted(x, 9, 0);
        x = Check.told("ship x 0;" + "sail x 0 1;".repeat(10));
        x.sail(0, 30);
        x.go(1);
        counted(x, 12, 10);
        x.sail(0, 1);
        counted(x, 12, 10);
        x = gone(ships.replace('0', '1') + "sail a 0 1;sail b 0 1;sail d 0 1;sail e 0 1;sail f 0 1;", 1);
        counted(x, 10, 5);
        counted(x, 9, 0);
    }

    private static void countOfAnother() {
        c.part("37: NONE for another what");
        RopeWalk x = gone(FLEET, 1);
        for (int far : FAR) {
            c.due("count(" + far + ")", x.count(far), -1);
        }
        c.due("count(16)", x.count(16), 0);
        c.due("count(0)", x.count(0), 1);
    }

    /** An object is used for at most 512 calls: the last of them are answered as the first. */
    private static void calls512() {
        c.part("512 calls");
        RopeWalk x = new RopeWalk();
        int calls = 0;
        int day = 0;
        x.feed(0x73686970, 0x20782030, 0x3b202020, 0x20202020, 0x20202020);
        x.text(9);
        calls += 2;
        while (calls <= 512 - 5) {
            c.due("sail", x.sail(0, 1), 0);
            c.due("undo", x.undo(), 0);
            c.due("sail", x.sail(0, 1), 0);
            day++;
            c.due("go", x.go(1), day);
            c.due("home", x.ship(0, 3), day);
            calls += 5;
        }
        c.due("calls", calls <= 512, true);
        x = new RopeWalk();
        for (int i = 1; i <= 512; i++) {
            c.due("feed " + i, x.feed(0, 0, 0, 0, 0), i <= 35 ? 20 * i : -1);
        }
        x = new RopeWalk();
        for (int i = 0; i < 128; i++) {
            x.feed(0x73686970, 0x20782030 + i % 10, 0x3b202020, 0x20202020, 0x20202020);
            c.due("text", x.text(9), 1);
            c.due("load", x.ship(0, 0), i % 10);
            c.due("ships", x.count(2), 1);
        }
    }
}
