import java.lang.reflect.Constructor;
import java.lang.reflect.Field;
import java.lang.reflect.Method;
import java.lang.reflect.Modifier;
import java.util.TreeSet;

/** Each promise of the document, in its order, with answers worked out by hand. */
public final class PromiseTest {
    private static final String FLEET = "maker a 3 4;maker b 7 2;maker c 3 9;"
            + "rope p a 20 0;rope q b 30 0;rope r c 15 1;rope s a 5 0;rope t b 12 0;"
            + "ship x 50;ship y 100;ship z 40;rig p x;rig q y;rig r z;"
            + "sail x 1 3;sail y 1 2;sail x 2 1;sail z 3 2;seed 0;";
    private static final String LAWS = "maker a 2 5;maker b 6 1;rope p a 10 0;rope q b 40 0;ship x 30;rig p x;rig q x;"
            + "sail x 0 4;storm 30;law twist even * 8 + yards + think;law wear 4 + stormy * 9 + bear / 20;"
            + "law pull sound + think * 2 + stormy * 50;seed 0;";
    private static final Check c = new Check();

    public static void main(String[] args) {
        face();
        newObject();
        feed();
        text();
        textKeepsAllWithAFault();
        faults();
        faultsOfLaws();
        named();
        rope();
        ship();
        maker();
        law();
        lawSigns();
        lawsOfADay();
        rig();
        takeOut();
        mend();
        sail();
        go();
        storms();
        ahead();
        loses();
        homes();
        weakest();
        spliceAndExact();
        allot();
        game();
        gameByHand();
        putOff();
        haul();
        calm();
        seenStruckKnown();
        evensAndAsk();
        chance();
        tried();
        undo();
        images();
        count();
        nothingElseIsThrown();
        c.end();
    }

    private static void face() {
        c.part("face");
        c.due("NONE", RopeWalk.NONE, -1);
        TreeSet<String> names = new TreeSet<>();
        for (Method m : RopeWalk.class.getDeclaredMethods()) {
            if (!Modifier.isPrivate(m.getModifiers())) {
                names.add(m.getName());
            }
        }
        String due = "[ahead, allot, ask, back, calm, chance, count, evens, exact, fault, feed, game, go, homes, keep, known, "
                + "law, loses, maker, mend, named, putOff, rest, rests, rig, rope, sail, see, ship, splice, strike, takeOut, "
                + "text, tried, undo, weakest]";
        c.due("methods " + names, names.toString().equals(due), true);
        int fields = 0;
        for (Field f : RopeWalk.class.getDeclaredFields()) {
            fields += Modifier.isPrivate(f.getModifiers()) ? 0 : 1;
        }
        c.due("fields that are not private", fields, 1);
        Constructor<?>[] makers = RopeWalk.class.getDeclaredConstructors();
        c.due("constructors", makers.length, 1);
        c.due("the constructor is public", Modifier.isPublic(makers[0].getModifiers()), true);
        c.due("the class is final", Modifier.isFinal(RopeWalk.class.getModifiers()), true);
    }

    private static void newObject() {
        c.part("1 new object");
        RopeWalk x = new RopeWalk();
        for (int what = 0; what <= 16; what++) {
            c.due("count(" + what + ")", x.count(what), 0);
        }
        c.due("fault(0)", x.fault(0), 0);
        c.due("fault(1)", x.fault(1), -1);
        c.due("text(1)", x.text(1), -2);
        c.due("calm(6, 0)", x.calm(6, 0), 1);
        c.due("go(1)", x.go(1), 1);
        c.due("putOff()", x.putOff(), 0);
        c.due("feed", x.feed(0, 0, 0, 0, 0), 20);
    }

    private static void feed() {
        c.part("2 feed");
        RopeWalk x = new RopeWalk();
        for (int i = 1; i <= 35; i++) {
            c.due("feed " + i, x.feed(0x20202020, 0x0a200a20, 0x20202020, 0x20202020, 0x20202020), 20 * i);
        }
        c.due("feed 36", x.feed(0, 0, 0, 0, 0), -1);
        c.due("feed 37", x.feed(0, 0, 0, 0, 0), -1);
        c.due("text(701)", x.text(701), -2);
        c.due("text(700)", x.text(700), 0);
        c.due("feed again", x.feed(0x73686970, 0x20782031, 0x323b7368, 0x69702079, 0x20333bff), 20);
        c.due("text(19): ship x 12;ship y 3;", x.text(19), 2);
        c.due("ship(0, 0): the highest byte came first", x.ship(0, 0), 12);
        c.due("ship(1, 0)", x.ship(1, 0), 3);
        x.feed(0x73686970, 0x20782031, 0x323b7368, 0x69702079, 0x20333bff);
        c.due("text(20)", x.text(20), -1);
        c.due("fault(1): byte 255", x.fault(1), 19);
    }

    private static void text() {
        c.part("3 text");
        RopeWalk x = new RopeWalk();
        c.due("lines", Check.tell(x, FLEET), 19);
        c.due("text(0)", x.text(0), 0);
        c.due("count(1) behind a text without lines", x.count(1), 0);
        c.due("blanks only", Check.tell(x, " \n \n"), 0);
        c.due("tokens without blanks", Check.tell(x, "maker a1 2;ship\nb\n007 ;law pull not(1)<>2or 3;"), 3);
        c.due("maker(0, 1)", x.maker(0, 1), 2);
        c.due("ship(0, 0)", x.ship(0, 0), 7);
        c.due("text(-1)", x.text(-1), -2);
        x.feed(0x73686970, 0x20782031, 0x323b7368, 0x69702079, 0x20333b20);
        c.due("text(21)", x.text(21), -2);
        c.due("text(-1)", x.text(-1), -2);
        c.due("the tape stays", x.feed(0x20202020, 0x20202020, 0x20202020, 0x20202020, 0x20202020), 40);
        c.due("only the first n bytes", x.text(10), 1);
        c.due("the tape is empty", x.text(1), -2);
        c.due("one ship", x.count(2), 1);

        x = Check.told(FLEET + "storm 7;");
        x.go(1);
        x.keep();
        x.rig(3, 0);
        x.see(1, 0, true);
        x.known(0);
        c.due("told anew", Check.tell(x, FLEET), 19);
        c.due("count(5)", x.count(5), 0);
        c.due("count(6)", x.count(6), 0);
        c.due("rope(3, 4)", Check.rope(x, 3, 4), -2);
        c.due("count(14)", x.count(14), 0);
        c.due("see", x.see(1, 0, false), 0);
        c.due("all known", x.count(15), 1);
        c.due("back()", x.back(), -1);
        c.due("undo()", x.undo(), -1);
        c.due("calm(1, 0)", x.calm(1, 0), 1);
    }

    private static void textKeepsAllWithAFault() {
        c.part("3 text with a fault");
        RopeWalk x = Check.told(LAWS);
        x.go(2);
        x.keep();
        x.see(1, 0, true);
        x.see(1, 0, false);
        x.known(1);
        x.sail(0, 1);
        int undos = x.count(16);
        c.due("with a fault", Check.tell(x, "maker z 9 9;ship zz 1;storm 99;seed 5;law pull 1;law pull 2;"), -1);
        c.due("fault(0)", x.fault(0), 3);
        c.due("the tape is empty then", x.feed(0, 0, 0, 0, 0), 20);
        c.due("count(0)", x.count(0), 2);
        c.due("count(2)", x.count(2), 1);
        c.due("count(4)", x.count(4), 25);
        c.due("count(5)", x.count(5), 2);
        c.due("count(14)", x.count(14), 2);
        c.due("count(15)", x.count(15), 1);
        c.due("count(16)", x.count(16), undos);
        c.due("calm(1, 0)", x.calm(1, 0), 7);
        c.due("law(2, 0)", x.law(2, 0), 42);
        c.due("named(0, b)", x.named(0, Check.letters("b")), 1);
        c.due("back()", x.back(), 2);
    }

    private static void fault(String text, int kind, int place) {
        RopeWalk x = new RopeWalk();
        int lines = Check.tell(x, text);
        c.due("text " + text, lines < 0 ? -1 : 0, kind == 0 ? 0 : -1);
        c.due("fault(0) of " + text, x.fault(0), kind);
        c.due("fault(1) of " + text, x.fault(1), place);
    }

    private static void faults() {
        c.part("4 fault");
        String head = "maker a 1 1;rope p a 1 1;ship x 1;";
        fault(head, 0, -1);
        fault("ship x 1", 1, 8);
        fault("ship x 1  \n", 1, 11);
        fault(";", 1, 0);
        fault("ship x 1;;", 1, 9);
        fault("ship", 1, 4);
        fault("ship 1;", 1, 5);
        fault("ship ship 1;", 1, 5);
        fault("ship day 1;", 1, 5);
        fault("ship twist 1;", 1, 5);
        fault("ship abcdef 1;", 0, -1);
        fault("ship abcdefg 1;", 1, 5);
        fault("abcdefgh x 1;", 1, 0);
        fault("ship x y;", 1, 7);
        fault("ship X 1;", 1, 5);
        fault("ship\tx 1;", 1, 4);
        fault("ship x 1\r;", 1, 8);
        fault("ship x 1;\u00e9", 1, 9);
        fault("ship x -1;", 1, 7);
        fault("ship x 1 1;", 1, 9);
        fault("ship x 99999999999999999999999999;", 2, 7);
        fault("ship x 00000000000000000000000999;", 0, -1);
        fault("storm 100;seed 99999;", 0, -1);
        fault("storm 1;storm 200;", 3, 8);
        fault("seed 1;seed 1;", 3, 7);
        fault("seed;", 1, 4);
        fault(head + "rope q a 99 99;", 0, -1);
        fault(head + "rope q a 100 99;", 2, 43);
        fault(head + "rope q a 0 99;", 2, 43);
        fault(head + "rope q a 1 100;", 2, 45);
        fault(head + "rope q b 1 1;", 4, 41);
        fault(head + "rope q x 1 1;", 4, 41);
        fault(head + "rope a a 1 1;ship p 1;maker x 1 1;", 0, -1);
        fault(head + "rig p y;", 4, 40);
        fault(head + "rig x x;", 4, 38);
        fault(head + "rig p x;rig p x;", 3, 46);
        fault(head + "rig p x;rig p y;", 3, 46);
        fault(head + "rig p;", 1, 39);
        fault(head + "sail x 99 30;", 0, -1);
        fault(head + "sail x 0 0;", 2, 43);
        fault(head + "sail x 0 31;", 2, 43);
        fault(head + "sail x 100 1;", 2, 41);
        fault("maker a 9 9;", 0, -1);
        fault("maker a 10 9;", 2, 8);
        fault("maker a 9 10;", 2, 10);
        fault("seed 100000;", 2, 5);
        fault("storm 101;", 2, 6);
        fault("ship x 999;", 0, -1);
        fault("ship x 1000;", 2, 7);
        fault(head + "sail p 0 1;", 4, 39);
        fault(head + "maker a 10 1;", 3, 40);
        fault("maker a 1 1;maker b 1 1;maker c 1 1;maker d 1 1;maker e 1 1;maker f 1 1;maker", 2, 72);
        fault("ship a 1;ship b 1;ship c 1;ship d 1;ship e 1;ship 7;", 2, 45);
        fault("ship x 1;" + "sail x 0 1;".repeat(10), 0, -1);
        fault("ship x 1;" + "sail x 0 1;".repeat(10) + "sail y", 2, 119);
        fault("law law 1;", 1, 4);
        fault("law even 1;", 1, 4);
        fault("law pull 1;law wear 1;law twist 1;law wear", 3, 38);

        RopeWalk x = Check.told(FLEET);
        Check.tell(x, "ship x x;");
        c.due("fault(0)", x.fault(0), 1);
        c.due("text(-1)", x.text(-1), -2);
        c.due("a -2 leaves fault(0)", x.fault(0), 1);
        c.due("a -2 leaves fault(1)", x.fault(1), 7);
        c.due("fault(2)", x.fault(2), -1);
        c.due("fault(-1)", x.fault(-1), -1);
        Check.tell(x, "ship x 1;");
        c.due("fault(0) of one without", x.fault(0), 0);
        c.due("fault(1) of one without", x.fault(1), -1);
    }

    private static void faultsOfLaws() {
        c.part("4 fault of laws");
        fault("law pull 1 < 2 < 3;", 1, 15);
        fault("law pull 1 < 2 = 3;", 1, 15);
        fault("law pull (1 < 2) < 3;", 0, -1);
        fault("law pull 1 < 2 and 3 < 4 or 5 <> 6;", 0, -1);
        fault("law pull 1 + not 2;", 1, 13);
        fault("law pull 1 < not 2;", 1, 13);
        fault("law pull 1 + (not 2);", 0, -1);
        fault("law pull not not 1 and not 2 or not 3;", 0, -1);
        fault("law pull 1 not 2;", 1, 11);
        fault("law pull 1 2;", 1, 11);
        fault("law pull 1 even;", 1, 11);
        fault("law pull 1 (2);", 1, 11);
        fault("law pull () ;", 1, 10);
        fault("law pull (1;", 1, 11);
        fault("law pull 1);", 1, 10);
        fault("law pull (1", 1, 11);
        fault("law pull -1;", 1, 9);
        fault("law pull 1 + ;", 1, 13);
        fault("law pull 1 < = 2;", 1, 13);
        fault("law pull 1 =< 2;", 1, 12);
        fault("law pull 1 > < 2;", 1, 13);
        fault("law pull 1 >< 2;", 1, 12);
        fault("law pull 1 <>= 2;", 1, 13);
        fault("law pull 1 >= 2;law wear 1 <= 2;law twist 1<>2;", 0, -1);
        fault("law pull maker;", 1, 9);
        fault("law pull a;", 1, 9);
        fault("law pull 9999;", 0, -1);
        fault("law pull 10000;", 2, 9);
        fault("law pull ((((((((1))))))));", 0, -1);
        fault("law pull ((((((((1 ((;", 1, 19);
        fault("law pull ((((((((1))))))))+(((((((((2", 2, 35);
        fault("law pull 1 + (((((((( 1 + (", 2, 26);
        String ones = "1+".repeat(31) + "1";
        fault("law pull " + ones + "+1;", 2, 9 + 64);
        fault("law pull " + ones + ";law wear 1;", 0, -1);
        fault("law pull " + ones + ";law wear 1+1;", 2, 83);
        fault("law pull " + ones + ";law wear not(not", 2, 86);
        fault("law pull " + ones + ";law wear 1);", 1, 83);
    }

    private static void named() {
        c.part("5 named");
        RopeWalk x = Check.told("maker a 1 1;maker abcdef 1 1;maker zz 1 1;rope zz a 1 1;ship b 1;ship zz 1;");
        c.due("maker a", x.named(0, 1 << 25), 0);
        c.due("maker abcdef", x.named(0, Check.letters("abcdef")), 1);
        c.due("maker zz", x.named(0, 26 << 25 | 26 << 20), 2);
        c.due("rope zz", x.named(1, Check.letters("zz")), 0);
        c.due("ship zz", x.named(2, Check.letters("zz")), 1);
        c.due("ship a", x.named(2, Check.letters("a")), -1);
        c.due("rope b", x.named(1, Check.letters("b")), -1);
        c.due("a in the lowest bits", x.named(0, 1), -1);
        c.due("no letters", x.named(0, 0), -1);
        c.due("below 0", x.named(0, -1), -1);
        c.due("what 3", x.named(3, 1 << 25), -1);
        c.due("what -1", x.named(-1, 1 << 25), -1);
    }

    private static void rope() {
        c.part("6 rope");
        RopeWalk x = Check.told(FLEET);
        x.go(2);
        int[][] due = {{0, 20, 1, 59, 0}, {1, 30, 3, 50, 1}, {2, 15, 1, 105, 2}, {0, 5, 1, 45, -2}, {1, 12, 1, 32, -2}};
        for (int rope = 0; rope < 5; rope++) {
            for (int what = 0; what < 5; what++) {
                c.due("rope(" + rope + ", " + what + ")", Check.rope(x, rope, what), due[rope][what]);
            }
        }
        c.due("rope(5, 0)", Check.rope(x, 5, 0), Check.OUT_OF_BOUNDS);
        c.due("rope(-1, 0)", Check.rope(x, -1, 0), Check.OUT_OF_BOUNDS);
        c.due("rope(5, 5): the rope is looked at first", Check.rope(x, 5, 5), Check.OUT_OF_BOUNDS);
        c.due("rope(4, 5)", Check.rope(x, 4, 5), Check.NO_SUCH);
        c.due("rope(0, -1)", Check.rope(x, 0, -1), Check.NO_SUCH);
        x = Check.told("maker m 0 0;rope r m 2 1;ship s 0;rig r s;sail s 1 9;");
        c.due("to come", Check.rope(x, 0, 2), 0);
        c.due("sound of one to come", Check.rope(x, 0, 3), 0);
        x.go(2);
        c.due("made", Check.rope(x, 0, 2), 1);
        c.due("worn", Check.rope(x, 0, 3), 1);
        x.go(1);
        c.due("broken", Check.rope(x, 0, 2), 2);
        c.due("sound of a broken one", Check.rope(x, 0, 3), 0);
        c.due("it stays in its ship", Check.rope(x, 0, 4), 0);
    }

    private static void ship() {
        c.part("7 ship");
        RopeWalk x = Check.told("maker a 3 4;maker b 7 2;maker c 7 0;rope p a 20 0;rope q b 15 0;rope r c 5 0;rope s a 9 5;"
                + "ship x 50;ship y 999;ship z 0;rig p x;rig q x;rig r x;rig s x;sail x 0 3;sail y 0 1;");
        c.due("mood without made ropes", x.ship(0, 5), 0);
        c.due("bear without made ropes", x.ship(0, 4), 0);
        x.go(1);
        int[] due = {50, 1, 2, 0, 59 + 34 + 4, 3, 15};
        for (int what = 0; what < 7; what++) {
            c.due("ship(0, " + what + ")", x.ship(0, what), due[what]);
        }
        c.due("a lost one", x.ship(1, 1), 2);
        c.due("days of a lost one", x.ship(1, 2), 0);
        c.due("ropes of none", x.ship(1, 6), 0);
        x.go(2);
        c.due("in harbour", x.ship(0, 1), 0);
        c.due("no days left", x.ship(0, 2), 0);
        c.due("home once", x.ship(0, 3), 1);
        x.takeOut(0);
        c.due("mood without p: 20 yards by two makers of 7", x.ship(0, 5), 7);
        x.sail(0, 30);
        c.due("for 30 days", x.ship(0, 2), 30);
        c.due("ship(3, 0)", x.ship(3, 0), -1);
        c.due("ship(-1, 0)", x.ship(-1, 0), -1);
        c.due("ship(0, 7)", x.ship(0, 7), -1);
        c.due("ship(0, -1)", x.ship(0, -1), -1);
    }

    private static void maker() {
        c.part("8 maker");
        RopeWalk x = Check.told("maker a 3 4;maker b 0 9;");
        c.due("maker(0, 0)", x.maker(0, 0), 3);
        c.due("maker(0, 1)", x.maker(0, 1), 4);
        c.due("maker(1, 0)", x.maker(1, 0), 0);
        c.due("maker(1, 1)", x.maker(1, 1), 9);
        c.due("maker(2, 0)", x.maker(2, 0), -1);
        c.due("maker(-1, 0)", x.maker(-1, 0), -1);
        c.due("maker(0, 2)", x.maker(0, 2), -1);
        c.due("maker(0, -1)", x.maker(0, -1), -1);
    }

    private static final long ERROR = Long.MIN_VALUE;

    private static void law() {
        c.part("9 law");
        RopeWalk x = Check.told(LAWS);
        c.due("twist", x.law(0, 1), 54);
        c.due("wear", x.law(1, 1), 4);
        c.due("pull", x.law(2, 0), 30);
        c.due("law(0, 2)", x.law(0, 2), ERROR);
        c.due("law(1, -1)", x.law(1, -1), ERROR);
        c.due("law(2, 1)", x.law(2, 1), ERROR);
        c.due("law(3, 0)", x.law(3, 0), ERROR);
        c.due("law(-1, 0)", x.law(-1, 0), ERROR);
        x = Check.told("maker m 4 6;rope r m 7 0;rope s m 8 9;ship x 5;rig r x;storm 50;law pull 1;"
                + "law twist ((((yards*10+even)*10+think)*10+sound)*100+bear)*100+stormy*10+day;");
        c.due("no such law", x.law(1, 0), ERROR);
        c.due("twist ahead", x.law(0, 0), 76400010);
        x.go(2);
        c.due("sound is cut to 999", Check.rope(x, 0, 3), 999);
        c.due("law() is not cut, sound of twist is 0", x.law(0, 0), 76400012L + 99900);
        c.due("of a rope in none bear is 0", x.law(0, 1), 86400012L);
        x = Check.told("maker m 4 6;rope r m 7 0;ship x 20;rig r x;sail x 1 1;"
                + "law wear (((yards*10+even)*10+think)*1000+sound)*1000+bear;law pull ((even*10+think)*1000+sound)*1000+bear;");
        c.due("wear of one to come", x.law(1, 0), 764000000);
        x.go(1);
        c.due("wear", x.law(1, 0), 764067067);
        c.due("pull: even 0, think the mood, sound the load", x.law(2, 0), 4020067);
        x.go(1);
        c.due("lost: by pull 9999", x.ship(0, 1), 2);
        c.due("wear of a lost one: its sound stays, bear is 0", x.law(1, 0), 764067000);
        c.due("pull of a lost one: no mood", x.law(2, 0), 20000);
        x = Check.told("ship x 7;law pull yards+sound-90;");
        c.due("below 0", x.law(2, 0), -83);
    }

    private static void sign(String e, long want) {
        RopeWalk x = Check.told("ship x 7;law pull " + e + ";");
        c.due(e, x.law(2, 0), want);
    }

    private static void lawSigns() {
        c.part("9 signs");
        sign("2+3*4", 14);
        sign("(2+3)*4", 20);
        sign("10-3-2", 5);
        sign("100/10/5", 2);
        sign("7/2*2", 6);
        sign("(0-7)/2", -3);
        sign("7/(0-2)", -3);
        sign("(0-7)/(0-2)", 3);
        sign("1<2", 1);
        sign("2<2", 0);
        sign("2<=2", 1);
        sign("2=2", 1);
        sign("2=3", 0);
        sign("2<>2", 0);
        sign("2<>3", 1);
        sign("2>=3", 0);
        sign("3>=3", 1);
        sign("3>3", 0);
        sign("4>3", 1);
        sign("1+1<1*3", 1);
        sign("not 0", 1);
        sign("not 5", 0);
        sign("not not 5", 1);
        sign("not 1<0", 1);
        sign("(not 1)<0", 0);
        sign("not 0 and 0", 0);
        sign("1 or 0 and 0", 1);
        sign("(1 or 0) and 0", 0);
        sign("5 and 7", 1);
        sign("0 or 7", 1);
        sign("0 or 0", 0);
        sign("not 1 or 1", 1);
        sign("3 and 2 + 1 = 3", 1);
        sign("sound = 7", 1);
        sign("1/0", ERROR);
        sign("0/0", ERROR);
        sign("1 or 1/0", ERROR);
        sign("0 and 1/0", ERROR);
        sign("0*(1/0)", ERROR);
        sign("1000*1000*1000*1000", 1000000000000L);
        sign("1000*1000*1000*1000+1", ERROR);
        sign("0-1000*1000*1000*1000", -1000000000000L);
        sign("0-1000*1000*1000*1000-1", ERROR);
        sign("(0-1000*1000*1000)*1000", -1000000000000L);
        sign("9999*9999*9999*1", 999700029999L);
        sign("9999*9999*9999*2", ERROR);
        sign("(9999*9999*9999)*(9999*9999*9999)", ERROR);
        sign("(1000*1000*1000*1000)*(0-1000*1000*1000*1000)", ERROR);
        sign("(1000*1000*1000*1000+1)*0", ERROR);
        sign("(1000*1000*1000*1000)*0", 0);
        sign("0*(1000*1000*1000*1000)", 0);
        sign("(1000*1000*1000*1000)/(1000*1000*1000*1000)", 1);
        sign("((((((((5))))))))", 5);
        sign("not ".repeat(63) + "1", 0);
        sign("((((((((" + "not ".repeat(62) + "7))))))))", 1);
    }

    private static void lawsOfADay() {
        c.part("laws of a day");
        RopeWalk x = Check.told(LAWS);
        x.go(1);
        c.due("in a storm, by bear ahead", Check.rope(x, 0, 3), 34);
        c.due("in a storm, by bear as it is by then", Check.rope(x, 1, 3), 37);
        x.go(2);
        c.due("two days without", Check.rope(x, 0, 3), 21);
        c.due("two days without", Check.rope(x, 1, 3), 24);
        String plain = "maker m 0 1;rope r m 5 0;ship x 15;rig r x;sail x 0 1;storm 100;";
        x = Check.told(plain);
        x.go(1);
        c.due("pull in a storm is the load twice", x.ship(0, 1), 2);
        x = Check.told(plain + "law pull 15;");
        x.go(1);
        c.due("borne, worn by 3", Check.rope(x, 0, 3), 12);
        x = Check.told(plain + "law pull 16;");
        x.go(1);
        c.due("bear is less", x.ship(0, 1), 2);
        x = Check.told(plain + "law pull 0-9;law wear 0-9;");
        x.go(1);
        c.due("wear below 0 is 0", Check.rope(x, 0, 3), 15);
        x = Check.told(plain + "law pull 0;law wear 1000;law twist 9999;");
        x.go(1);
        c.due("twist 999 at most, wear 99 at most", Check.rope(x, 0, 3), 900);
        x = Check.told(plain + "law pull 1/0;law wear 1/0;law twist 30 + 0/(day + 1 - 1);");
        x.go(1);
        c.due("with an error twist is 15, pull 30", x.ship(0, 1), 2);
        x = Check.told(plain + "law pull 0;law wear 1/0;law twist 0-5;");
        x.go(1);
        c.due("twist below 0 is 0; wear with an error 3: broken", Check.rope(x, 0, 2), 2);
        x = Check.told(plain + "law pull 0;law wear 0;law twist 0;");
        x.go(1);
        c.due("sound 0, worn by 0, is broken", Check.rope(x, 0, 2), 2);
        x = Check.told(plain + "law twist stormy * 50;");
        x.go(1);
        c.due("stormy of twist", Check.rope(x, 0, 3), 47);
        x = Check.told("maker m 0 1;rope r m 5 0;rope s m 6 1;ship x 15;rig r x;rig s x;sail x 0 1;");
        x.go(2);
        c.due("made wherever its ship is", Check.rope(x, 1, 2), 1);
        x = Check.told("maker m 0 1;rope r m 5 0;rope s m 6 1;ship x 99;rig r x;rig s x;sail x 0 1;");
        x.go(2);
        c.due("lost", Check.rope(x, 0, 2), 3);
        c.due("one to come stays so, and is made", Check.rope(x, 1, 2), 1);
        c.due("bear of a lost ship", x.ship(0, 4), 16);
        x = Check.told("maker m 0 0;rope r m 1 0;rope s m 9 0;ship x 9;rig r x;rig s x;sail x 0 3;");
        x.go(2);
        c.due("lost with a broken rope", x.ship(0, 1), 2);
        c.due("a broken one stays so", Check.rope(x, 0, 2), 2);
        c.due("the other one is lost", Check.rope(x, 1, 2), 3);
        c.due("its sound stays", Check.rope(x, 1, 3), 8);
        x = Check.told("ship x 0;sail x 0 2;sail x 1 1;sail x 2 1;sail x 2 1;");
        x.go(3);
        c.due("refused at sea", x.count(12), 2);
        c.due("sails again when home", x.ship(0, 3), 2);
    }

    private static void rig() {
        c.part("10 rig");
        RopeWalk x = Check.told("maker m 0 1;rope p m 1 0;rope q m 2 5;rope r m 1 0;rope s m 3 0;ship x 0;ship y 0;ship z 99;"
                + "rig r y;sail y 0 9;sail z 0 1;law twist yards;");
        x.go(1);
        c.due("made", x.rig(3, 0), 3);
        c.due("to come", x.rig(1, 0), 3);
        c.due("made too", x.rig(0, 0), 4);
        c.due("in a ship", x.rig(0, 0), -2);
        x.takeOut(0);
        c.due("into one at sea", x.rig(0, 1), -2);
        c.due("into a lost one", x.rig(0, 2), -2);
        c.due("rig(4, 0)", x.rig(4, 0), -1);
        c.due("rig(-1, 0)", x.rig(-1, 0), -1);
        c.due("rig(0, 3)", x.rig(0, 3), -1);
        c.due("rig(0, -1)", x.rig(0, -1), -1);
        x = Check.told("maker m 0 0;rope p m 1 0;ship x 0;rig p x;sail x 0 1;");
        x.go(1);
        x.takeOut(0);
        c.due("a broken one", x.rig(0, 0), -2);
    }

    private static void takeOut() {
        c.part("11 takeOut");
        RopeWalk x = Check.told("maker m 0 0;rope p m 1 0;rope q m 9 0;rope r m 9 9;rope s m 9 0;ship x 0;ship y 9;ship z 10;"
                + "rig p x;rig q y;rig r x;rig s z;sail x 0 1;sail y 0 3;sail z 0 1;");
        x.go(1);
        c.due("broken", x.takeOut(0), true);
        c.due("to come", x.takeOut(2), true);
        c.due("in none", x.takeOut(0), false);
        c.due("at sea", x.takeOut(1), false);
        c.due("lost", x.takeOut(3), false);
        c.due("takeOut(4)", x.takeOut(4), false);
        c.due("takeOut(-1)", x.takeOut(-1), false);
        c.due("rope(2, 4)", Check.rope(x, 2, 4), -2);
    }

    private static void mend() {
        c.part("12 mend");
        RopeWalk x = Check.told("maker m 0 0;rope p m 1 0;rope q m 9 0;rope r m 9 9;rope s m 9 0;rope t m 7 0;ship x 0;ship y 9;"
                + "ship z 10;rig p x;rig q y;rig s z;sail x 0 1;sail y 0 3;sail z 0 1;");
        x.go(1);
        c.due("broken, in a ship in harbour", x.mend(0), 1);
        c.due("made then", Check.rope(x, 0, 2), 1);
        c.due("at sea", x.mend(1), -2);
        c.due("to come", x.mend(2), -2);
        c.due("lost", x.mend(3), -2);
        c.due("made, in none", x.mend(4), 7);
        c.due("mend(5)", x.mend(5), -1);
        c.due("mend(-1)", x.mend(-1), -1);
        x = Check.told("maker m 0 0;rope p m 1 0;rope q m 2 0;ship x 0;rig p x;rig q x;storm 50;seed 1;"
                + "law twist 10 + bear + stormy * 100 + day * 200;");
        x.go(1);
        c.due("p by bear 0, q by bear of p", x.ship(0, 4), 110 + 220);
        c.due("bear with its sound as it is ahead", x.mend(0), 10 + 330 + 100 + 200);
        c.due("once more, cut", x.mend(0), 999);
    }

    private static void sail() {
        c.part("13 sail");
        RopeWalk x = Check.told("maker m 0 1;rope p m 1 0;ship x 0;ship y 9;rig p x;sail x 1 1;sail y 0 1;");
        x.go(1);
        c.due("sail(0, 0)", x.sail(0, 0), -1);
        c.due("sail(0, 31)", x.sail(0, 31), -1);
        c.due("sail(2, 1)", x.sail(2, 1), -1);
        c.due("sail(-1, 1)", x.sail(-1, 1), -1);
        c.due("a lost one", x.sail(1, 1), -2);
        c.due("sail(0, 2)", x.sail(0, 2), 11);
        c.due("at sea", x.sail(0, 2), -2);
        c.due("at sea, no such days", x.sail(0, 0), -1);
        x.go(1);
        c.due("the voyage told is refused", x.count(12), 1);
        c.due("this day was the first", x.ship(0, 2), 1);
        x.go(1);
        c.due("home", x.ship(0, 3), 1);
    }

    private static void go() {
        c.part("14 go");
        RopeWalk x = Check.told(FLEET);
        c.due("go(0)", x.go(0), 0);
        c.due("go(-1)", x.go(-1), -1);
        c.due("go(201)", x.go(201), -1);
        c.due("none went by", x.count(5), 0);
        c.due("go(200)", x.go(200), 200);
        for (int i = 2; i <= 44; i++) {
            x.go(200);
        }
        c.due("go(199)", x.go(199), 8999);
        c.due("go(2)", x.go(2), -1);
        c.due("go(1)", x.go(1), 9000);
        c.due("go(1) behind 9000", x.go(1), -1);
        c.due("go(0) at 9000", x.go(0), 9000);
        c.due("ahead goes on", x.ahead(200, 0, 0), 1);
    }

    /** A day's storm is seen by what a ship in the middle of a long voyage loses. */
    private static void storms() {
        c.part("storms by numbers");
        RopeWalk x = Check.told("maker m 0 0;rope p m 1 0;ship x 0;rig p x;sail x 3 30;storm 40;seed 5;"
                + "law twist 999;law wear stormy;");
        long last = 5;
        int stormy = 0;
        for (int day = 0; day < 30; day++) {
            last = (last * 1103515245L + 12345L) % (1L << 31);
            stormy += day >= 3 && last / 65536 % 100 < 40 ? 1 : 0;
            x.go(1);
            c.due("storms till day " + day, 999 - Check.rope(x, 0, 3), stormy);
        }
        c.due("some of 27: " + stormy, stormy > 3 && stormy < 20, true);
        x = Check.told("maker m 0 0;rope p m 1 0;ship x 0;rig p x;sail x 0 30;storm 0;law twist 99;law wear stormy;");
        x.go(30);
        c.due("storm 0", Check.rope(x, 0, 3), 99);
        x = Check.told("maker m 0 0;rope p m 1 0;ship x 0;rig p x;sail x 0 30;storm 100;law twist 99;law wear stormy;");
        x.go(30);
        c.due("storm 100", Check.rope(x, 0, 3), 69);
        oneStormAt(1);
        oneStormAt(99);
    }

    /** With the least odds and the greatest a first number that lies just on either side of them. */
    private static void oneStormAt(int storm) {
        for (int side = storm - 1; side <= storm; side++) {
            int seed = 0;
            while ((seed * 1103515245L + 12345L) % (1L << 31) / 65536 % 100 != side) {
                seed++;
            }
            RopeWalk x = Check.told("maker m 0 0;rope p m 1 0;ship x 0;rig p x;sail x 0 1;storm " + storm + ";seed " + seed
                    + ";law twist 99;law wear stormy;");
            x.go(1);
            c.due("storm " + storm + " by " + side, Check.rope(x, 0, 3), side < storm ? 98 : 99);
        }
    }

    private static void ahead() {
        c.part("15 ahead");
        RopeWalk x = Check.told(FLEET);
        x.go(1);
        c.due("0 days", x.ahead(0, 4, 0), 60);
        c.due("lost in 1", x.ahead(1, 0, 0), 1);
        c.due("lost in 0", x.ahead(0, 0, 99), 0);
        c.due("home in 4", x.ahead(4, 1, -5), 2);
        c.due("refused in 2", x.ahead(2, 3, 0), 1);
        c.due("bear in 200", x.ahead(200, 4, 2), 103);
        c.due("bear of a lost one", x.ahead(3, 4, 1), 0);
        x.go(2);
        c.due("home more by all, not those ahead", x.ahead(1, 1, 0), 1);
        c.due("refused more", x.ahead(9, 3, 0), 0);
        c.due("lost then, also those that are", x.ahead(0, 0, 0), 1);
        c.due("nothing went by", x.count(5), 3);
        c.due("ahead(-1, 0, 0)", x.ahead(-1, 0, 0), -1);
        c.due("ahead(201, 0, 0)", x.ahead(201, 0, 0), -1);
        c.due("ahead(1, 5, 0)", x.ahead(1, 5, 0), -1);
        c.due("ahead(1, -1, 0)", x.ahead(1, -1, 0), -1);
        c.due("ahead(1, 4, 3)", x.ahead(1, 4, 3), -1);
        c.due("ahead(1, 4, -1)", x.ahead(1, 4, -1), -1);
        x = Check.told("maker m 0 0;rope p m 2 0;rope q m 3 0;ship x 0;rig p x;rig q x;sail x 0 9;");
        c.due("broken in 1", x.ahead(1, 2, 0), 0);
        c.due("broken in 2", x.ahead(2, 2, 0), 1);
        c.due("broken in 3", x.ahead(3, 2, 0), 2);
        String odds = "maker m 0 0;rope p m 9 0;ship x 5;rig p x;sail x 0 2;seed 3;storm ";
        c.due("storm 49 as it goes", Check.told(odds + "49;").ahead(1, 0, 0), 0);
        c.due("storm 50 as it goes", Check.told(odds + "50;").ahead(1, 0, 0), 1);
        c.due("wear as it goes", Check.told(odds + "49;").ahead(1, 4, 0), 8);
    }

    private static void loses() {
        c.part("16 loses");
        RopeWalk x = Check.told(FLEET);
        c.due("y", x.loses(1), 2);
        c.due("x", x.loses(0), -2);
        x.go(1);
        c.due("this day", x.loses(1), 1);
        x.go(1);
        c.due("it is", x.loses(1), 0);
        c.due("loses(3)", x.loses(3), -1);
        c.due("loses(-1)", x.loses(-1), -1);
        c.due("by day 99", Check.told("ship x 1;sail x 99 1;").loses(0), 100);
        x = Check.told("ship x 1;sail x 99 1;");
        c.due("nothing went by", x.count(5), 0);
    }

    private static void homes() {
        c.part("17 homes");
        RopeWalk x = Check.told(FLEET);
        c.due("x", x.homes(0), 4);
        c.due("y is lost ahead", x.homes(1), -2);
        x.go(4);
        c.due("x once more", x.homes(0), -2);
        c.due("z", x.homes(2), 1);
        c.due("y is lost", x.homes(1), -2);
        c.due("homes(3)", x.homes(3), -1);
        c.due("homes(-1)", x.homes(-1), -1);
        c.due("by day 99", Check.told("ship x 0;sail x 99 30;").homes(0), 129);
    }

    private static void weakest() {
        c.part("18 weakest");
        RopeWalk x = Check.told("maker m 0 1;rope p m 9 0;rope q m 4 0;rope r m 4 0;rope s m 1 0;rope t m 1 5;ship x 0;ship y 0;"
                + "rig p x;rig q x;rig r x;rig t x;");
        c.due("none is made", x.weakest(0), -2);
        x.go(1);
        c.due("the first of several", x.weakest(0), 1);
        c.due("none", x.weakest(1), -2);
        x.takeOut(1);
        c.due("then", x.weakest(0), 2);
        c.due("weakest(2)", x.weakest(2), -1);
        c.due("weakest(-1)", x.weakest(-1), -1);
        x = Check.told("maker m 0 0;rope p m 1 0;rope q m 9 0;ship x 0;rig p x;rig q x;sail x 0 2;");
        x.go(1);
        c.due("not the broken one", x.weakest(0), 1);
    }

    private static void spliceAndExact() {
        c.part("19 splice, 20 exact");
        RopeWalk x = Check.told("maker m 0 1;rope a m 10 0;rope b m 20 0;rope d m 30 0;rope e m 25 0;rope f m 15 0;"
                + "rope g m 99 9;rope h m 50 0;ship x 0;rig h x;");
        c.due("none made", x.splice(1, 0), -2);
        c.due("exact(0), none made", x.exact(0), 1);
        x.go(1);
        c.due("splice(1, 0): one of least yards", x.splice(1, 0), 1);
        c.due("splice(1, 1)", x.splice(1, 1), 9);
        c.due("splice(26, 0): fewest first", x.splice(26, 0), 4);
        c.due("splice(26, 1)", x.splice(26, 1), 4);
        c.due("splice(40, 0): 10+30, 25+15 of least bits", x.splice(40, 0), 5);
        c.due("splice(41, 0): 20+25", x.splice(41, 0), 2 | 8);
        c.due("splice(56, 0)", x.splice(56, 0), 1 | 2 | 4);
        c.due("splice(100, 0)", x.splice(100, 0), 31);
        c.due("splice(100, 1)", x.splice(100, 1), 0);
        c.due("splice(101, 0)", x.splice(101, 0), -2);
        c.due("splice(101, 1)", x.splice(101, 1), -2);
        c.due("splice(792, 0)", x.splice(792, 0), -2);
        c.due("splice(0, 0)", x.splice(0, 0), -1);
        c.due("splice(793, 0)", x.splice(793, 0), -1);
        c.due("splice(1, 2)", x.splice(1, 2), -1);
        c.due("splice(1, -1)", x.splice(1, -1), -1);
        c.due("exact(0)", x.exact(0), 1);
        c.due("exact(45): 20+25, 30+15, 10+20+15", x.exact(45), 3);
        c.due("exact(40): 10+30, 25+15", x.exact(40), 2);
        c.due("exact(50): 10+25+15, 20+30", x.exact(50), 2);
        c.due("exact(99): not one to come", x.exact(99), 0);
        c.due("exact(792)", x.exact(792), 0);
        c.due("exact(793)", x.exact(793), -1);
        c.due("exact(-1)", x.exact(-1), -1);
        x = Check.told("maker m 0 1;" + "rope a m 99 0;rope b m 99 0;rope d m 99 0;rope e m 99 0;rope f m 99 0;"
                + "rope g m 99 0;rope h m 99 0;rope i m 99 0;");
        x.go(1);
        c.due("exact(792) of all", x.exact(792), 1);
        c.due("exact(396)", x.exact(396), 70);
        c.due("splice(792, 0) of all", x.splice(792, 0), 255);
        c.due("splice(100, 0)", x.splice(100, 0), 3);
    }

    private static void allotted(RopeWalk x, int... due) {
        for (int what = 0; what < 10; what++) {
            c.due("allot(" + what + ")", x.allot(what), due[what]);
        }
    }

    private static void allot() {
        c.part("21 allot");
        RopeWalk x = Check.told("maker m 0 0;rope a m 10 0;rope b m 20 0;rope d m 20 0;rope e m 5 0;ship x 0;ship y 20;ship z 25;");
        x.go(1);
        allotted(x, -2, 1, 2, 2, -2, -2, -2, -2, 3, 45);
        c.due("allot(10)", x.allot(10), -1);
        c.due("allot(-1)", x.allot(-1), -1);
        x = Check.told("maker m 0 0;rope a m 10 0;rope b m 20 0;ship x 500;ship y 400;");
        x.go(1);
        allotted(x, -2, -2, -2, -2, -2, -2, -2, -2, 0, 0);
        x = Check.told("maker m 0 0;rope a m 10 0;rope b m 10 0;ship x 10;ship y 10;ship z 10;");
        x.go(1);
        allotted(x, 0, 1, -2, -2, -2, -2, -2, -2, 2, 20);
        x.sail(0, 1);
        allotted(x, 1, 2, -2, -2, -2, -2, -2, -2, 2, 20);
        x = Check.told("maker m 0 0;rope a m 9 0;rope b m 8 0;ship x 5;ship y 500;law twist 0;");
        x.go(1);
        allotted(x, 0, 0, -2, -2, -2, -2, -2, -2, 0, 0);
        x = Check.told("maker m 0 0;rope a m 1 0;rope b m 1 0;rope d m 1 0;rope e m 1 5;rope f m 1 0;rope g m 1 0;rope h m 50 0;"
                + "ship x 40;ship y 5;");
        x.go(1);
        allotted(x, 1, 1, 1, -2, 1, 1, -2, -2, 1, 5);
        x = Check.told("maker m 0 0;rope a m 7 0;ship x 0;rig a x;sail x 0 9;");
        x.go(1);
        allotted(x, -2, -2, -2, -2, -2, -2, -2, -2, 0, 0);
    }

    private static void game() {
        c.part("22 game");
        RopeWalk x = Check.told("maker m 0 0;rope a m 12 0;rope b m 10 0;rope d m 9 0;rope e m 1 3;ship s 0;rig b s;");
        c.due("no ropes", x.game(0), 1);
        c.due("no ropes", x.game(1), -2);
        x.go(1);
        c.due("12 ^ 10 ^ 9 = 15", x.game(0), 0);
        c.due("game(1)", x.game(1), 0);
        c.due("game(2): 12 - 3", x.game(2), 9);
        c.due("game(3)", x.game(3), -1);
        c.due("game(-1)", x.game(-1), -1);
        x = Check.told("maker m 0 0;rope a m 12 0;rope b m 12 0;");
        x.go(1);
        c.due("the other one", x.game(0), 1);
        c.due("can't win", x.game(1), -2);
        c.due("can't win", x.game(2), -2);
    }

    /** Who wins, by all that can be paid out, for small ropes. */
    private static void gameByHand() {
        c.part("22 game by trying all");
        for (int a = 1; a <= 5; a++) {
            for (int b = 1; b <= 5; b++) {
                for (int d = 1; d <= 5; d++) {
                    RopeWalk x = Check.told("maker m 0 0;rope a m " + a + " 0;rope b m " + b + " 0;rope d m " + d + " 0;");
                    x.go(1);
                    int[] first = winning(new int[] {a, b, d});
                    String of = a + " " + b + " " + d;
                    c.due("game(0) of " + of, x.game(0), first == null ? 1 : 0);
                    c.due("game(1) of " + of, x.game(1), first == null ? -2 : first[0]);
                    c.due("game(2) of " + of, x.game(2), first == null ? -2 : first[1]);
                }
            }
        }
    }

    private static int[] winning(int[] ropes) {
        for (int i = 0; i < ropes.length; i++) {
            for (int pay = 1; pay <= ropes[i]; pay++) {
                int[] left = ropes.clone();
                left[i] -= pay;
                if (winning(left) == null) {
                    return new int[] {i, pay};
                }
            }
        }
        return null;
    }

    private static void putOff() {
        c.part("23 putOff");
        RopeWalk x = Check.told(FLEET);
        c.due("fleet", x.putOff(), 2);
        x.go(2);
        c.due("one is lost already", x.putOff(), -2);
        x = Check.told("ship x 0;sail x 0 3;");
        c.due("none", x.putOff(), 0);
        x = Check.told("maker m 0 0;rope a m 3 0;ship x 2;rig a x;sail x 0 1;sail x 2 1;sail x 4 1;");
        c.due("any one of three: the least bits", x.putOff(), 1);
        x.go(1);
        c.due("those of this day or later alone", x.putOff(), 2);
        x = Check.told("maker m 0 0;rope a m 3 0;ship x 2;rig a x;sail x 0 2;sail x 1 1;sail x 4 1;sail x 6 2;");
        c.due("the one refused sails without the first: not 1 | 2, not 1 | 4, ahead of 4 | 8", x.putOff(), 1 | 8);
        x = Check.told("ship x 5;sail x 60 1;");
        c.due("behind 60 days", x.putOff(), 0);
        x = Check.told("ship x 5;sail x 59 1;");
        c.due("within 60 days", x.putOff(), 1);
        x = Check.told("ship x 5;sail x 9 1;");
        x.sail(0, 2);
        c.due("lost without all of them", x.putOff(), -2);
        x = Check.told("ship x 5;ship y 5;sail y 1 1;sail x 1 1;sail y 2 1;sail x 2 2;");
        c.due("of two ships", x.putOff(), 15);
        x = Check.told("maker m 0 0;rope a m 9 3;ship x 5;rig a x;sail x 1 9;sail x 2 1;sail x 3 2;");
        c.due("one refused else is put off, too", x.putOff(), 3);
    }

    private static void haul() {
        c.part("24 rests, 25 rest");
        RopeWalk x = Check.told("maker a 3 4;maker b 7 2;maker d 0 0;maker e 9 9;maker f 9 8;maker g 1 1;");
        c.due("rests(0, 1)", x.rests(0, 1), 2);
        c.due("rest(0, 1, 0)", x.rest(0, 1, 0), 0);
        c.due("rest(0, 1, 1)", x.rest(0, 1, 1), 1);
        c.due("rest(0, 1, 2)", x.rest(0, 1, 2), -2);
        c.due("rest(1, 0, 1)", x.rest(1, 0, 1), 10);
        // d and e: both haul 0, 0; d alone 0, 1; e alone 10, 9; both slack 0, 4.
        c.due("rests(2, 3)", x.rests(2, 3), 2);
        c.due("rest(2, 3, 0)", x.rest(2, 3, 0), 1);
        c.due("rest(2, 3, 1)", x.rest(2, 3, 1), 10);
        c.due("rest(3, 2, 0)", x.rest(3, 2, 0), 1);
        // e and f: both haul 9, 9; e alone 9, 10; f alone 9, 8; both slack 4, 4.
        c.due("rests(3, 4)", x.rests(3, 4), 2);
        c.due("rest(3, 4, 0)", x.rest(3, 4, 0), 1);
        c.due("rest(3, 4, 1)", x.rest(3, 4, 1), 10);
        // d and g: both haul 8, 8; d alone 0, 1; g alone 2, 1; both slack 0, 0.
        c.due("rests(2, 5)", x.rests(2, 5), 1);
        c.due("rest(2, 5, 0)", x.rest(2, 5, 0), 0);
        c.due("rest(2, 5, 1)", x.rest(2, 5, 1), -2);
        c.due("alike", x.rests(1, 1), -1);
        c.due("alike", x.rest(1, 1, 0), -1);
        c.due("rests(0, 6)", x.rests(0, 6), -1);
        c.due("rests(-1, 0)", x.rests(-1, 0), -1);
        c.due("rest(6, 0, 0)", x.rest(6, 0, 0), -1);
        c.due("rest(0, -1, 0)", x.rest(0, -1, 0), -1);
        c.due("rest(0, 1, -1)", x.rest(0, 1, -1), -1);
    }

    private static void calm() {
        c.part("26 calm");
        RopeWalk x = Check.told("storm 30;");
        c.due("calm(0, 0)", x.calm(0, 0), 1);
        c.due("calm(0, 1)", x.calm(0, 1), 1);
        c.due("calm(1, 0)", x.calm(1, 0), 7);
        c.due("calm(1, 1)", x.calm(1, 1), 10);
        c.due("calm(6, 0)", x.calm(6, 0), 117649);
        c.due("calm(6, 1)", x.calm(6, 1), 1000000);
        c.due("calm(7, 0)", x.calm(7, 0), -1);
        c.due("calm(-1, 0)", x.calm(-1, 0), -1);
        c.due("calm(1, 2)", x.calm(1, 2), -1);
        c.due("calm(1, -1)", x.calm(1, -1), -1);
        x = Check.told("storm 1;");
        c.due("99 to the 6", x.calm(6, 0), 941480149401L);
        c.due("100 to the 6", x.calm(6, 1), 1000000000000L);
        x = Check.told("storm 100;");
        c.due("never calm", x.calm(3, 0), 0);
        c.due("never calm", x.calm(3, 1), 1);
        c.due("no days", x.calm(0, 0), 1);
        x = Check.told("storm 75;");
        c.due("a quarter", x.calm(2, 0), 1);
        c.due("a quarter", x.calm(2, 1), 16);
    }

    private static void seenStruckKnown() {
        c.part("27 see, 28 strike, 29 known");
        RopeWalk x = Check.told(FLEET);
        c.due("see(0, 0)", x.see(0, 0, true), -1);
        c.due("see(61, 0)", x.see(61, 0, true), -1);
        c.due("see(1, 3)", x.see(1, 3, true), -1);
        c.due("see(1, -1)", x.see(1, -1, true), -1);
        c.due("strike(0) of none", x.strike(0), -1);
        c.due("y isn't lost behind 2", x.see(2, 1, false), 0);
        c.due("evens(1)", x.evens(1), 896);
        c.due("strike(0)", x.strike(0), 1);
        c.due("evens(1) when struck", x.evens(1), 1023);
        c.due("strike(1)", x.strike(1), 2);
        c.due("evens(1) when the strike is struck", x.evens(1), 896);
        c.due("strike(2)", x.strike(2), 3);
        c.due("evens(1), struck once more", x.evens(1), 1023);
        c.due("strike(4)", x.strike(4), -1);
        c.due("strike(-1)", x.strike(-1), -1);
        c.due("known(0)", x.known(0), true);
        c.due("evens by 0", x.evens(1), 1023);
        c.due("count(15)", x.count(15), 0);
        c.due("known(1)", x.known(1), true);
        c.due("evens by 1", x.evens(1), 896);
        c.due("known(2)", x.known(2), true);
        c.due("evens by 2", x.evens(1), 1023);
        c.due("known(3)", x.known(3), true);
        c.due("evens by 3", x.evens(1), 896);
        c.due("see more", x.see(2, 1, true), 4);
        c.due("evens by 3, not by those to come", x.evens(1), 896);
        c.due("known(5)", x.known(5), true);
        c.due("evens by 5", x.evens(1), 127);
        c.due("known(6)", x.known(6), false);
        c.due("known(-2)", x.known(-2), false);
        c.due("false changes nothing", x.count(15), 5);
        c.due("strike(4)", x.strike(4), 5);
        c.due("by 5 still", x.evens(1), 127);
        c.due("known(-1)", x.known(-1), true);
        c.due("by all", x.evens(1), 1023);
        c.due("count(15)", x.count(15), 6);
        for (int i = 6; i < 24; i++) {
            c.due("see " + i, x.see(60, 0, false), i);
        }
        c.due("see the 25th", x.see(1, 0, false), -1);
        c.due("strike as the 25th", x.strike(0), -1);
        c.due("count(14)", x.count(14), 24);
        c.due("by all to come", x.count(15), 24);
        x = Check.told(FLEET);
        x.see(2, 1, false);
        x.strike(0);
        x.strike(0);
        x.strike(1);
        c.due("two strikes, one of them struck", x.evens(1), 1023);
        x.strike(2);
        c.due("both struck", x.evens(1), 896);
    }

    private static void evensAndAsk() {
        c.part("30 evens, 31 ask");
        RopeWalk x = Check.told(FLEET);
        c.due("evens(3)", x.evens(3), -1);
        c.due("evens(-1)", x.evens(-1), -1);
        c.due("at first all", x.evens(0), 1023);
        c.due("ask(0, 4, 0): x is lost by evens 0 .. 3", x.ask(0, 4, 0), 0);
        // p is 20 + 10 EVEN: behind 4 days x is lost below 52, by 0 .. 3.
        c.due("ask(0, 4, 1)", x.ask(0, 4, 1), 6);
        c.due("ask(1, 2, 0): y by 0 .. 6", x.ask(1, 2, 0), 1);
        c.due("ask(1, 2, 1)", x.ask(1, 2, 1), 7);
        c.due("ask(1, 3, 1): y by 0 .. 7", x.ask(1, 3, 1), 8);
        c.due("ask(1, 1, 0): none tells, the first", x.ask(1, 1, 0), 0);
        c.due("ask(1, 1, 1)", x.ask(1, 1, 1), 10);
        x.see(2, 0, false);
        // Borne at DAY 1: 20 + 10 EVEN is 50 at least.
        c.due("evens(0)", x.evens(0), 1023 - 7);
        x.see(4, 0, true);
        c.due("lost behind 4, not behind 2", x.evens(0), 8);
        x.see(3, 0, false);
        c.due("of none", x.evens(0), 0);
        c.due("ask of none", x.ask(0, 5, 0), 0);
        c.due("ask of none", x.ask(0, 5, 1), 0);
        x.rig(3, 1);
        x.rig(4, 1);
        x.go(9);
        x.known(0);
        c.due("nothing done by call, from the text on", x.ask(1, 2, 1), 7);
        c.due("ask(3, 1, 0)", x.ask(3, 1, 0), -1);
        c.due("ask(-1, 1, 0)", x.ask(-1, 1, 0), -1);
        c.due("ask(0, 0, 0)", x.ask(0, 0, 0), -1);
        c.due("ask(0, 61, 0)", x.ask(0, 61, 0), -1);
        c.due("ask(0, 60, 0)", x.ask(0, 60, 0), 0);
        c.due("ask(0, 1, 2)", x.ask(0, 1, 2), -1);
        c.due("ask(0, 1, -1)", x.ask(0, 1, -1), -1);
        x = Check.told("maker m 0 0;");
        c.due("no ships", x.ask(0, 1, 0), -2);
        c.due("no ships", x.ask(0, 1, 1), -2);
        c.due("no ships, no such what", x.ask(0, 1, 2), -1);
        c.due("evens without ships", x.evens(0), 1023);
        x = Check.told("maker m 0 5;rope p m 1 0;ship x 30;rig p x;sail x 59 2;");
        c.due("behind 59", x.ask(0, 59, 1), 10);
        c.due("behind 60: by 0 .. 2", x.ask(0, 60, 1), 7);
        x.see(60, 0, true);
        c.due("lost behind 60", x.evens(0), 7);
        x = Check.told("maker m 0 5;maker n 0 5;rope p m 1 0;ship x 1;rig p x;sail x 0 1;law pull 4;law twist even;");
        x.see(1, 0, false);
        c.due("even of laws", x.evens(0), 1023 - 15);
        c.due("another's even is as told", x.evens(1), 1023);
    }

    private static void chance() {
        c.part("32 chance");
        RopeWalk x = Check.told("maker m 0 0;rope p m 15 0;ship x 10;ship y 0;rig p x;sail x 0 2;storm 40;seed 5;");
        c.due("by hand", x.chance(1, 2, 0), chanceByHand(1, 2, 40));
        c.due("by hand", x.chance(2147483647, 2, 0), chanceByHand(2147483647, 2, 40));
        c.due("by hand, one day", x.chance(99, 1, 0), chanceByHand(99, 1, 40));
        c.due("by hand, 99 days", x.chance(7, 99, 0), chanceByHand(7, 99, 40));
        c.due("by hand, seed 0", x.chance(0, 2, 0), chanceByHand(0, 2, 40));
        c.due("never sails", x.chance(7, 9, 1), 0);
        c.due("chance(-1, 1, 0)", x.chance(-1, 1, 0), -1);
        c.due("chance(1, 0, 0)", x.chance(1, 0, 0), -1);
        c.due("chance(1, 100, 0)", x.chance(1, 100, 0), -1);
        c.due("chance(1, 1, 2)", x.chance(1, 1, 2), -1);
        c.due("chance(1, 1, -1)", x.chance(1, 1, -1), -1);
        c.due("nothing went by", x.count(5), 0);
        x.go(1);
        boolean isLost = x.ship(0, 1) == 2;
        c.due("the seed's own number is not spent", isLost, (5 * 1103515245L + 12345) % (1L << 31) / 65536 % 100 < 40);
        x = Check.told("ship x 1;sail x 0 1;");
        x.go(1);
        c.due("lost already", x.chance(1, 1, 0), 10);
        x = Check.told("maker m 0 0;rope p m 15 0;ship x 10;rig p x;sail x 0 2;storm 50;law twist stormy * 20;law pull stormy;");
        c.due("stormy of twist as it goes", x.chance(3, 1, 0), 0);
    }

    /** Sound 15, LOAD 10: lost when one of the first two days is stormy. */
    private static int chanceByHand(long seed, int days, int storm) {
        int lost = 0;
        long last = seed;
        for (int time = 0; time < 10; time++) {
            boolean isLost = false;
            for (int day = 0; day < days; day++) {
                last = (last * 1103515245L + 12345L) % (1L << 31);
                isLost |= day < 2 && last / 65536 % 100 < storm;
            }
            lost += isLost ? 1 : 0;
        }
        return lost;
    }

    private static void tried() {
        c.part("33 tried");
        RopeWalk x = Check.told(FLEET);
        c.due("never stormy", x.tried(0, 0, 5), 1);
        c.due("always", x.tried(1, 0, 5), 2);
        c.due("y never sails", x.tried(2, 1, 5), 0);
        c.due("x never sails", x.tried(2, 0, 5), 1);
        c.due("nothing wears", x.tried(3, 0, 5), 1);
        c.due("all even 9", x.tried(4, 0, 5), 0);
        c.due("in 0 days", x.tried(1, 0, 0), 0);
        c.due("in 200", x.tried(1, 0, 200), 2);
        c.due("tried(5, 0, 1)", x.tried(5, 0, 1), -1);
        c.due("tried(-1, 0, 1)", x.tried(-1, 0, 1), -1);
        c.due("tried(0, 1, 1)", x.tried(0, 1, 1), -1);
        c.due("tried(1, 2, 1)", x.tried(1, 2, 1), -1);
        c.due("tried(3, -1, 1)", x.tried(3, -1, 1), -1);
        c.due("tried(4, 1, 1)", x.tried(4, 1, 1), -1);
        c.due("tried(2, 3, 1)", x.tried(2, 3, 1), -1);
        c.due("tried(2, -1, 1)", x.tried(2, -1, 1), -1);
        c.due("tried(0, 0, -1)", x.tried(0, 0, -1), -1);
        c.due("tried(0, 0, 201)", x.tried(0, 0, 201), -1);
        x.go(1);
        c.due("ropes made already stay", x.tried(4, 0, 5), 1);
        c.due("y never sails", x.tried(2, 1, 1), 0);
        x.sail(1, 2);
        c.due("one at sea by call stays so", x.tried(2, 1, 1), 1);
        String storm = "maker m 0 1;rope r m 1 0;ship s 5;rig r s;sail s 0 1;storm 50;law twist stormy*9;law pull 5;";
        c.due("never stormy of twist", Check.told(storm).tried(0, 0, 1), 1);
        c.due("always stormy of twist", Check.told(storm).tried(1, 0, 1), 0);
        x = Check.told("maker m 0 0;rope r m 2 0;ship s 1;rig r s;sail s 0 9;");
        c.due("worn, broken", x.tried(0, 0, 9), 1);
        c.due("nothing is broken", x.tried(3, 0, 9), 0);
        x = Check.told("maker m 0 0;rope r m 30 0;ship s 15;rig r s;sail s 0 2;law wear even;law twist 20;");
        c.due("even of wear is 9, too", x.tried(4, 0, 2), 1);
        c.due("even of wear as told", x.tried(3, 0, 2), 0);
    }

    private static void undo() {
        c.part("34 undo");
        RopeWalk x = Check.told(FLEET);
        x.go(1);
        c.due("none", x.undo(), -1);
        c.due("rig", x.rig(3, 0), 105);
        c.due("takeOut", x.takeOut(0), true);
        c.due("mend", x.mend(1), 50);
        c.due("sail", x.sail(0, 3), 45);
        c.due("what can't be is not counted", x.sail(0, 3), -2);
        c.due("count(16)", x.count(16), 4);
        c.due("go(0) leaves it", x.go(0), 1);
        c.due("the sailing", x.undo(), 3);
        c.due("ship(0, 1)", x.ship(0, 1), 0);
        c.due("ship(0, 2)", x.ship(0, 2), 0);
        c.due("the mending", x.undo(), 2);
        c.due("the taking out", x.undo(), 1);
        c.due("rope(0, 4)", Check.rope(x, 0, 4), 0);
        c.due("the rigging", x.undo(), 0);
        c.due("rope(3, 4)", Check.rope(x, 3, 4), -2);
        c.due("none", x.undo(), -1);
        x.rig(3, 0);
        c.due("a go that can't be leaves it", x.go(201), -1);
        c.due("count(16)", x.count(16), 1);
        x.go(1);
        c.due("a day went by", x.undo(), -1);
        x = Check.told("maker m 0 0;rope p m 1 0;ship x 0;rig p x;sail x 0 1;law twist 1 + day;");
        x.go(1);
        c.due("broken", Check.rope(x, 0, 2), 2);
        c.due("mended", x.mend(0), 2);
        c.due("mended again", x.mend(0), 2);
        c.due("undone", x.undo(), 1);
        c.due("made still", Check.rope(x, 0, 2), 1);
        c.due("undone", x.undo(), 0);
        c.due("broken again", Check.rope(x, 0, 2), 2);
        c.due("its sound", Check.rope(x, 0, 3), 0);
        for (int i = 0; i < 25; i++) {
            x.takeOut(0);
            x.mend(0);
            x.rig(0, 0);
        }
        c.due("20 at most", x.count(16), 20);
        c.due("undo", x.undo(), 19);
        oldestIsForgotten();
    }

    /** More than 20 changes, each unlike the next: the latest 20 go back one by one, to the one ahead of them. */
    private static void oldestIsForgotten() {
        RopeWalk x = Check.told("maker m 0 0;rope a m 1 0;rope b m 2 0;rope d m 3 0;rope e m 4 0;ship x 0;ship y 0;ship z 0;"
                + "rig e z;sail z 0 1;law wear 99;law twist yards + bear;");
        x.go(1);
        c.due("e is broken", Check.rope(x, 3, 2), 2);
        String[] ahead = new String[26];
        for (int i = 0; i < 26; i++) {
            ahead[i] = ropesAndShips(x);
            boolean isSailing = i >= 23;
            if (isSailing) {
                x.sail(i - 23, i - 20);
            } else if (i == 10) {
                c.due("mend e", x.mend(3), 4);
            } else if (i % 4 == 0) {
                x.rig(i % 3, i % 2);
            } else if (i % 4 == 3) {
                x.takeOut((i - 3) % 3);
            } else {
                x.mend((i - i % 4) % 3);
            }
        }
        c.due("count(16)", x.count(16), 20);
        for (int i = 25; i >= 6; i--) {
            c.due("undo " + i, x.undo(), i - 6);
            c.due("all as ahead of " + i, ropesAndShips(x).equals(ahead[i]), true);
        }
        c.due("undo", x.undo(), -1);
    }

    private static String ropesAndShips(RopeWalk x) {
        StringBuilder all = new StringBuilder();
        for (int rope = 0; rope < x.count(1); rope++) {
            all.append(Check.rope(x, rope, 2)).append(' ').append(Check.rope(x, rope, 3)).append(' ')
                    .append(Check.rope(x, rope, 4)).append(';');
        }
        for (int ship = 0; ship < x.count(2); ship++) {
            all.append(x.ship(ship, 1)).append(' ').append(x.ship(ship, 2)).append(';');
        }
        return all.toString();
    }

    private static void images() {
        c.part("35 keep, 36 back");
        RopeWalk x = Check.told(LAWS);
        c.due("none", x.back(), -1);
        x.go(1);
        c.due("keep()", x.keep(), 1);
        x.see(3, 0, true);
        x.go(3);
        int sound = Check.rope(x, 0, 3);
        c.due("lost", x.ship(0, 1), 2);
        c.due("back()", x.back(), 1);
        c.due("at sea", x.ship(0, 1), 1);
        c.due("for 3 days", x.ship(0, 2), 3);
        c.due("rope(0, 2)", Check.rope(x, 0, 2), 1);
        c.due("rope(0, 3)", Check.rope(x, 0, 3), 34);
        c.due("what was seen stays", x.count(14), 1);
        x.go(3);
        c.due("the same numbers", Check.rope(x, 0, 3), sound);
        c.due("lost again", x.ship(0, 1), 2);
        c.due("back() once more", x.back(), 1);
        x.go(1);
        c.due("another image", x.keep(), 2);
        x.go(1);
        c.due("in place of the one ahead", x.back(), 2);
        x = Check.told(FLEET);
        x.go(1);
        x.rig(3, 2);
        c.due("keep()", x.keep(), 1);
        c.due("undone things stay to be undone", x.count(16), 1);
        x.rig(4, 2);
        c.due("back()", x.back(), 1);
        c.due("nothing to undo", x.count(16), 0);
        c.due("undo()", x.undo(), -1);
        c.due("rigged in the image", Check.rope(x, 3, 4), 2);
        c.due("rigged behind it", Check.rope(x, 4, 4), -2);
        x.go(4);
        c.due("refused", x.count(12), 1);
        x.back();
        c.due("refused as in the image", x.count(12), 0);
        c.due("home as in the image", x.count(11), 0);
        x = Check.told(FLEET);
        x.see(2, 1, false);
        x.see(2, 1, true);
        x.known(-1);
        x.keep();
        x.known(1);
        x.see(2, 1, true);
        c.due("by the first one", x.evens(1), 896);
        x.back();
        c.due("all seen stay", x.count(14), 3);
        c.due("known by as many as ahead of back()", x.count(15), 1);
        c.due("evens by the first one still", x.evens(1), 896);
        x.keep();
        x.known(-1);
        x.strike(0);
        x.back();
        c.due("known by all still, also those to come", x.count(15), 4);
        x.feed(0, 0, 0, 0, 0);
        x.back();
        c.due("the tape is no part of it", x.feed(0, 0, 0, 0, 0), 40);
    }

    private static void count() {
        c.part("37 count");
        RopeWalk x = Check.told(FLEET);
        x.go(3);
        x.see(1, 0, false);
        x.strike(0);
        x.known(1);
        x.mend(3);
        // x is at sea till DAY 3 is over; y and q are lost; p wore twice.
        int[] due = {3, 5, 3, 4, 0, 3, 4, 0, 1, 1, 1, 0, 1, 58 + 50 + 105 + 45 + 32, 2, 1, 1};
        for (int what = 0; what <= 16; what++) {
            c.due("count(" + what + ")", x.count(what), due[what]);
        }
        x.go(2);
        c.due("count(9)", x.count(9), 0);
        c.due("count(11)", x.count(11), 2);
        c.due("count(17)", x.count(17), -1);
        c.due("count(-1)", x.count(-1), -1);
        x = Check.told("law pull not(1+2)*3<4 and 5 or yards;");
        c.due("knots, without ( and )", x.count(4), 12);
        x = Check.told("maker m 0 0;rope r m 1 0;ship s 0;rig r s;sail s 0 1;");
        x.go(1);
        c.due("broken", x.count(7), 1);
        c.due("made", x.count(6), 0);
    }

    /** Every call with numbers far out, ahead of a text, behind it, and when all is lost. */
    private static void nothingElseIsThrown() {
        c.part("nothing else is thrown");
        int[] far = {Integer.MIN_VALUE, -2, -1, 0, 1, 4, 8, 31, 32, 63, 1000, Integer.MAX_VALUE};
        String[] texts = {"", FLEET, LAWS, "maker m 0 0;rope r m 1 0;ship s 9;rig r s;sail s 0 1;"};
        for (String text : texts) {
            for (int a : far) {
                for (int b : far) {
                    RopeWalk x = new RopeWalk();
                    Check.tell(x, text);
                    x.go(4);
                    c.due("one by one", calls(x, a, b), 0);
                }
            }
        }
    }

    private static int calls(RopeWalk x, int a, int b) {
        try {
            x.fault(a);
            x.named(a, b);
            x.ship(a, b);
            x.maker(a, b);
            x.law(a, b);
            x.ahead(a, b, a);
            x.loses(a);
            x.homes(a);
            x.weakest(a);
            x.splice(a, b);
            x.exact(a);
            x.allot(a);
            x.game(a);
            x.putOff();
            x.rests(a, b);
            x.rest(a, b, a);
            x.calm(a, b);
            x.see(a, b, true);
            x.strike(a);
            x.known(a);
            x.evens(a);
            x.ask(a, b, a);
            x.chance(a, b, b);
            x.tried(a, b, b);
            x.rig(a, b);
            x.takeOut(a);
            x.mend(a);
            x.sail(a, b);
            x.keep();
            x.undo();
            x.back();
            x.count(a);
            x.go(a);
            x.text(a);
            Check.rope(x, a, b);
            return 0;
        } catch (RuntimeException e) {
            System.out.println(e + " with " + a + ", " + b);
            return 1;
        }
    }
}
