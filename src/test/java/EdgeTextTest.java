/** Each sentence of '==== 1' and of promises 1 to 5 that names a boundary: the last that is taken, the first that isn't. */
public final class EdgeTextTest {
    private static final String[] WORDS = {"maker", "rope", "ship", "rig", "sail", "storm", "seed", "law", "twist", "wear",
        "pull", "or", "and", "not", "yards", "even", "think", "sound", "bear", "stormy", "day"};
    private static final int FIRST_NAME = 14;
    private static final String HEAD = "maker a 1 1;rope p a 1 1;ship x 1;";
    private static final Check c = new Check();

    public static void main(String[] args) {
        textOfLines();
        linesCutShort();
        linesWithATokenWrong();
        everyByte();
        wordsOfTheLanguage();
        lettersOfAName();
        digits();
        bounds();
        atMost();
        namesOfTheirKind();
        eachRopeOnce();
        plainStormAndSeed();
        grammarOfE();
        comparingSigns();
        numbersOfE();
        ninthOpen();
        knots();
        firstAlongTheText();
        leastOfOnePlace();
        newObject();
        tapeFull();
        textByItsLength();
        textRefused();
        textBegins();
        nothingIsLeftOver();
        faultOfTheLatest();
        named();
        c.end();
    }

    private static void fault(String text, int kind, int place) {
        RopeWalk x = new RopeWalk();
        int lines = Check.tell(x, text);
        c.due("text " + text, lines < 0 ? -1 : 0, kind == 0 ? 0 : -1);
        c.due("fault(0) of " + text, x.fault(0), kind);
        c.due("fault(1) of " + text, x.fault(1), place);
    }

    private static void taken(String text) {
        fault(text, 0, -1);
    }

    private static void textOfLines() {
        c.part("A TEXT: { LINE ';' }");
        RopeWalk x = new RopeWalk();
        c.due("no byte", x.text(0), 0);
        c.due("a blank", Check.tell(x, " "), 0);
        c.due("one line", Check.tell(x, "seed 1;"), 1);
        c.due("blanks about it", Check.tell(x, "\n seed\n\n1 \n;\n \n"), 1);
        c.due("two lines", Check.tell(x, "seed 1;storm 1;"), 2);
        fault(";", 1, 0);
        fault("seed 1;;", 1, 7);
        fault("seed 1", 1, 6);
        fault("seed 1 ", 1, 7);
        fault("seed 1 storm 1;", 1, 7);
        fault("1;", 1, 0);
        fault("(;", 1, 0);
        fault("x;", 1, 0);
        for (int i = 8; i < WORDS.length; i++) {
            fault(WORDS[i] + " 1;", 1, 0);
        }
    }

    private static final String[][] LINES = {{"maker", "b", "1", "1"}, {"rope", "q", "a", "1", "1"}, {"ship", "y", "1"},
        {"rig", "p", "x"}, {"sail", "x", "1", "1"}, {"storm", "1"}, {"seed", "1"}, {"law", "twist", "1"},
        {"law", "wear", "1"}, {"law", "pull", "1"}};

    private static String first(String[] line, int many) {
        StringBuilder text = new StringBuilder(HEAD);
        for (int i = 0; i < many; i++) {
            text.append(i == 0 ? "" : " ").append(line[i]);
        }
        return text.toString();
    }

    private static void linesCutShort() {
        c.part("1: the length, if more must come");
        for (String[] line : LINES) {
            taken(first(line, line.length) + ";");
            for (int many = 1; many <= line.length; many++) {
                String text = first(line, many);
                fault(text, 1, text.length());
                fault(text + " \n", 1, text.length() + 2);
                if (many < line.length) {
                    fault(text + ";", 1, text.length());
                }
            }
        }
        fault("law", 1, 3);
        fault("law pull not", 1, 12);
        fault("law pull (", 1, 10);
        fault("law pull (1", 1, 11);
        fault("law pull (1)", 1, 12);
        fault("law pull 1+", 1, 11);
        fault("law pull 1<", 1, 11);
        fault("law pull 1 and", 1, 14);
    }

    private static void linesWithATokenWrong() {
        c.part("1: a TOKEN that can't stand there");
        String[] wrong = {";", "(", ")", "=", "+", "maker", "twist", "or", "day", "abcdefg", "#", "A"};
        for (String[] line : LINES) {
            boolean isLaw = line[0].equals("law");
            for (int k = 1; k < (isLaw ? 1 : line.length); k++) {
                String ahead = first(line, k) + " ";
                for (String token : wrong) {
                    fault(ahead + token + " 1 1 1;", 1, ahead.length());
                }
                boolean isNumber = line[k].charAt(0) <= '9';
                fault(ahead + (isNumber ? "b" : "1") + " 1 1;", 1, ahead.length());
            }
            String whole = first(line, line.length) + " ";
            for (String token : new String[] {"1", "b", "maker", "not", "(", ")", "day", "abcdefg", "?"}) {
                fault(whole + token + ";", 1, whole.length());
            }
        }
    }

    /** Of 256 bytes: which are blanks, small letters, digits, signs, and which are none. */
    private static void everyByte() {
        c.part("Blanks 10, 32; small letters; digits; else a TOKEN that is none");
        for (int sign = 0; sign < 256; sign++) {
            String put = String.valueOf((char) sign);
            boolean isBlank = sign == 10 || sign == 32;
            boolean isLetter = sign >= 'a' && sign <= 'z';
            boolean isDigit = sign >= '0' && sign <= '9';
            fault(put, isBlank ? 0 : 1, isBlank ? -1 : 0);
            fault("ship a" + put + "b 1;", isLetter ? 0 : 1, isLetter ? -1 : isDigit || isBlank ? 7 : 6);
            fault("ship a 1" + put + "2;", isDigit ? 0 : 1, isDigit ? -1 : isBlank || put.equals(";") ? 9 : 8);
            boolean isSign = "<=>+-*/".indexOf(sign) >= 0;
            boolean joins = isSign || isDigit;
            fault("law pull 1" + put + "2;", joins ? 0 : 1, joins ? -1 : isBlank || put.equals(";") ? 11 : 10);
            fault("law pull 1 " + put + ";", isBlank ? 0 : 1, isBlank ? -1 : isSign || put.equals(";") ? 12 : 11);
        }
        RopeWalk x = Check.told("ship a 0;ship z 9;ship az 90;");
        c.due("ship a", x.named(2, Check.letters("a")), 0);
        c.due("ship z", x.named(2, Check.letters("z")), 1);
        c.due("ship az", x.named(2, Check.letters("az")), 2);
        c.due("90", x.ship(2, 0), 90);
    }

    private static void wordsOfTheLanguage() {
        c.part("W: none of those of the language");
        for (String word : WORDS) {
            fault("maker " + word + " 1 1;", 1, 6);
            fault("ship " + word + " 1;", 1, 5);
            fault(HEAD + "rope " + word + " a 1 1;", 1, HEAD.length() + 5);
            fault(HEAD + "rope q " + word + " 1 1;", 1, HEAD.length() + 7);
            fault(HEAD + "rig " + word + " x;", 1, HEAD.length() + 4);
            fault(HEAD + "rig p " + word + ";", 1, HEAD.length() + 6);
            fault(HEAD + "sail " + word + " 1 1;", 1, HEAD.length() + 5);
            String less = word.substring(0, word.length() - 1);
            if (!less.equals("storm")) {
                taken("ship " + less + " 1;");
            }
            if (word.length() < 6 && !word.equals("storm")) {
                taken("ship " + word + "y 1;");
                taken("ship q" + word + " 1;");
            }
        }
        taken("ship stormz 1;");
        fault("ship stormys 1;", 1, 5);
        fault("stormys 1;", 1, 0);
    }

    private static void lettersOfAName() {
        c.part("W: one of 1 .. 6 letters; a word of more than 6 is none");
        taken("maker m 1 1;ship s 1;rope r m 1 1;rig r s;sail s 1 1;");
        taken("maker abcdef 1 1;ship abcdef 1;rope abcdef abcdef 1 1;rig abcdef abcdef;sail abcdef 1 1;");
        fault("maker abcdefg 1 1;", 1, 6);
        fault("ship abcdefg 1;", 1, 5);
        fault(HEAD + "rope abcdefg a 1 1;", 1, HEAD.length() + 5);
        String long6 = "maker abcdef 1 1;ship abcdef 1;rope abcdef abcdef 1 1;";
        fault(long6 + "rope q abcdefg 1 1;", 1, long6.length() + 7);
        fault(long6 + "rig abcdefg abcdef;", 1, long6.length() + 4);
        fault(long6 + "rig abcdef abcdefg;", 1, long6.length() + 11);
        fault(long6 + "sail abcdefg 1 1;", 1, long6.length() + 5);
        fault(long6 + "ship abcdefg 1;", 1, long6.length() + 5);
        fault("ship " + "z".repeat(690) + ";", 1, 5);
        RopeWalk x = Check.told("ship zzzzzz 1;ship zzzzz 1;ship aaaaaa 1;ship a 1;");
        c.due("zzzzzz", x.named(2, Check.letters("zzzzzz")), 0);
        c.due("zzzzz", x.named(2, Check.letters("zzzzz")), 1);
        c.due("aaaaaa", x.named(2, Check.letters("aaaaaa")), 2);
        c.due("a", x.named(2, Check.letters("a")), 3);
        c.due("aa", x.named(2, Check.letters("aa")), -1);
    }

    private static void digits() {
        c.part("N: digits");
        RopeWalk x = Check.told("ship a 0;ship b 000;ship d " + "0".repeat(300) + "999;");
        c.due("0", x.ship(0, 0), 0);
        c.due("000", x.ship(1, 0), 0);
        c.due("0..0999", x.ship(2, 0), 999);
        fault("ship a " + "0".repeat(300) + "1000;", 2, 7);
        fault("ship a " + "9".repeat(600) + ";", 2, 7);
        // 2 to the 32 and 2 to the 64, and one more: what a machine's number would wrap to 0 and 1.
        for (String wraps : new String[] {"4294967296", "4294967297", "18446744073709551616", "18446744073709551617"}) {
            fault("ship a " + wraps + ";", 2, 7);
            fault("law pull " + wraps + ";", 2, 9);
            fault("seed " + wraps + ";", 2, 5);
        }
    }

    /** A number's least and most are taken; one less and one more are not. */
    private static void bound(String ahead, int least, int most, String behind) {
        taken(ahead + least + behind);
        taken(ahead + most + behind);
        fault(ahead + (most + 1) + behind, 2, ahead.length());
        if (least > 0) {
            fault(ahead + (least - 1) + behind, 2, ahead.length());
        }
    }

    private static void bounds() {
        c.part("2: a number beyond what is said");
        bound("maker b ", 0, 9, " 0;");
        bound("maker b 0 ", 0, 9, ";");
        bound(HEAD + "rope q a ", 1, 99, " 0;");
        bound(HEAD + "rope q a 1 ", 0, 99, ";");
        bound("ship y ", 0, 999, ";");
        bound(HEAD + "sail x ", 0, 99, " 1;");
        bound(HEAD + "sail x 0 ", 1, 30, ";");
        bound("storm ", 0, 100, ";");
        bound("seed ", 0, 99999, ";");
        bound("law twist ", 0, 9999, ";");
        bound("law wear ", 0, 9999, ";");
        bound("law pull ", 0, 9999, ";");
        RopeWalk x = Check.told("maker a 0 9;maker b 9 0;rope p a 1 99;rope q b 99 0;ship x 0;ship y 999;");
        c.due("THOUGHT 0", x.maker(0, 0), 0);
        c.due("EVEN 9", x.maker(0, 1), 9);
        c.due("THOUGHT 9", x.maker(1, 0), 9);
        c.due("EVEN 0", x.maker(1, 1), 0);
        c.due("YARDS 1", Check.rope(x, 0, 1), 1);
        c.due("YARDS 99", Check.rope(x, 1, 1), 99);
        c.due("LOAD 0", x.ship(0, 0), 0);
        c.due("LOAD 999", x.ship(1, 0), 999);
    }

    private static String many(String line, String kinds, int many) {
        StringBuilder text = new StringBuilder();
        for (int i = 0; i < many; i++) {
            text.append(line.replace('?', kinds.charAt(i)));
        }
        return text.toString();
    }

    private static void full(String head, String line, int most, int count) {
        String kinds = "bcdefghijklmnop";
        String text = head + many(line, kinds, most);
        RopeWalk x = Check.told(text);
        c.due("count(" + count + ") of " + text, x.count(count), most);
        fault(text + many(line, kinds, most + 1).substring(most * line.length()), 2, text.length());
        // At the word of the LINE, whatever stands behind it.
        String word = line.substring(0, line.indexOf(' '));
        fault(text + word, 2, text.length());
        fault(text + " " + word + " 1;", 2, text.length() + 1);
        fault(text + word + " " + word + ";", 2, text.length());
        fault(text + many(line, kinds, 1), 2, text.length());
    }

    private static void atMost() {
        c.part("at most 6 MAKERS, 8 ROPES, 5 SHIPS, 10 VOYAGES");
        full("", "maker ? 1 1;", 6, 0);
        full("maker a 1 1;", "rope ? a 1 1;", 8, 1);
        full("", "ship ? 1;", 5, 2);
        full("ship a 1;", "sail a 1 1;", 10, 3);
        String all = many("maker ? 9 9;", "abcdef", 6) + many("rope ? f 99 99;", "abcdefgh", 8) + many("ship ? 999;", "abcde", 5)
                + many("rig ? e;", "abcdefgh", 8) + many("sail e 99 30;", "abcdefghij", 10) + "storm 100;seed 99999;";
        RopeWalk x = new RopeWalk();
        c.due("all of everything", Check.tell(x, all), 6 + 8 + 5 + 8 + 10 + 2);
        c.due("the last maker", x.maker(5, 1), 9);
        c.due("the last rope", Check.rope(x, 7, 0), 5);
        c.due("the last ship", x.ship(4, 6), 255);
        c.due("one more maker", x.maker(6, 1), -1);
        c.due("one more rope", Check.rope(x, 8, 0), Check.OUT_OF_BOUNDS);
        c.due("one more ship", x.ship(5, 6), -1);
        c.due("none of it stays behind a text without", Check.tell(x, "seed 1;"), 1);
        for (int what = 0; what <= 3; what++) {
            c.due("count(" + what + ")", x.count(what), 0);
        }
    }

    private static void namesOfTheirKind() {
        c.part("MAKERS, ROPES, SHIPS have names of their kind; 3: a name of its kind (at W)");
        taken("maker a 1 1;rope a a 1 1;ship a 1;rig a a;sail a 1 1;");
        fault("maker a 1 1;maker a 1 1;", 3, 18);
        fault("maker a 1 1;rope p a 1 1;rope p", 3, 30);
        fault("ship a 1;ship b 1;ship a 1;", 3, 23);
        fault("maker ab 1 1;maker a 1 1;maker abc 1 1;maker ab", 3, 45);
        fault(HEAD + "rope q p 1 1;", 4, HEAD.length() + 7);
        fault(HEAD + "rope q x 1 1;", 4, HEAD.length() + 7);
        fault(HEAD + "rig a x;", 4, HEAD.length() + 4);
        fault(HEAD + "rig x x;", 4, HEAD.length() + 4);
        fault(HEAD + "rig p a;", 4, HEAD.length() + 6);
        fault(HEAD + "rig p p;", 4, HEAD.length() + 6);
        fault(HEAD + "sail a 1 1;", 4, HEAD.length() + 5);
        fault(HEAD + "sail p 1 1;", 4, HEAD.length() + 5);
        c.part("4: that isn't told ahead (at W)");
        fault("rope p a 1 1;maker a 1 1;", 4, 7);
        fault("maker a 1 1;rope p a 1 1;rig p x;ship x 1;", 4, 31);
        fault("ship x 1;rig p x;maker a 1 1;rope p a 1 1;", 4, 13);
        fault("sail x 1 1;ship x 1;", 4, 5);
        fault("rig p x;", 4, 4);
        fault("maker a 1 1;rope p p 1 1;", 4, 19);
        fault("maker a 1 1;rope p a 1 1;rope q q 1 1;", 4, 32);
    }

    private static void eachRopeOnce() {
        c.part("rig: a ROPE is in a SHIP (each ROPE once)");
        String two = HEAD + "ship y 1;rig p x;";
        taken(two);
        fault(two + "rig p x;", 3, two.length() + 4);
        fault(two + "rig p y;", 3, two.length() + 4);
        fault(two + "rig p z;", 3, two.length() + 4);
        fault(two + "rig p", 3, two.length() + 4);
        RopeWalk x = Check.told("maker a 1 1;rope p a 1 0;rope q a 1 0;ship x 1;rig q x;rig p x;");
        c.due("two in one", x.ship(0, 6), 3);
    }

    private static void plainStormAndSeed() {
        c.part("storm (0), seed (0); 3: storm, seed (at the word)");
        c.due("storm not told", Check.told("seed 5;").calm(1, 0), 1);
        c.due("storm 0 told", Check.told("storm 0;").calm(1, 0), 1);
        fault("storm 0;storm 0;", 3, 8);
        fault("storm 0; storm", 3, 9);
        fault("seed 0;seed 0;", 3, 7);
        fault("seed 0;storm 0;seed", 3, 15);
        String odds = "maker m 0 0;rope p m 99 0;ship x 0;rig p x;sail x 0 30;storm 50;law wear stormy;";
        for (int day = 1; day <= 20; day++) {
            RopeWalk without = Check.told(odds);
            RopeWalk with = Check.told(odds + "seed 0;");
            without.go(day);
            with.go(day);
            c.due("seed 0 is the plain one", Check.rope(without, 0, 3), Check.rope(with, 0, 3));
        }
        fault("law pull 1;law pull 2;", 3, 15);
        fault("law twist 1;law wear 1;law pull 1;law twist", 3, 38);
        fault("law twist 1;law wear 1;law pull 1;law wear 1;", 3, 38);
        fault("law wear 1;law wear;", 3, 15);
        taken("law pull 1;law wear 1;law twist 1;");
    }

    private static void law(String e) {
        taken("law pull " + e + ";");
    }

    private static void lawFault(String e, int place) {
        fault("law pull " + e + ";", 1, 9 + place);
    }

    private static void grammarOfE() {
        c.part("E: A { or A } .. P: N | NAME | '(' E ')'");
        law("1");
        law("day");
        law("(1)");
        law("1 or 2 or 3 and 4 and not not 5");
        law("not 1 < 2 and not(3) = 4 or yards+even-think*sound/bear>=stormy");
        lawFault("", 0);
        lawFault("or 1", 0);
        lawFault("and 1", 0);
        lawFault("* 1", 0);
        lawFault("- 1", 0);
        lawFault("= 1", 0);
        lawFault(") 1", 0);
        lawFault("1 or", 4);
        lawFault("1 and", 5);
        lawFault("not", 3);
        lawFault("1 or or 1", 5);
        lawFault("1 and or 1", 6);
        lawFault("1 + + 1", 4);
        lawFault("1 - - 1", 4);
        lawFault("1 * * 1", 4);
        lawFault("1 1", 2);
        lawFault("1 day", 2);
        lawFault("day 1", 4);
        lawFault("1 (1)", 2);
        lawFault("(1) 1", 4);
        lawFault("(1)(1)", 3);
        lawFault("1 not 1", 2);
        lawFault("()", 1);
        lawFault("(1", 2);
        lawFault("1)", 1);
        lawFault("((1)", 4);
        lawFault("(1))", 3);
        lawFault("(1;)", 2);
        // B: not B | C, and C has only S: a not stands ahead of a C alone.
        lawFault("1 + not 1", 4);
        lawFault("1 * not 1", 4);
        lawFault("1 < not 1", 4);
        law("1 or not 1");
        law("1 and not 1");
        law("not not 1");
        law("1 < (not 1)");
        for (int i = 0; i < WORDS.length; i++) {
            if (i >= FIRST_NAME) {
                law(WORDS[i]);
            } else {
                lawFault(WORDS[i], WORDS[i].equals("not") ? 3 : 0);
            }
        }
        lawFault("yard", 0);
        lawFault("yardss", 0);
        for (String word : WORDS) {
            boolean isLaw = word.equals("twist") || word.equals("wear") || word.equals("pull");
            fault("law " + word + " 1;", isLaw ? 0 : 1, isLaw ? -1 : 4);
        }
    }

    private static void comparingSigns() {
        c.part("A = (or > behind <) right behind < or > belongs to it");
        String[] one = {"<", "<=", "=", "<>", ">=", ">"};
        for (String sign : one) {
            law("1" + sign + "2");
            law("1 " + sign + " 2");
            lawFault("1 " + sign, 2 + sign.length());
            // C has one of them at most.
            for (String other : one) {
                lawFault("1 " + sign + " 2 " + other + " 3", 5 + sign.length());
                law("(1 " + sign + " 2) " + other + " 3");
                law("1 " + sign + " 2 and 3 " + other + " 4");
            }
        }
        lawFault("1 < = 2", 4);
        lawFault("1 <\n= 2", 4);
        lawFault("1 < > 2", 4);
        lawFault("1 > = 2", 4);
        lawFault("1 =< 2", 3);
        lawFault("1 => 2", 3);
        lawFault("1 >< 2", 3);
        lawFault("1 >> 2", 3);
        lawFault("1 << 2", 3);
        lawFault("1 == 2", 3);
        lawFault("1 <>= 2", 4);
        lawFault("1 <=> 2", 4);
        lawFault("1 <== 2", 4);
        lawFault("1 >=> 2", 4);
    }

    private static void numbersOfE() {
        c.part("N of E 0 .. 9999");
        c.due("0", Check.told("ship x 1;law pull 0;").law(2, 0), 0);
        c.due("9999", Check.told("ship x 1;law pull 9999;").law(2, 0), 9999);
        c.due("0009999", Check.told("ship x 1;law pull 0009999;").law(2, 0), 9999);
        fault("law pull 10000;", 2, 9);
        fault("law pull 1 + 10000;", 2, 13);
        fault("law pull (((10000", 2, 12);
        fault("law pull not 10000", 2, 13);
        fault("law pull 1 10000;", 1, 11);
    }

    private static String nested(int open, String inside) {
        return "(".repeat(open) + inside + ")".repeat(open);
    }

    private static void ninthOpen() {
        c.part("2: a ninth '(' open");
        law(nested(8, "1"));
        fault("law pull " + nested(9, "1") + ";", 2, 17);
        fault("law pull 1 + " + nested(9, "1") + ";", 2, 21);
        fault("law pull " + nested(7, "1 + ((1))") + ";", 2, 21);
        law(nested(7, "1 + (1)"));
        law(nested(8, "1") + "+" + nested(8, "2"));
        law(nested(7, "(1) + (2) + (3) + (4)"));
        fault("law pull " + nested(8, "1") + "+" + nested(9, "2") + ";", 2, 35);
        taken("law pull " + nested(8, "1") + ";law wear " + nested(8, "1") + ";law twist " + nested(8, "1") + ";");
        // Where no '(' can stand, that is told, be it the ninth or not.
        fault("law pull " + nested(8, "1(") + ";", 1, 18);
    }

    /** So many KNOTS, an odd number. */
    private static String ones(int knots) {
        return "1" + "+1".repeat(knots / 2);
    }

    private static void knots() {
        c.part("2: a 65th KNOT of all E (N, NAMES, signs, not, and, or: one each)");
        RopeWalk x = Check.told("law pull " + ones(63) + ";law wear 1;");
        c.due("64", x.count(4), 64);
        x = Check.told("law twist " + nested(8, ones(21)) + ";law wear not " + ones(21) + ";law pull " + nested(4, ones(21)) + ";");
        c.due("64 of three, ( and ) are none", x.count(4), 64);
        String full = "law twist not " + ones(63) + ";law wear ";
        int at = full.length();
        for (String last : new String[] {"1", "0", "9999", "10000", "yards", "even", "think", "sound", "bear", "stormy", "day",
            "not"}) {
            fault(full + last, 2, at);
            fault(full + "((((((((" + last, 2, at + 8);
            fault(full + "(((((((((" + last, 2, at + 8);
        }
        String one = "law twist " + ones(63) + ";law wear 1";
        for (String last : new String[] {"+", "-", "*", "/", "<", "<=", "=", "<>", ">=", ">", " and", " or"}) {
            fault(one + last + " 1;", 2, one.length() + (last.charAt(0) == ' ' ? 1 : 0));
        }
        taken(one + ";");
        taken("law twist " + ones(63) + ";law wear ((1));");
        fault(one + ")", 1, one.length());
        fault(one + " 1", 1, one.length() + 1);
        fault(one + " not", 1, one.length() + 1);
        fault(one + ";law pull", 1, one.length() + 9);
        fault(one + ";law pull;", 1, one.length() + 9);
        fault(one + ";law wear 1", 3, one.length() + 5);
        fault("law pull " + ones(65) + ";", 2, 9 + 64);
        fault("law pull " + "not ".repeat(64) + "1;", 2, 9 + 256);
        taken("law pull " + "not ".repeat(63) + "1;");
        // A text with a FAULT leaves the KNOTS of the one ahead, and one without begins at 0 again.
        x = Check.told("law pull " + ones(63) + ";");
        c.due("too many", Check.tell(x, "law wear " + ones(65) + ";"), -1);
        c.due("63 still", x.count(4), 63);
        c.due("63 anew", Check.tell(x, "law wear " + ones(63) + ";"), 1);
        c.due("63", x.count(4), 63);
    }

    private static void firstAlongTheText() {
        c.part("FAULTS, the first along the text");
        fault("ship x 1000;ship x 1;#", 2, 7);
        fault("ship x 1;ship x 1000;#", 3, 14);
        fault("ship x 1;sail y 100 31;", 4, 14);
        fault("ship x 1;sail x 100 31;", 2, 16);
        fault("maker a 10 10;", 2, 8);
        fault("maker a 9 10 9;", 2, 10);
        fault("maker a 9 9 9;", 1, 12);
        fault("rope p a 100;", 4, 7);
        fault("storm 101 1;storm 1;", 2, 6);
        fault("storm 1;storm 101;#", 3, 8);
        fault("#storm 1;storm 1;", 1, 0);
        fault("law pull 10000 1;", 2, 9);
        fault("law pull 1 1 10000;", 1, 11);
        fault("law pull 1;law pull #;", 3, 15);
        fault("rig abcdefg y;", 1, 4);
        fault("ship x 1;rig p y;", 4, 13);
    }

    private static void leastOfOnePlace() {
        c.part("of one place the least");
        String six = many("maker ? 1 1;", "abcdef", 6);
        fault(six + "maker a 1 1;", 2, six.length());
        String ten = "ship x 1;" + "sail x 1 1;".repeat(10);
        fault(ten + "sail y 1 1;", 2, ten.length());
        fault(six + "rope maker a 1 1;", 1, six.length() + 5);
        fault("law pull " + ones(63) + "+;", 1, 73);
        fault("law pull " + ones(63) + "+)", 1, 73);
        fault("law pull " + ones(63) + "+or", 1, 73);
        fault("law pull " + ones(63) + "+10000", 2, 73);
    }

    private static void newObject() {
        c.part("1: a TEXT without LINES; an empty TAPE");
        RopeWalk x = new RopeWalk();
        c.due("fault(0)", x.fault(0), 0);
        c.due("fault(1)", x.fault(1), -1);
        for (int what = 0; what <= 16; what++) {
            c.due("count(" + what + ")", x.count(what), 0);
        }
        c.due("text(1)", x.text(1), -2);
        c.due("text(0)", x.text(0), 0);
        c.due("feed", x.feed(0, 0, 0, 0, 0), 20);
        c.due("as one behind a text without LINES", Look.of(Check.told(" ")).equals(Look.of(new RopeWalk())), true);
        for (int what = 0; what <= 2; what++) {
            c.due("named", new RopeWalk().named(what, Check.letters("a")), -1);
        }
        c.due("no letters are no name", new RopeWalk().named(0, 0), -1);
        c.due("rope(0, 0)", Check.rope(new RopeWalk(), 0, 0), Check.OUT_OF_BOUNDS);
    }

    private static void tapeFull() {
        c.part("2: NONE, and none come, if it would have more than 700");
        RopeWalk x = new RopeWalk();
        for (int i = 1; i <= 34; i++) {
            x.feed(0x20202020, 0x20202020, 0x20202020, 0x20202020, 0x20202020);
        }
        // "     seed 4;" with its ';' as the 700th byte.
        c.due("the 35th", x.feed(0x20202020, 0x20202020, 0x20202073, 0x65656420, 0x2020343b), 700);
        for (int i = 0; i < 3; i++) {
            c.due("the 36th", x.feed(0x23232323, 0x23232323, 0x23232323, 0x23232323, 0x23232323), -1);
        }
        c.due("text(701)", x.text(701), -2);
        c.due("text(700): none came", x.text(700), 1);
        c.due("then there is room", x.feed(1, 2, 3, 4, 5), 20);
        c.due("four of each number, the highest first", Check.tell(new RopeWalk(), "ship abcdef 123;"), 1);
        x = new RopeWalk();
        c.due("-1 is four times 255", x.feed(-1, 0, 0, 0, 0), 20);
        c.due("text(1)", x.text(1), -1);
        c.due("fault(1)", x.fault(1), 0);
        x = new RopeWalk();
        x.feed(0x20202020, 0x20200a80, 0x20202020, 0x20202020, 0x20202020);
        c.due("text(7)", x.text(7), 0);
        x.feed(0x20202020, 0x20200a80, 0x20202020, 0x20202020, 0x20202020);
        c.due("text(8): byte 128", x.text(8), -1);
        c.due("fault(1)", x.fault(1), 7);
        // 700 bytes with the FAULT at the last one, at the length, and none.
        String fill = " ".repeat(693);
        fault(fill + "seed 1#", 1, 699);
        fault(fill + "seed 11", 1, 700);
        taken(fill + "seed 1;");
    }

    private static void textByItsLength() {
        c.part("3: the TAPE's first n bytes");
        String whole = "ship ab 12;law pull 12<=3;";
        for (int n = 0; n <= 40; n++) {
            RopeWalk x = new RopeWalk();
            x.feed(0x73686970, 0x20616220, 0x31323b6c, 0x61772070, 0x756c6c20);
            x.feed(0x31323c3d, 0x333b2020, 0x20202020, 0x20202020, 0x20202020);
            int lines = n == 0 ? 0 : n == 11 ? 1 : n >= 26 ? 2 : -1;
            c.due("text(" + n + ")", x.text(n), lines);
            int place = lines >= 0 ? -1 : n;
            // A word that is cut off is another word.
            boolean isCutWord = (n >= 1 && n <= 3) || (n >= 12 && n <= 13);
            boolean isCutLaw = n >= 16 && n <= 18;
            place = isCutWord ? (n < 11 ? 0 : 11) : isCutLaw ? 15 : place;
            c.due("fault(1) of " + whole.substring(0, Math.min(n, whole.length())), x.fault(1), place);
            c.due("fault(0)", x.fault(0), lines >= 0 ? 0 : 1);
            c.due("it is empty then", x.feed(0, 0, 0, 0, 0), 20);
        }
    }

    private static void textRefused() {
        c.part("3: -2, and the TAPE stays: there are not so many, n is below 0");
        RopeWalk x = new RopeWalk();
        x.feed(0x73656564, 0x20343b20, 0x20202020, 0x20202020, 0x20202020);
        for (int n : new int[] {-1, -2, Integer.MIN_VALUE, 21, 22, 700, 701, Integer.MAX_VALUE}) {
            c.due("text(" + n + ")", x.text(n), -2);
        }
        c.due("text(20)", x.text(20), 1);
        c.due("text(1)", x.text(1), -2);
        c.due("text(0)", x.text(0), 0);
        for (int n : new int[] {-1, Integer.MIN_VALUE, 41, 700, Integer.MAX_VALUE}) {
            c.due("nothing else is touched by text(" + n + ")", Look.isLeftAsItWas(EdgeTextTest::muchDone, y -> y.text(n)), true);
        }
        c.part("3: NONE with a FAULT, all stays");
        for (String text : new String[] {"#", "ship", "ship z 1000;", "ship z 1;ship z 2;", "rig p x;", "storm 90;seed 9;sail",
            "law pull 0;law twist 1;law wear 2;law pull", "maker k 9 9;rope l k 9 9;ship m 9;rig l m;sail m 0 1;#"}) {
            c.due("with " + text, Look.isLeftAsItWas(y -> {
                muchDone(y);
                faultAtOnce(y);
            }, y -> {
                c.due("text " + text, Check.tell(y, text), -1);
                faultAtOnce(y);
            }), true);
        }
    }

    /** fault() and the TAPE are alike then, so that only what else a text ahead has changed tells two apart. */
    private static void faultAtOnce(RopeWalk x) {
        c.due("text #", Check.tell(x, "#"), -1);
    }

    private static void muchDone(RopeWalk x) {
        Check.tell(x, Look.SMALL);
        x.go(1);
        x.see(3, 0, true);
        x.see(4, 1, false);
        x.strike(0);
        x.known(2);
        x.keep();
        x.go(1);
        x.rig(1, 1);
        x.mend(1);
        x.sail(1, 3);
        x.feed(1, 2, 3, 4, 5);
        x.feed(1, 2, 3, 4, 5);
    }

    private static void textBegins() {
        c.part("3: DAY 0, all ROPES TO COME, all SHIPS in HARBOUR, nothing SEEN, all KNOWN, no IMAGE, nothing to undo then");
        RopeWalk x = new RopeWalk();
        muchDone(x);
        faultAtOnce(x);
        Check.tell(x, Look.SMALL);
        c.due("as on a new object", Look.behind(x).equals(Look.behind(Check.told(Look.SMALL))), true);
        x = gone(Look.SMALL.replace("ship x 50", "ship x 5"));
        c.due("some were refused", x.count(12) > 0, true);
        c.due("some came home", x.count(11) > 0, true);
        Check.tell(x, Look.SMALL);
        c.due("as on a new object", Look.behind(x).equals(Look.behind(Check.told(Look.SMALL))), true);
        x = new RopeWalk();
        muchDone(x);
        x.text(0);
        c.due("as a new object", Look.behind(x).equals(Look.behind(new RopeWalk())), true);
    }

    private static RopeWalk gone(String text) {
        RopeWalk x = Check.told(text);
        x.go(9);
        return x;
    }

    /** Of what was told ahead, or read ahead of a FAULT, nothing is found in a later TEXT. */
    private static void nothingIsLeftOver() {
        c.part("3: the bytes are the TEXT, and nothing else is");
        String all = many("maker ? 9 9;", "abcdef", 6) + many("rope ? f 99 0;", "abcdefgh", 8) + many("ship ? 9;", "abcde", 5)
                + many("rig ? e;", "abcdefgh", 8) + many("sail d 0 9;", "abcdefghij", 10) + "storm 70;seed 99999;law twist 1;law wear 2;"
                + "law pull 3;";
        String[] faulty = {all + "#", all + "maker", "storm 1;storm", "seed 1;seed", "law twist ((((((((1", "law wear 1+2*3<4 and",
            "law pull not not not (1 or (2", "maker a 1 1;rope a a 1 0;ship a 1;rig a a;rig", "ship x 1;sail x 0 1;sail x 1 1;sail",
            "law twist " + ones(65) + ";"};
        String[] texts = {" ", Look.SMALL, Look.SMALL.replace("seed 7;", ""), "law pull " + nested(8, "1") + ";ship x 1;", "law wear 1 or 2 and 3;storm 2;seed 3;", all,
            "law twist " + ones(63) + ";maker a 1 1;rope a a 1 0;"};
        for (String text : texts) {
            String due = Look.behind(Check.told(text));
            RopeWalk x = new RopeWalk();
            for (int i = 0; i < 4; i++) {
                c.due("all of everything", Check.tell(x, all) > 0, true);
            }
            Check.tell(x, text);
            c.due("behind others: " + text, Look.behind(x).equals(due), true);
            for (String fault : faulty) {
                x = new RopeWalk();
                Check.tell(x, fault);
                Check.tell(x, text);
                c.due("behind one with a FAULT: " + text, Look.behind(x).equals(due), true);
                x = Check.told(all);
                Check.tell(x, fault);
                Check.tell(x, fault);
                Check.tell(x, text);
                c.due("behind some with a FAULT: " + text, Look.behind(x).equals(due), true);
            }
        }
        evensOfALaterText();
    }

    private static void evensOfALaterText() {
        c.part("3: what is worked out of one TEXT is not that of the next");
        RopeWalk x = new RopeWalk();
        for (int load = 15; load <= 95; load += 10) {
            Check.tell(x, "maker m 0 1;maker n 0 1;rope p m 1 0;rope q n 1 0;ship x " + load + ";ship y " + (110 - load)
                    + ";rig p x;rig q y;sail x 0 1;sail y 0 1;");
            x.see(1, 0, true);
            c.due("lost by EVEN below " + load, x.evens(0), (1 << (load + 8) / 10) - 1);
            c.due("not so by n's", x.evens(1), 1023);
            x.known(0);
            x.see(1, 1, true);
            x.strike(0);
            x.known(3);
            c.due("lost by n's EVEN below", x.evens(1), (1 << (118 - load) / 10) - 1);
        }
        for (int i = 0; i < 2; i++) {
            Check.tell(x, "maker m 0 1;rope p m 1 0;ship x 1;rig p x;sail x 0 1;");
            x.see(1, 0, true);
            c.due("lost by none", x.evens(0), 0);
        }
    }

    private static void faultOfTheLatest() {
        c.part("4: of the latest text() that was not -2");
        RopeWalk x = new RopeWalk();
        Check.tell(x, "ship x 1000;");
        c.due("fault(0)", x.fault(0), 2);
        c.due("fault(1)", x.fault(1), 7);
        x.text(-1);
        x.text(1);
        x.feed(0, 0, 0, 0, 0);
        x.text(21);
        c.due("fault(0) behind -2", x.fault(0), 2);
        c.due("fault(1) behind -2", x.fault(1), 7);
        x.text(20);
        c.due("fault(0) behind another", x.fault(0), 1);
        c.due("fault(1) behind another", x.fault(1), 0);
        x.text(0);
        c.due("fault(0) behind one without", x.fault(0), 0);
        c.due("fault(1) behind one without", x.fault(1), -1);
        Check.tell(x, "#");
        for (int what : new int[] {-1, 2, 3, Integer.MIN_VALUE, Integer.MAX_VALUE}) {
            c.due("fault(" + what + ")", x.fault(what), -1);
        }
    }

    private static void named() {
        c.part("5: by its letters, 5 bits each; NONE: there is none such");
        RopeWalk x = Check.told("maker a 1 1;maker b 1 1;maker c 1 1;maker d 1 1;maker e 1 1;maker zzzzzz 1 1;rope a a 1 1;ship zzz 1;");
        c.due("the first", x.named(0, Check.letters("a")), 0);
        c.due("the last", x.named(0, Check.letters("zzzzzz")), 5);
        c.due("the only rope", x.named(1, Check.letters("a")), 0);
        c.due("the only ship", x.named(2, Check.letters("zzz")), 0);
        c.due("of another kind", x.named(1, Check.letters("b")), -1);
        c.due("more letters", x.named(2, Check.letters("zzzz")), -1);
        c.due("fewer letters", x.named(2, Check.letters("zz")), -1);
        c.due("a not first", x.named(0, 1 << 20), -1);
        c.due("a last", x.named(0, 1), -1);
        c.due("a sign behind what is 0", x.named(0, 1 << 25 | 1), -1);
        c.due("no letter 27", x.named(0, 27 << 25), -1);
        c.due("a bit above six letters", x.named(0, 1 << 30 | 1 << 25), -1);
        c.due("below 0", x.named(0, 1 << 31 | 1 << 25), -1);
        for (int letters : new int[] {0, -1, Integer.MIN_VALUE, Integer.MAX_VALUE}) {
            for (int what = 0; what <= 2; what++) {
                c.due("named(" + what + ", " + letters + ")", x.named(what, letters), -1);
            }
        }
        for (int what : new int[] {-1, 3, Integer.MIN_VALUE, Integer.MAX_VALUE}) {
            c.due("named(" + what + ", a)", x.named(what, Check.letters("a")), -1);
        }
    }
}
