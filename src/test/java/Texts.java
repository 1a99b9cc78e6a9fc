import java.util.Random;

/** Texts by dice: most can be told, some bear a fault by a token put in, left out or changed. */
final class Texts {
    static final String[] NAMES = {"a", "b", "c", "ab", "abcdef", "zz", "p", "q", "makers", "nots", "days", "x"};
    private static final String[] SOUP = {"maker", "rope", "ship", "rig", "sail", "storm", "seed", "law", "twist", "wear",
        "pull", "or", "and", "not", "yards", "even", "think", "sound", "bear", "stormy", "day", "a", "b", "abcdefg", "0",
        "1", "9", "10", "30", "31", "99", "100", "101", "999", "1000", "9999", "10000", "99999", "100000",
        "99999999999999999999", "007", ";", "(", ")", "<", "<=", "=", "<>", ">=", ">", "+", "-", "*", "/", "#", "A",
        "\t", "\u00e9", "\n", " ", "((((", "))))", "not not not not", "1 + 1 + 1 + 1 + 1"};
    private static final String[] SIGNS = {"+", "-", "*", "/", "<", "<=", "=", "<>", ">=", ">", "and", "or"};
    private static final String[] VALUES = {"yards", "even", "think", "sound", "bear", "stormy", "day"};
    private final Random dice;
    private final StringBuilder text = new StringBuilder();
    private boolean isCrowded;

    Texts(Random dice) {
        this.dice = dice;
    }

    String text(boolean mayBeWrong) {
        isCrowded = mayBeWrong && dice.nextInt(3) == 0;
        lines();
        String all = text.toString();
        for (int i = dice.nextInt(3); mayBeWrong && i > 0; i--) {
            all = changed(all);
        }
        return all.length() > 640 ? all.substring(0, 640) : all;
    }

    private String changed(String all) {
        int at = dice.nextInt(all.length() + 1);
        int till = Math.min(all.length(), at + dice.nextInt(4));
        String put = dice.nextInt(5) == 0 ? "" : SOUP[dice.nextInt(SOUP.length)];
        switch (dice.nextInt(4)) {
            case 0:
                return all.substring(0, at);
            case 1:
                return all.substring(0, at) + " " + put + " " + all.substring(at);
            case 2:
                return all.substring(0, at) + put + all.substring(till);
            default:
                int from = all.lastIndexOf(' ', Math.max(0, at - 1)) + 1;
                int to = all.indexOf(' ', from);
                return all.substring(0, from) + put + (to < 0 ? ";" : all.substring(to));
        }
    }

    private void put(Object... words) {
        for (Object word : words) {
            text.append(word).append(word.equals(";") ? "" : dice.nextInt(15) == 0 ? " \n" : " ");
        }
    }

    private void lines() {
        int makers = 1 + dice.nextInt(isCrowded ? 7 : 4);
        int ropes = dice.nextInt(12) == 0 ? 0 : 2 + dice.nextInt(isCrowded ? 8 : 7);
        int ships = dice.nextInt(12) == 0 ? 0 : 1 + dice.nextInt(isCrowded ? 6 : 5);
        int sails = dice.nextInt(isCrowded ? 12 : 9);
        int rigged = 3 + dice.nextInt(6);
        boolean isSmall = dice.nextBoolean();
        for (int i = 0; i < makers; i++) {
            put("maker", pick(i, "m"), dice.nextInt(isSmall ? 3 : 10), dice.nextInt(10), ";");
        }
        for (int i = 0; i < ropes; i++) {
            int day = dice.nextInt(3) == 0 ? dice.nextInt(12) : 0;
            put("rope", pick(i, "r"), pick(dice.nextInt(makers), "m"), 1 + dice.nextInt(isSmall ? 9 : 99), day, ";");
        }
        for (int i = 0; i < ships; i++) {
            put("ship", pick(i, "s"), load(), ";");
        }
        for (int i = 0; i < ropes && ships > 0; i++) {
            if (dice.nextInt(10) < rigged) {
                put("rig", pick(i, "r"), pick(dice.nextInt(ships), "s"), ";");
            }
        }
        for (int i = 0; i < sails && ships > 0; i++) {
            int day = dice.nextInt(5) == 0 ? dice.nextInt(100) : dice.nextInt(12);
            put("sail", pick(dice.nextInt(ships), "s"), day, 1 + dice.nextInt(dice.nextInt(4) == 0 ? 30 : 5), ";");
        }
        if (dice.nextInt(3) != 0) {
            put("storm", dice.nextInt(4) == 0 ? dice.nextInt(3) * 50 : dice.nextInt(101), ";");
        }
        if (dice.nextBoolean()) {
            put("seed", dice.nextInt(100000), ";");
        }
        law("twist");
        law("wear");
        law("pull");
    }

    private int load() {
        switch (dice.nextInt(8)) {
            case 0:
                return dice.nextInt(1000);
            case 1:
                return dice.nextInt(10);
            default:
                return 20 + dice.nextInt(100);
        }
    }

    private String pick(int i, String kind) {
        return i % 3 == 2 ? NAMES[i] : kind + (char) ('a' + i);
    }

    private void law(String law) {
        if (dice.nextInt(5) < 2) {
            put("law", law);
            e(dice.nextInt(6) == 0 ? 5 : 3, law);
            put(";");
        }
    }

    /** An E of some depth; its parts stand in ( ) but where dice leave them bare. */
    private void e(int depth, String law) {
        if (depth == 0 || dice.nextInt(4) == 0) {
            value(law);
            return;
        }
        if (dice.nextInt(8) == 0) {
            put("(", "not");
            e(depth - 1, law);
            put(")");
            return;
        }
        String sign = SIGNS[dice.nextInt(dice.nextInt(3) == 0 ? SIGNS.length : 4)];
        boolean isBare = sign.length() == 1 && "+-*/".contains(sign) && dice.nextInt(3) != 0;
        if (!isBare) {
            put("(");
        }
        value(law);
        put(sign);
        e(depth - 1, law);
        if (!isBare) {
            put(")");
        }
    }

    private void value(String law) {
        if (dice.nextInt(3) == 0) {
            put(dice.nextInt(8) == 0 ? dice.nextInt(10000) : dice.nextInt(law.equals("pull") ? 60 : 12));
        } else {
            put(VALUES[dice.nextInt(VALUES.length)]);
        }
    }
}
