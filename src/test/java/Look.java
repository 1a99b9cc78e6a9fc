import java.util.function.Consumer;

/** All that can be asked of an object, as a text: two objects with the same look are alike in every answer. */
final class Look {
    /** Told once, two ropes and two ships with all that days and calls can bring about. */
    static final String SMALL = "maker a 3 4;maker b 7 2;rope p a 20 0;rope q b 30 0;rope r b 5 9;ship x 50;ship y 99;rig p x;"
            + "sail x 1 4;sail x 3 2;sail y 6 1;storm 30;seed 7;law twist even*10+yards+bear/9;law wear 1+stormy*2;";

    private Look() {
    }

    /** Only by calls that change nothing; some 90 of them for SMALL. */
    static String of(RopeWalk x) {
        StringBuilder all = new StringBuilder();
        for (int what = 0; what <= 16; what++) {
            all.append(' ').append(x.count(what));
        }
        all.append(" fault ").append(x.fault(0)).append(' ').append(x.fault(1));
        for (int maker = 0; maker < x.count(0); maker++) {
            all.append(" maker ").append(x.maker(maker, 0)).append(' ').append(x.maker(maker, 1)).append(' ').append(x.evens(maker));
        }
        for (int rope = 0; rope < x.count(1); rope++) {
            all.append(" rope");
            for (int what = 0; what <= 4; what++) {
                all.append(' ').append(Check.rope(x, rope, what));
            }
            all.append(' ').append(x.law(0, rope)).append(' ').append(x.law(1, rope));
        }
        for (int ship = 0; ship < x.count(2); ship++) {
            all.append(" ship");
            for (int what = 0; what <= 6; what++) {
                all.append(' ').append(x.ship(ship, what));
            }
            all.append(' ').append(x.law(2, ship)).append(' ').append(x.loses(ship)).append(' ').append(x.homes(ship));
        }
        all.append(" calm ").append(x.calm(1, 0)).append(' ').append(x.calm(1, 1));
        return all.toString();
    }

    /** By calls that change it: what can be undone, the tape, the image, the numbers to come. */
    static String behind(RopeWalk x) {
        StringBuilder all = new StringBuilder(of(x));
        for (int left = x.undo(); left >= 0; left = x.undo()) {
            all.append(" undo ").append(left).append(' ').append(x.count(13)).append(' ').append(x.count(9)).append(' ')
                    .append(x.ship(0, 6));
        }
        all.append(" feed ").append(x.feed(0, 0, 0, 0, 0));
        all.append(" go ").append(x.go(2)).append(' ').append(x.count(13)).append(' ').append(x.count(10));
        all.append(" back ").append(x.back()).append(of(x));
        all.append(" go ").append(x.go(5)).append(of(x));
        return all.toString();
    }

    /** Two objects alike, of which one has had some calls more: whether no answer tells them apart. */
    static boolean isLeftAsItWas(Consumer<RopeWalk> ahead, Consumer<RopeWalk> more) {
        RopeWalk with = new RopeWalk();
        RopeWalk without = new RopeWalk();
        ahead.accept(with);
        ahead.accept(without);
        more.accept(with);
        return behind(with).equals(behind(without));
    }
}
