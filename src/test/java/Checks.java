import java.nio.charset.StandardCharsets;
import java.util.function.IntPredicate;
import java.util.function.IntToLongFunction;

/** What the tests share: they compare answers, print the wrong ones and end with 1 if there was one. */
final class Checks {
    private static int asked = 0;
    private static int wrong = 0;

    private Checks() {
    }

    static void same(String what, long got, long want) {
        asked++;
        if (got != want) {
            wrong++;
            System.out.println(what + " answered " + got + ", due is " + want);
        }
    }

    static void same(String what, boolean got, boolean want) {
        same(what, got ? 1 : 0, want ? 1 : 0);
    }

    static void fail(String what) {
        asked++;
        wrong++;
        System.out.println(what);
    }

    /** Numbers outside of a span: the first ones on both sides, and those that a wrap-around would bring into it. */
    static int[] beyond(int least, int greatest) {
        return new int[] {least - 1, greatest + 1, least - 32, greatest + 32, least - 256, greatest + 256,
            least - 65536, greatest + 65536, least - (1 << 24), greatest + (1 << 24), Integer.MIN_VALUE,
            Integer.MAX_VALUE};
    }

    /** The last numbers that may be are taken, all beyond them are not. */
    static void span(String what, int least, int greatest, IntPredicate call) {
        for (int n : beyond(least, greatest)) {
            same(what + " " + n, call.test(n), false);
        }
        same(what + " " + least, call.test(least), true);
        same(what + " " + greatest, call.test(greatest), true);
    }

    /** The same for calls that answer a number if they refuse. */
    static void span(String what, int least, int greatest, IntToLongFunction call, long refusal) {
        span(what, least, greatest, n -> call.applyAsLong(n) != refusal);
    }

    static int bits(int... seats) {
        int set = 0;
        for (int s : seats) {
            set |= 1 << s;
        }
        return set;
    }

    /** People of sort 0 on seats 0 to n - 1, none of whom knows. */
    static PaidHouse people(int n, int seconds, String law) {
        PaidHouse x = new PaidHouse();
        for (int s = 0; s < n; s++) {
            x.seat(s, 0, 0);
        }
        x.seconds(seconds);
        if (!law.isEmpty()) {
            same("law " + law, law(x, 0, law) > 0, true);
        }
        return x;
    }

    static void end(String name) {
        System.out.println(name + ": " + asked + " answers, " + wrong + " wrong");
        if (wrong != 0) {
            System.exit(1);
        }
    }

    static int at(byte[] bytes, int place) {
        int four = 0;
        for (int i = place; i < place + 4; i++) {
            four = four << 8 | (i < bytes.length ? bytes[i] & 255 : 0);
        }
        return four;
    }

    static void feed(PaidHouse house, String text) {
        byte[] bytes = text.getBytes(StandardCharsets.ISO_8859_1);
        for (int i = 0; i < bytes.length; i += 20) {
            house.feed(at(bytes, i), at(bytes, i + 4), at(bytes, i + 8), at(bytes, i + 12), at(bytes, i + 16));
        }
    }

    static int law(PaidHouse house, int sort, String text) {
        feed(house, text);
        return house.law(sort, text.length());
    }

    static void numbers(PaidHouse house, int... numbers) {
        for (int i = 0; i < numbers.length; i += 5) {
            int[] five = new int[5];
            for (int j = 0; j < 5 && i + j < numbers.length; j++) {
                five[j] = numbers[i + j];
            }
            house.feed(five[0], five[1], five[2], five[3], five[4]);
        }
    }
}
