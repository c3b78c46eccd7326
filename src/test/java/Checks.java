import java.nio.charset.StandardCharsets;

/** What the tests share: they compare answers, print the wrong ones and end with 1 if there was one. */
final class Checks {
    private static int asked = 0;
    private static int wrong = 0;

    private Checks() {
    }

    static void same(String what, long got, long want) {
        asked++;
        if (got != want) {
            wrong++;
            System.out.println(what + " answered " + got + ", due is " + want);
        }
    }

    static void same(String what, boolean got, boolean want) {
        same(what, got ? 1 : 0, want ? 1 : 0);
    }

    static void fail(String what) {
        asked++;
        wrong++;
        System.out.println(what);
    }

    static void end(String name) {
        System.out.println(name + ": " + asked + " answers, " + wrong + " wrong");
        if (wrong != 0) {
            System.exit(1);
        }
    }

    static int at(byte[] bytes, int place) {
        int four = 0;
        for (int i = place; i < place + 4; i++) {
            four = four << 8 | (i < bytes.length ? bytes[i] & 255 : 0);
        }
        return four;
    }

    static void feed(PaidHouse house, String text) {
        byte[] bytes = text.getBytes(StandardCharsets.ISO_8859_1);
        for (int i = 0; i < bytes.length; i += 20) {
            house.feed(at(bytes, i), at(bytes, i + 4), at(bytes, i + 8), at(bytes, i + 12), at(bytes, i + 16));
        }
    }

    static int law(PaidHouse house, int sort, String text) {
        feed(house, text);
        return house.law(sort, text.length());
    }

    static void numbers(PaidHouse house, int... numbers) {
        for (int i = 0; i < numbers.length; i += 5) {
            int[] five = new int[5];
            for (int j = 0; j < 5 && i + j < numbers.length; j++) {
                five[j] = numbers[i + j];
            }
            house.feed(five[0], five[1], five[2], five[3], five[4]);
        }
    }
}
