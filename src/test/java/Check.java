/** What the tests share: counting wrong answers, and feeding a text. */
final class Check {
    private static int asked = 0;
    private static int wrong = 0;

    private Check() {
    }

    static void due(String call, long want, long got) {
        asked++;
        if (got != want) {
            wrong++;
            System.out.println(call + " answered " + got + ", due is " + want);
        }
    }

    static void due(String call, boolean want, boolean got) {
        due(call, want ? 1L : 0L, got ? 1L : 0L);
    }

    static boolean isClean() {
        return wrong == 0;
    }

    /** Puts a text behind what the tape has; 20 bytes a call, the last call's filling cut off. */
    static void write(TeaBook x, String text) {
        for (int from = 0; from < text.length(); from += 20) {
            int[] n = numbers(text, from);
            int length = x.feed(n[0], n[1], n[2], n[3], n[4]);
            x.end(length - Math.max(0, from + 20 - text.length()));
        }
    }

    static int[] numbers(String text, int from) {
        int[] n = new int[5];
        for (int i = 0; i < 20; i++) {
            int c = from + i < text.length() ? text.charAt(from + i) : ' ';
            n[i / 4] = n[i / 4] << 8 | c & 255;
        }
        return n;
    }

    static int rules(TeaBook x, String text) {
        write(x, text);
        return x.rules();
    }

    static void finish() {
        System.out.println(asked + " answers looked at, " + wrong + " not as due");
        if (wrong != 0) {
            System.exit(1);
        }
    }
}
