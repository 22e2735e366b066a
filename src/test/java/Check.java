/** What the tests share: counting wrong answers, and feeding a text. */
final class Check {
    private static int asked = 0;
    private static int wrong = 0;
    private static String sentence = "";

    private Check() {
    }

    /** Names the sentence of the document that the next answers are looked at for. */
    static void sentence(String words) {
        sentence = "[" + words + "] ";
    }

    static void due(String call, long want, long got) {
        asked++;
        if (got != want) {
            wrong++;
            System.out.println(sentence + call + " answered " + got + ", due is " + want);
        }
    }

    static void due(String call, boolean want, boolean got) {
        due(call, want ? 1L : 0L, got ? 1L : 0L);
    }

    static boolean isClean() {
        return wrong == 0;
    }

    /** Puts a text behind what the tape has; 20 bytes a call, the last call's filling cut off. */
    static void write(Book x, String text) {
        for (int from = 0; from < text.length(); from += 20) {
            int[] n = numbers(text, from);
            int length = x.feed(n[0], n[1], n[2], n[3], n[4]);
            if (from + 20 > text.length()) {
                x.end(length - (from + 20 - text.length()));
            }
        }
    }

    static int[] numbers(String text, int from) {
        int[] n = new int[5];
        for (int i = 0; i < 20; i++) {
            int c = from + i < text.length() ? text.charAt(from + i) : ' ';
            n[i / 4] = n[i / 4] << 8 | c & 255;
        }
        return n;
    }

    static int rules(Book x, String text) {
        write(x, text);
        return x.rules();
    }

    static void passes(String text, int rules) {
        Book x = new Book();
        due("rules of '" + text + "'", rules, rules(x, text));
        due("look(4) with '" + text + "'", rules, x.look(4));
        due("fault(0) of '" + text + "'", 0, x.fault(0));
        due("fault(1) of '" + text + "'", TeaBook.NONE, x.fault(1));
    }

    static void fails(String text, int fault, int place) {
        Book x = new Book();
        due("rules of '" + text + "'", TeaBook.NONE, rules(x, text));
        due("fault(0) of '" + text + "'", fault, x.fault(0));
        due("fault(1) of '" + text + "'", place, x.fault(1));
    }

    static void finish() {
        System.out.println(asked + " answers looked at, " + wrong + " not as due");
        if (wrong != 0) {
            System.exit(1);
        }
    }
}
