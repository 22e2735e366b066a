/** The edges of the text of the rules: its tokens, its faults and their places, and what its words mean. */
public final class TextEdgesTest {
    private static final int NONE = TeaBook.NONE;

    public static void main(String[] args) {
        numbers();
        everyByteBetween();
        everyByteBehindAWord();
        everyByteBehindANumber();
        words();
        everyTokenEverywhere();
        endOfEveryBeginning();
        longestText();
        thirteenthRule();
        ninthOpen();
        closedOnesAreNotOpen();
        firstByPlace();
        leastAtOnePlace();
        values();
        deepest();
        ages();
        thingsThatAreNotInTheSet();
        Check.finish();
    }

    private static void numbers() {
        Check.sentence("Terms: NUMBERS of 1 to 4 digits or none");
        for (String number : new String[] {"0", "9", "00", "99", "000", "999", "0000", "9999", "0001", "1000"}) {
            Check.passes("bar " + number + "=1;", 1);
            Check.passes("bar 1=" + number + ";", 1);
        }
        for (String number : new String[] {"00000", "10000", "99999", "00001", "000000", "2147483647", "2147483648",
            "4294967297", "18446744073709551617", "1".repeat(590)}) {
            Check.fails("bar " + number + "=1;", 1, 4);
            Check.fails("bar 1=" + number + ";", 1, 6);
        }
        Check.sentence("Terms: digits as many as stand together");
        Check.fails("bar 1234 5=1;", 1, 9);
        Check.fails("bar 1=1234 5;", 1, 11);
        Check.passes("bar 1234=5678;", 1);
    }

    private static boolean isLetter(int c) {
        return c >= 'a' && c <= 'z' || c >= 'A' && c <= 'Z';
    }

    private static boolean isDigit(int c) {
        return c >= '0' && c <= '9';
    }

    private static boolean isBlank(int c) {
        return c == 32 || c == 10;
    }

    /** Behind a rule nothing can stand but blanks and bar, whatever a byte is, at each place of a number. */
    private static void everyByteBetween() {
        Check.sentence("Terms: blanks (32, 10) between");
        for (int c = 0; c < 256; c++) {
            for (int place = 0; place < 4; place++) {
                String text = "bar 1=1;" + " ".repeat(place) + (char) c;
                if (isBlank(c)) {
                    Check.passes(text, 1);
                } else {
                    Check.fails(text, 1, 8 + place);
                }
            }
        }
    }

    private static void everyByteBehindAWord() {
        Check.sentence("Terms: letters as many as stand together are KEYWORDS or none");
        for (int c = 0; c < 256; c++) {
            String text = "bar" + (char) c + "1=1;";
            if (isBlank(c) || isDigit(c)) {
                Check.passes(text, 1);
            } else if (isLetter(c)) {
                Check.fails(text, 1, 0);
            } else {
                Check.fails(text, 1, c == '(' ? 7 : 3);
            }
        }
    }

    private static void everyByteBehindANumber() {
        Check.sentence("Terms: FAULT 1 what can't stand there");
        for (int c = 0; c < 256; c++) {
            String text = "bar 1" + (char) c + "1=1;";
            if (isDigit(c)) {
                Check.passes(text, 1);
            } else if (isBlank(c)) {
                Check.fails(text, 1, 6);
            } else {
                boolean sign = c == '<' || c == '=' || c == '>';
                Check.fails(text, 1, sign ? 7 : 5);
            }
        }
    }

    /** Every word where it can stand, and what is nearly that word. */
    private static void words() {
        Check.sentence("Terms: KEYWORDS (those told here) or none");
        String[][] texts = {
            {"@ 1=1;", "bar"}, {"bar 1=1 @ 1=1;", "or", "and"}, {"bar @ 1=1;", "not"},
            {"bar @=1;", "season", "guests"}, {"bar @ bowl=1;", "rank", "tone", "age", "has"},
            {"bar rank @=1;", "bowl", "scroll", "kettle", "vase", "scoop"}};
        for (String[] row : texts) {
            int place = row[0].indexOf('@');
            for (int i = 1; i < row.length; i++) {
                String word = row[i];
                Check.passes(row[0].replace("@", word), 1);
                String[] others = {
                    word.substring(1), word.substring(0, word.length() - 1), word + "s", "s" + word, word + word,
                    word.toUpperCase(), word.substring(0, 1).toUpperCase() + word.substring(1),
                    word + "Z", "A" + word, word.replace(word.charAt(1), 'x'), "x".repeat(word.length()), "bar".repeat(3)};
                for (String other : others) {
                    Check.fails(row[0].replace("@", other), 1, place);
                }
            }
        }
    }

    /** Behind each beginning all that can stand is told; every other token is a fault just there. */
    private static void everyTokenEverywhere() {
        Check.sentence("Terms: FAULT 1 what can't stand there");
        String clause = " not ( 7 season guests rank tone age has ";
        String term = " 7 season guests rank tone age has ";
        String kind = " bowl scroll kettle vase scoop ";
        String[][] can = {
            {"", " bar "}, {"bar 1=1; ", " bar "}, {"bar ", clause}, {"bar not ", clause}, {"bar (", clause},
            {"bar 1=1 or ", clause}, {"bar 1=1 and ", clause}, {"bar 1 ", " < = > "}, {"bar season ", " < = > "},
            {"bar guests ", " < = > "}, {"bar rank bowl ", " < = > "}, {"bar has scoop ", " < = > "},
            {"bar rank ", kind}, {"bar tone ", kind}, {"bar age ", kind}, {"bar has ", kind}, {"bar 1=rank ", kind},
            {"bar 1=has ", kind}, {"bar 1<", term}, {"bar 1=", term}, {"bar season>", term}, {"bar 1=1 ", " ; or and "},
            {"bar 1=season ", " ; or and "}, {"bar 1=age vase ", " ; or and "}, {"bar not 1=1 ", " ; or and "},
            {"bar (1=1) ", " ; or and "}, {"bar not (1=1) ", " ; or and "}, {"bar (1=1 ", " ) or and "},
            {"bar (not 1=1 ", " ) or and "}, {"bar ((1=1) ", " ) or and "}, {"bar not ((1=1) ", " ) or and "}};
        String all = "bar or and not season guests rank tone age has bowl scroll kettle vase scoop ; ( ) < = > 7 "
                + "12345 x \t \0 ! ' * , - . / : ? @ [ ` { \u007f \u0080 \u00ff";
        for (String[] row : can) {
            for (String token : all.split(" ")) {
                boolean good = row[1].contains(" " + token + " ");
                String text = row[0] + token;
                Book x = new Book();
                int rules = Check.rules(x, text);
                if (good && token.equals(";")) {
                    Check.due("rules of '" + text + "'", 1, rules);
                } else {
                    Check.due("rules of '" + text + "'", NONE, rules);
                    Check.due("fault(0) of '" + text + "'", 1, x.fault(0));
                    Check.due("fault(1) of '" + text + "'", good ? text.length() : row[0].length(), x.fault(1));
                }
            }
        }
    }

    /** Cut within a word, the rest of it is none; cut elsewhere, the end can't stand there. */
    private static void endOfEveryBeginning() {
        Check.sentence("Terms: 1 what can't stand there (the end: the text's length)");
        String text = "bar not (rank bowl<5 and not 1=season) or has vase>guests;";
        for (int length = 1; length < text.length(); length++) {
            String beginning = text.substring(0, length);
            int place = length;
            if (isLetter(text.charAt(length - 1)) && isLetter(text.charAt(length))) {
                while (place > 0 && isLetter(text.charAt(place - 1))) {
                    place--;
                }
            }
            Check.fails(beginning, 1, place);
            if (place == length) {
                Check.fails(beginning + " ", 1, length + 1);
                Check.fails(beginning + "\n\n \n", 1, length + 4);
            }
        }
        Check.passes(text, 1);
    }

    private static void longestText() {
        Check.sentence("Terms: the end: the text's length, up to 600");
        String rule = "bar 1=1;";
        Check.passes(" ".repeat(592) + rule, 1);
        Check.passes("bar 1=1" + " ".repeat(592) + ";", 1);
        Check.fails(" ".repeat(593) + "bar 1=1", 1, 600);
        Check.fails(" ".repeat(592) + "bar 1=1", 1, 599);
        Check.fails(" ".repeat(597) + "bar", 1, 600);
        Check.fails(" ".repeat(598) + "ba", 1, 598);
        Check.fails(" ".repeat(599) + ";", 1, 599);
        Check.fails("\n".repeat(599) + "7", 1, 599);
        Check.fails("bar 1=1;" + " ".repeat(591) + "9", 1, 599);
        Check.fails("bar 1=1;" + " ".repeat(588) + "9999", 1, 596);
        Check.fails("b".repeat(600), 1, 0);
        Check.fails("bar " + "9".repeat(596), 1, 4);
        Check.fails("(".repeat(600), 1, 0);
        Check.fails("bar" + "(".repeat(597), 2, 11);
        Check.fails("bar" + "not ".repeat(149), 1, 0);
        Check.fails("bar " + "not ".repeat(149), 2, 36);
        Check.sentence("Terms: E = A {or A}. A = C {and C}, as many as the TAPE holds");
        for (String joint : new String[] {"or", "and"}) {
            String part = "1=1" + joint;
            int parts = (600 - 8) / part.length();
            Book x = Scenes.everywhere();
            Check.due("a text full of " + joint, 1, Check.rules(x, "bar " + part.repeat(parts) + "1=2;"));
            Check.due("barred by it", joint.equals("or") ? 0 : NONE, x.barred(0, 1, 1));
            Check.due("a text full of " + joint, 1, Check.rules(x, "bar " + part.replace("1=1", "1=2").repeat(parts) + "1=1;"));
            Check.due("barred by it", joint.equals("or") ? 0 : NONE, x.barred(0, 1, 1));
            Check.due("a text full of " + joint, 1, Check.rules(x, "bar " + part.repeat(parts) + "1=1;"));
            Check.due("barred by it", 0, x.barred(0, 1, 1));
        }
    }

    private static void thirteenthRule() {
        Check.sentence("Terms: 2 (at bar) the 13th RULE");
        String rule = "bar 1=1;";
        for (int count : new int[] {1, 11, 12}) {
            Check.passes(rule.repeat(count), count);
        }
        for (String rest : new String[] {"bar 1=1;", "bar", "bar ;", "bar 1=1", "bar 1=1;bar 1=1;", "bar bar", "bar x", "bar 12345"}) {
            Check.fails(rule.repeat(12) + rest, 2, 96);
            Check.fails(rule.repeat(12) + " \n" + rest, 2, 98);
        }
        for (String rest : new String[] {"x", ";", "1", "ba", "bars", "Bar", "not", "(", "\t", "12345"}) {
            Check.fails(rule.repeat(12) + rest, 1, 96);
        }
        Check.fails(rule.repeat(75), 2, 96);
    }

    private static void ninthOpen() {
        Check.sentence("Terms: 2 (at it) the 9th not or ( that is open");
        for (int brackets = 0; brackets <= 9; brackets++) {
            int nots = 9 - brackets;
            String first = "bar " + "(".repeat(brackets) + "not ".repeat(nots);
            Check.fails(first + "1=1" + ")".repeat(brackets) + ";", 2, nots == 0 ? 12 : 4 + brackets + 4 * (nots - 1));
            String second = "bar " + "not ".repeat(nots) + "(".repeat(brackets);
            Check.fails(second + "1=1" + ")".repeat(brackets) + ";", 2, brackets == 0 ? 36 : 4 + 4 * nots + brackets - 1);
        }
        for (int brackets = 0; brackets <= 8; brackets++) {
            int nots = 8 - brackets;
            Check.passes("bar " + "(".repeat(brackets) + "not ".repeat(nots) + "1=1" + ")".repeat(brackets) + ";", 1);
            Check.passes("bar " + "not ".repeat(nots) + "(".repeat(brackets) + "1=1" + ")".repeat(brackets) + ";", 1);
        }
        Check.fails("bar 1=1;".repeat(11) + "bar " + "(".repeat(9), 2, 100);
        Check.fails("bar 1=1 or " + "(".repeat(9), 2, 19);
        Check.fails("bar 1=1 and " + "not ".repeat(9), 2, 44);
        Check.fails("bar " + "(".repeat(8) + "1=1 and not 1=1", 2, 20);
        Check.fails("bar " + "(".repeat(8) + "1=1 or (1=1", 2, 19);
        Check.fails("bar " + "(".repeat(8) + "1=1) and ((1=1", 2, 22);
    }

    private static void closedOnesAreNotOpen() {
        Check.sentence("Terms: the 9th that is open: a ( until its ), a not until its C ends");
        String inside = "(".repeat(7) + "@" + ")".repeat(7);
        Check.passes("bar " + inside.replace("@", "not 1=1 and not 1=1 or not 1=1") + ";", 1);
        Check.passes("bar " + inside.replace("@", "(1=1) and (1=1) or (1=1)") + ";", 1);
        Check.passes("bar " + inside.replace("@", "not 1=1 and (1=1) or not 1=1") + ";", 1);
        Check.passes("bar not " + "(".repeat(7) + "1=1" + ")".repeat(7) + " and " + "(".repeat(8) + "1=1" + ")".repeat(8) + ";", 1);
        Check.passes("bar " + "not ".repeat(8) + "1=1 or " + "not ".repeat(8) + "1=1 and " + "not ".repeat(8) + "1=1;", 1);
        Check.passes(("bar " + "not ".repeat(8) + "1=1;").repeat(12), 12);
        Check.passes(("bar " + "(".repeat(8) + "1=1" + ")".repeat(8) + ";").repeat(12), 12);
        Check.fails("bar " + inside.replace("@", "not 1=1 and not not 1=1"), 2, 27);
        Check.fails("bar " + inside.replace("@", "(1=1) and (not 1=1)"), 2, 22);
    }

    private static void firstByPlace() {
        Check.sentence("Terms: FAULTS, the first by its place");
        Check.fails("bar x; bar " + "(".repeat(9), 1, 4);
        Check.fails("bar " + "(".repeat(9) + "; x", 2, 12);
        Check.fails("bar 1=1;".repeat(12) + "bar x", 2, 96);
        Check.fails("x" + "bar 1=1;".repeat(13), 1, 0);
        Check.fails("bar 1=1;".repeat(11) + "bar 1;" + "bar 1=1;", 1, 93);
        Check.fails("bar " + "(".repeat(8) + "x(", 1, 12);
        Check.fails("bar " + "(".repeat(9) + "bar 1=1;".repeat(13), 2, 12);
        Check.fails("bar 12345=123456;", 1, 4);
        Check.fails("bar 1=1 x; y", 1, 8);
    }

    private static void leastAtOnePlace() {
        Check.sentence("Terms: at one place the least");
        Check.fails("bar 1=1;".repeat(11) + "bar 1=1 bar 1=1;", 1, 96);
        Check.fails("bar 1=1;".repeat(11) + "bar bar 1=1;", 1, 92);
        Check.fails("bar " + "(".repeat(8) + "1 not 1=1", 1, 14);
        Check.fails("bar " + "(".repeat(8) + "1=not 1", 1, 14);
        Check.fails("bar " + "(".repeat(8) + "1=(1)", 1, 14);
        Check.fails("bar " + "(".repeat(8) + "1=1 not 1=1", 1, 16);
        Check.fails("bar " + "(".repeat(8) + "1=1(1=1)", 1, 15);
        Check.fails("bar " + "not ".repeat(8) + "rank not 1=1", 1, 41);
        Check.fails("bar " + "not ".repeat(8) + "rank (1=1)", 1, 41);
    }

    private static void says(Book x, boolean want, String expression, int season, int guests, int set) {
        Check.due("rules of " + expression, 1, Check.rules(x, "bar " + expression + ";"));
        Check.due(expression, want ? 0 : NONE, x.barred(season, guests, set));
    }

    private static void values() {
        Check.sentence("Terms: of a SET: season; guests: how many; rank, tone");
        Book x = new Book();
        x.thing(0, 0, 9, 15, 0);
        x.thing(4, 9, 0, 15, 0);
        for (int season = 0; season < 4; season++) {
            says(x, true, "season=" + season, season, 1, 1);
            says(x, false, "season<" + season, season, 1, 1);
            says(x, false, "season>" + season, season, 1, 1);
        }
        int[][] parties = {{1, 1}, {128, 1}, {129, 2}, {127, 7}, {254, 7}, {255, 8}};
        for (int[] party : parties) {
            says(x, true, "guests=" + party[1], 0, party[0], 1);
        }
        says(x, true, "rank bowl=0 and tone bowl=9 and rank scoop=9 and tone scoop=0", 0, 1, 3);
        says(x, false, "rank bowl>0 or tone bowl<9 or rank scoop<9 or tone scoop>0", 0, 1, 3);
        says(x, true, "9999=9999 and 9999>9998 and 0<1 and 0000=0 and 0009<0010", 0, 1, 1);
        says(x, false, "9999<9999 or 9999>9999 or 0<0 or 0>0 or 1<0 or 9998>9999", 0, 1, 1);
    }

    private static void deepest() {
        Check.sentence("Terms: not C, as deep as 8");
        Book x = Scenes.everywhere();
        for (int nots = 0; nots <= 8; nots++) {
            says(x, nots % 2 == 0, "not ".repeat(nots) + "1=1", 0, 1, 1);
            says(x, nots % 2 == 1, "not ".repeat(nots) + "1=2", 0, 1, 1);
            says(x, nots % 2 == 0, "(".repeat(8 - nots) + "not ".repeat(nots) + "1=1" + ")".repeat(8 - nots), 0, 1, 1);
        }
        String pending = "1=2 or 1=1 and (".repeat(8) + "1=2 or 1=1 and 1=@" + ")".repeat(8);
        says(x, true, pending.replace("@", "1"), 0, 1, 1);
        says(x, false, pending.replace("@", "2"), 0, 1, 1);
    }

    private static void ages() {
        Check.sentence("Terms: age (DAYS since its coming)");
        Book x = new Book();
        x.thing(0, 1, 1, 15, 0);
        says(x, true, "age bowl=0", 0, 1, 1);
        x.days(1);
        says(x, true, "age bowl=1", 0, 1, 1);
        x.copy(0, 1, 0);
        says(x, true, "age bowl=0", 0, 1, 2);
        for (int i = 0; i < 9; i++) {
            x.days(1000);
        }
        Check.due("the last day", 9999, x.days(998));
        says(x, true, "age bowl=9999", 0, 1, 1);
        says(x, true, "9999=age bowl and age bowl>9998", 0, 1, 1);
        says(x, false, "age bowl<9999 or age bowl>9999", 0, 1, 1);
        says(x, true, "age bowl=9998", 0, 1, 2);
        x.burn(0);
        says(x, true, "age bowl=9999", 0, 1, 1);
    }

    private static void thingsThatAreNotInTheSet() {
        Check.sentence("Terms: has K: 1 if there is a THING of the KIND, else 0; its rank, tone, age, 0 without one");
        String[] names = {"bowl", "scroll", "kettle", "vase", "scoop"};
        Book x = new Book();
        for (int kind = 0; kind < 5; kind++) {
            x.thing(kind, 9, 9, 15, 0);
        }
        x.days(9);
        for (int kind = 0; kind < 5; kind++) {
            String is = "has K=1 and rank K=9 and tone K=9 and age K=9".replace("K", names[kind]);
            String isNot = "has K=0 and rank K=0 and tone K=0 and age K=0".replace("K", names[kind]);
            says(x, true, is, 0, 1, 31);
            Check.due("alone", 0, x.barred(0, 1, 1 << kind));
            Check.due("without it", NONE, x.barred(0, 1, 31 - (1 << kind)));
            says(x, true, isNot, 0, 1, 31 - (1 << kind));
            Check.due("with it", NONE, x.barred(0, 1, 31));
        }
    }
}
