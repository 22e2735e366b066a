/** Promises 17 to 22: feed, end, rules, fault, barred, best. */
public final class RulesTest {
    private static final int NONE = TeaBook.NONE;
    private static final int MIN = Integer.MIN_VALUE;
    private static final int MAX = Integer.MAX_VALUE;

    public static void main(String[] args) {
        feedAndEnd();
        rules();
        goodTexts();
        longTexts();
        placesOfFaults();
        tooMany();
        bytesThatAreNone();
        barred();
        truths();
        facts();
        best();
        bestOrder();
        bestOfMany();
        Check.finish();
    }

    private static String times(int n, String text) {
        StringBuilder s = new StringBuilder();
        for (int i = 0; i < n; i++) {
            s.append(text);
        }
        return s.toString();
    }

    private static void feedAndEnd() {
        Book x = new Book();
        Check.due("end 0 of nothing", true, x.end(0));
        Check.due("end 1 of nothing", false, x.end(1));
        for (int i = 1; i <= 30; i++) {
            Check.due("feed " + i, 20 * i, x.feed(0, 0, 0, 0, 0));
        }
        Check.due("feed 31", NONE, x.feed(0, 0, 0, 0, 0));
        Check.due("end 601", false, x.end(601));
        Check.due("end -1", false, x.end(-1));
        Check.due("end min", false, x.end(MIN));
        Check.due("end max", false, x.end(MAX));
        Check.due("end 600", true, x.end(600));
        Check.due("end 581", true, x.end(581));
        Check.due("feed over 600", NONE, x.feed(0, 0, 0, 0, 0));
        Check.due("nothing came", true, x.end(581));
        Check.due("nothing came", false, x.end(582));
        Check.due("end 580", true, x.end(580));
        Check.due("feed to 600", 600, x.feed(0, 0, 0, 0, 0));
        Check.due("end 0", true, x.end(0));
        Check.due("feed again", 20, x.feed(0, 0, 0, 0, 0));
        x.end(0);
        x.feed(0x62617220, 0x313d313b, 0x62617220, 0x323d323b, 0x20202020);
        Check.due("highest byte first", 2, x.rules());
        Check.due("the tape is empty then", false, x.end(1));
        x.feed(0x62617220, 0x313d313b, 0x62617220, 0x323d323b, 0x3b202020);
        x.end(16);
        Check.due("cut before the fault", 2, x.rules());
    }

    private static void rules() {
        Book x = new Book();
        Check.due("two rules", 2, Check.rules(x, "bar 1=1; bar 2=3;"));
        Check.due("look", 2, x.look(4));
        Check.due("no fault", 0, x.fault(0));
        Check.due("no place", NONE, x.fault(1));
        Check.due("a fault", NONE, Check.rules(x, "bar 2=2; bar 1 1;"));
        Check.due("they stay", 2, x.look(4));
        x.thing(0, 0, 0, 1, 0);
        Check.due("they still bar", 0, x.barred(0, 1, 1));
        Check.due("the fault", 1, x.fault(0));
        Check.due("its place", 15, x.fault(1));
        Check.due("fault 2", NONE, x.fault(2));
        Check.due("fault -1", NONE, x.fault(-1));
        Check.due("the tape is empty after a fault", false, x.end(1));
        Check.due("no rules", 0, x.rules());
        Check.due("look", 0, x.look(4));
        Check.due("no fault now", 0, x.fault(0));
        Check.due("no place now", NONE, x.fault(1));
        Check.due("nothing bars now", NONE, x.barred(0, 1, 1));
        Check.due("new ones", 1, Check.rules(x, "bar 1=2;"));
        Check.due("a fault", NONE, Check.rules(x, "bar 1=1"));
        Check.due("the new ones stay", NONE, x.barred(0, 1, 1));
        Check.due("new ones again", 1, Check.rules(x, "bar 1=1;"));
        Check.due("they bar", 0, x.barred(0, 1, 1));
    }

    private static void goodTexts() {
        Book x = new Book();
        String[] texts = {
            "", " ", "\n \n", "bar 1=1;", "bar1=1;", "bar\n1\n=\n1\n;\n", "  bar 9999 > 0000 ;",
            "bar season=guests;", "bar rank bowl<tone scroll and age kettle>has vase or 1=has scoop;",
            "bar(1=1);", "bar not 1=1;", "bar not(not(1=1));",
            "bar 1=1or 1=1and 1=1;", "bar(1=1)or(1=1)and(2=2);", "bar rank\nbowl=1;",
            "bar not not not not not not not not 1=1;", "bar ((((((((1=1))))))));",
            "bar not(not(not(not(1=1))));", times(12, "bar 1=1;")};
        for (String text : texts) {
            int want = text.split("bar", -1).length - 1;
            Check.due("rules of '" + text + "'", want, Check.rules(x, text));
            Check.due("fault of '" + text + "'", 0, x.fault(0));
        }
    }

    /** 600 bytes each, with as many steps as they can hold, so that nothing is left over of the last. */
    private static void longTexts() {
        Book x = new Book();
        x.thing(0, 7, 0, 1, 0);
        for (int i = 0; i < 8; i++) {
            String rank = i % 2 == 0 ? "7" : "8";
            String text = "bar 1=2or " + times(115, "1=2or") + " rank bowl=" + rank + ";";
            text += times(600 - text.length(), "\n");
            Check.due("a long text", 1, Check.rules(x, text));
            Check.due("a long text bars", i % 2 == 0 ? 0 : NONE, x.barred(0, 1, 1));
        }
        Check.due("semicolons alone", NONE, Check.rules(x, times(600, ";")));
        Check.due("their place", 0, x.fault(1));
        Check.due("blanks to the end", NONE, Check.rules(x, "bar" + times(597, " ")));
        Check.due("their place", 600, x.fault(1));
        Check.due("12 rules of 50 bytes", 12, Check.rules(x, times(12, "bar rank bowl<7 or not has bowl=1 or age bowl>99 ;")));
        Check.due("none bars", NONE, x.barred(0, 1, 1));
    }

    private static void placesOfFaults() {
        Check.fails("bar", 1, 3);
        Check.fails("bar   ", 1, 6);
        Check.fails("bar\n", 1, 4);
        Check.fails("bar 1", 1, 5);
        Check.fails("bar 1=", 1, 6);
        Check.fails("bar 1=1", 1, 7);
        Check.fails("bar 1=1 ", 1, 8);
        Check.fails("bar ;", 1, 4);
        Check.fails(";", 1, 0);
        Check.fails("  ;", 1, 2);
        Check.fails("1", 1, 0);
        Check.fails("bar 1=1;;", 1, 8);
        Check.fails("bar 1=1; 1=1;", 1, 9);
        Check.fails("bar 1=1 bar 2=2;", 1, 8);
        Check.fails("bar bar 1=1;", 1, 4);
        Check.fails("bar 1 1;", 1, 6);
        Check.fails("bar 1==1;", 1, 6);
        Check.fails("bar 1<>1;", 1, 6);
        Check.fails("bar 1=1=1;", 1, 7);
        Check.fails("bar 1;", 1, 5);
        Check.fails("bar 1 and 1;", 1, 6);
        Check.fails("bar (1);", 1, 6);
        Check.fails("bar 1=(1);", 1, 6);
        Check.fails("bar (1=1;", 1, 8);
        Check.fails("bar (1=1", 1, 8);
        Check.fails("bar 1=1);", 1, 7);
        Check.fails("bar ();", 1, 5);
        Check.fails("bar (1=1)=1;", 1, 9);
        Check.fails("bar not;", 1, 7);
        Check.fails("bar not", 1, 7);
        Check.fails("bar 1=not 1;", 1, 6);
        Check.fails("bar 1=1 not 1=1;", 1, 8);
        Check.fails("bar 1=1 or;", 1, 10);
        Check.fails("bar 1=1 and or 1=1;", 1, 12);
        Check.fails("bar or 1=1;", 1, 4);
        Check.fails("bar rank=1;", 1, 8);
        Check.fails("bar rank 1=1;", 1, 9);
        Check.fails("bar rank rank bowl=1;", 1, 9);
        Check.fails("bar has season=1;", 1, 8);
        Check.fails("bar bowl=1;", 1, 4);
        Check.fails("bar season bowl=1;", 1, 11);
        Check.fails("bar 1=has", 1, 9);
        Check.fails("bar 1=1 and", 1, 11);
        Check.fails("bar 1=1; ba", 1, 9);
    }

    private static void tooMany() {
        Check.fails(times(13, "bar 1=1;"), 2, 96);
        Check.fails(times(12, "bar 1=1;") + "\nbar", 2, 97);
        Check.fails(times(12, "bar 1=1;") + "x", 1, 96);
        Check.fails(times(11, "bar 1=1;") + "bar ;bar 1=1;bar 1=1;", 1, 92);
        Check.fails("bar " + times(9, "not ") + "1=1;", 2, 36);
        Check.fails("bar " + times(9, "(") + "1=1;", 2, 12);
        Check.fails("bar " + times(9, "not "), 2, 36);
        Check.fails("bar " + times(8, "not ") + "(1=1);", 2, 36);
        Check.fails("bar " + times(8, "(") + "not 1=1" + times(8, ")") + ";", 2, 12);
        Check.fails("bar " + times(4, "not(") + "1=1 or not 1=1" + times(3, ")") + "and(1=1);", 2, 27);
        Check.fails("bar " + times(8, "not ") + ";", 1, 36);
        Check.fails("bar " + times(8, "(") + "1=(", 1, 14);
        Check.fails("bar " + times(8, "(") + "1=1(", 1, 15);
        Book x = new Book();
        Check.due("closed ones don't count", 1,
                Check.rules(x, "bar " + times(20, "not (1=1) and ") + "(1=1) and not not 1=1;"));
        Check.due("closed and opened again", 1, Check.rules(x,
                "bar " + times(7, "(") + "not 1=1 and not 1=1 or (1=1) and (1=1)" + times(7, ")") + ";"));
        Check.due("each rule for itself", 12, Check.rules(x, times(12, "bar not not not not not not 1=1;")));
    }

    private static void bytesThatAreNone() {
        Check.fails("Bar 1=1;", 1, 0);
        Check.fails("BAR 1=1;", 1, 0);
        for (char c : new char[] {'a', 'z', 'A', 'Z'}) {
            Check.fails("bar" + c + " 1=1;", 1, 0);
        }
        Check.fails("barnot 1=1;", 1, 0);
        Check.fails("bars 1=1;", 1, 0);
        Check.fails("ba r 1=1;", 1, 0);
        Check.fails("bar seasons=1;", 1, 4);
        Check.fails("bar seasonguests=1;", 1, 4);
        Check.fails("bar 1=1 orand 1=1;", 1, 8);
        Check.fails("bar 12345=1;", 1, 4);
        Check.fails("bar 00001=1;", 1, 4);
        Check.fails("bar 1=1 12345;", 1, 8);
        Check.fails("bar 1=99999999999999999999;", 1, 6);
        Check.fails("bar -1=1;", 1, 4);
        Check.fails("bar 1=1,", 1, 7);
        Check.fails("bar\t1=1;", 1, 3);
        Check.fails("bar 1=1;\r\n", 1, 8);
        Check.fails("bar 1=1;\0", 1, 8);
        Check.fails("bar 1=1; \u00ff", 1, 9);
        Check.fails("\u0080bar 1=1;", 1, 0);
        Check.fails("bar 1\u00a0=1;", 1, 5);
        Check.fails("bar [1=1];", 1, 4);
        Check.fails("bar 1@1;", 1, 5);
        Check.fails("bar 1`1;", 1, 5);
        Check.fails("bar 1{1;", 1, 5);
        Check.fails("bar 1/1;", 1, 5);
        Check.fails("bar 1:1;", 1, 5);
    }

    private static Book twoThings() {
        Book x = new Book();
        x.thing(0, 4, 6, 1, 0);
        x.days(10);
        x.thing(1, 5, 7, 2, 1);
        x.thing(0, 1, 1, 1, 0);
        x.days(20);
        return x;
    }

    private static void barred() {
        Book x = twoThings();
        Check.due("no rules", NONE, x.barred(0, 1, 1));
        Check.rules(x, "bar season=1; bar guests>2; bar has bowl=1 and has scroll=1; bar 1=1;");
        Check.due("the first", 0, x.barred(1, 7, 3));
        Check.due("the second", 1, x.barred(0, 7, 3));
        Check.due("the third", 2, x.barred(0, 3, 3));
        Check.due("the fourth", 3, x.barred(0, 3, 1));
        Check.rules(x, "bar 1=2; bar 2=1;");
        Check.due("by none", NONE, x.barred(0, 3, 1));
        x.burn(0);
        Check.rules(x, "bar rank bowl=4 and age bowl=30;");
        Check.due("a burnt one", 0, x.barred(0, 3, 1));
        int[][] wrong = {{-1, 1, 1}, {4, 1, 1}, {0, 0, 1}, {0, 256, 1}, {0, -1, 1}, {0, 1, 0}, {0, 1, 5},
            {0, 1, 8}, {0, 1, 9}, {0, 1, -1}, {0, 1, MIN}, {0, 1, 1 << 20}, {MAX, 1, 1}, {0, MAX, 1}};
        for (int[] w : wrong) {
            Check.due("wrong barred", NONE - 1, x.barred(w[0], w[1], w[2]));
        }
    }

    private static void says(String expression, boolean want) {
        Book x = twoThings();
        Check.due("rules of " + expression, 1, Check.rules(x, "bar " + expression + ";"));
        Check.due(expression, want ? 0 : NONE, x.barred(2, 0xA1, 3));
    }

    private static void truths() {
        says("1=1 or 1=1 and 1=2", true);
        says("(1=1 or 1=1) and 1=2", false);
        says("1=2 and 1=1 or 1=1", true);
        says("1=2 and (1=1 or 1=1)", false);
        says("not 1=1 or 1=1", true);
        says("not (1=1 or 1=1)", false);
        says("not 1=2 and 1=2", false);
        says("not (1=2 and 1=2)", true);
        says("not not 1=1", true);
        says("not not not 1=1", false);
        says("1=2 or 1=2 or 1=1", true);
        says("1=1 and 1=1 and 1=2", false);
        says("1=2 or 1=1 and 1=1 and 1=1 or 1=2", true);
        says("1=1 and (1=2 or (1=1 and (1=2 or (1=1 and (1=2 or (1=1 and (1=2 or 1=1)))))))", true);
        String deepest = times(8, "1=2 or 1=1 and (") + "1=2 or 1=1 and 1=N" + times(8, ")");
        says(deepest.replace("N", "1"), true);
        says(deepest.replace("N", "2"), false);
        says("1<2", true);
        says("2<2", false);
        says("3<2", false);
        says("1>2", false);
        says("2>2", false);
        says("3>2", true);
        says("0012=12", true);
        says("9999>9998", true);
    }

    /** In season 2, for three guests: a bowl of rank 4, tone 6, age 30; a scroll of 5, 7, 20. */
    private static void facts() {
        says("season=2", true);
        says("guests=3", true);
        says("rank bowl=4 and tone bowl=6 and age bowl=30 and has bowl=1", true);
        says("rank scroll=5 and tone scroll=7 and age scroll=20 and has scroll=1", true);
        String[] absent = {"kettle", "vase", "scoop"};
        for (String kind : absent) {
            String all = "rank K=0 and tone K=0 and age K=0 and has K=0".replace("K", kind);
            says(all, true);
        }
        Book x = new Book();
        for (int kind = 0; kind < 5; kind++) {
            x.thing(kind, kind + 1, 9 - kind, 15, 0);
            x.days(1);
        }
        String[] kinds = {"bowl", "scroll", "kettle", "vase", "scoop"};
        for (int kind = 0; kind < 5; kind++) {
            String all = "bar rank K=R and tone K=T and age K=A and has K=1;".replace("K", kinds[kind])
                    .replace("R", "" + (kind + 1)).replace("T", "" + (9 - kind)).replace("A", "" + (5 - kind));
            Check.due(all, 1, Check.rules(x, all));
            Check.due(all, 0, x.barred(0, 1, 31));
            Check.due(all + " without it", NONE, x.barred(0, 1, 31 & ~(1 << kind)));
        }
        Check.rules(x, "bar rank bowl > rank scoop;");
        Check.due("scoop alone", NONE, x.barred(0, 1, 16));
        Check.due("bowl alone", 0, x.barred(0, 1, 1));
    }

    private static void bestIs(Book x, String call, int[] in, int[] want) {
        for (int what = 0; what < 4; what++) {
            Check.due(call + " " + what, want[what], x.best(in[0], in[1], in[2], in[3], what));
        }
    }

    private static void best() {
        Book x = new Book();
        int[] nothing = {NONE, NONE, NONE, NONE};
        x.thing(0, 5, 1, 3, 1);
        x.thing(0, 7, 1, 1, 1);
        x.thing(1, 4, 1, 1, 1);
        x.thing(1, 6, 1, 1, 2);
        bestIs(x, "two fit", new int[] {1, 0, 1, 3}, new int[] {6, 0, 11, 2});
        bestIs(x, "one kind", new int[] {1, 0, 1, 1}, new int[] {2, 0, 7, 2});
        bestIs(x, "season 1", new int[] {1, 1, 1, 1}, new int[] {1, 0, 5, 1});
        bestIs(x, "season 1, no scroll", new int[] {1, 1, 1, 3}, nothing);
        bestIs(x, "no kettle", new int[] {1, 0, 1, 7}, nothing);
        bestIs(x, "nothing in house 3", new int[] {3, 0, 1, 1}, nothing);
        x.gather(1, 0, 1, 6);
        bestIs(x, "the finer was seen", new int[] {1, 0, 1, 3}, new int[] {5, 0, 9, 2});
        bestIs(x, "not by guest 1", new int[] {1, 0, 2, 3}, new int[] {6, 0, 11, 2});
        x.gather(1, 0, 1, 5);
        x.gather(1, 0, 1, 5);
        bestIs(x, "both were seen", new int[] {1, 0, 1, 3}, new int[] {6, 11, 11, 2});
        x.lend(3, 1);
        bestIs(x, "with a lent one", new int[] {1, 0, 1, 3}, new int[] {10, 0, 13, 4});
        bestIs(x, "lent away", new int[] {2, 0, 1, 2}, nothing);
        x.burn(1);
        bestIs(x, "the finer burnt", new int[] {1, 0, 1, 3}, new int[] {9, 0, 11, 2});
        Check.rules(x, "bar rank scroll=6;");
        bestIs(x, "barred", new int[] {1, 0, 1, 3}, new int[] {5, 21, 9, 1});
        Check.rules(x, "bar guests=1;");
        bestIs(x, "all barred", new int[] {1, 0, 1, 3}, nothing);
        bestIs(x, "none barred for two", new int[] {1, 0, 3, 3}, new int[] {9, 0, 11, 2});
        int[][] wrong = {{-1, 0, 3, 3}, {8, 0, 3, 3}, {1, -1, 3, 3}, {1, 4, 3, 3}, {1, 0, 0, 3}, {1, 0, 256, 3},
            {1, 0, 3, 0}, {1, 0, 3, 32}, {1, 0, 3, 35}, {1, 0, 3, -1}, {MIN, 0, 3, 3}, {1, MAX, 3, 3},
            {1, 0, MIN, 3}, {1, 0, 3, MIN}};
        for (int[] w : wrong) {
            bestIs(x, "wrong best", w, nothing);
        }
        Check.due("what 4", NONE, x.best(1, 0, 3, 3, 4));
        Check.due("what -1", NONE, x.best(1, 0, 3, 3, -1));
    }

    private static void bestOrder() {
        Book x = new Book();
        x.thing(4, 3, 0, 1, 0);
        x.thing(4, 3, 0, 1, 0);
        x.thing(0, 3, 0, 1, 0);
        x.thing(0, 3, 0, 1, 0);
        bestIs(x, "all alike", new int[] {0, 0, 1, 17}, new int[] {1 | 4, 0, 6, 4});
        x.gather(0, 0, 1, 1 | 4);
        // {2, 1} before {3, 0}: the bowl, the lesser kind, is looked at first.
        bestIs(x, "by the bowl first", new int[] {0, 0, 1, 17}, new int[] {2 | 4, 0, 6, 4});
    }

    private static void bestOfMany() {
        Book x = new Book();
        for (int t = 0; t < 20; t++) {
            x.thing(t % 5, t / 5, 0, 15, 0);
        }
        bestIs(x, "1024 sets", new int[] {0, 0, 255, 31}, new int[] {31 << 15, 0, 15, 1024});
        Check.rules(x, times(12, "bar rank bowl=3 and rank scoop=3 or 1=2;"));
        bestIs(x, "some barred", new int[] {0, 0, 255, 31}, new int[] {1 << 10 | 30 << 15, 0, 14, 960});
    }
}
