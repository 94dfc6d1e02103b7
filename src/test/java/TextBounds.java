/** Boundaries of promises 26 to 30: SPECIALS and ACTS. */
final class TextBounds extends Bounds {
    private TextBounds() {
    }

    // ---- 26 and Terms II (4): SPECIALS

    private static void specialsWell(String text, int count) {
        PartnerBooks x = new PartnerBooks();
        Check.same("specials() of " + text, Check.specials(x, text), count);
        Check.same("fault() of " + text, x.fault(), NONE);
        Check.same("the tape behind " + text, x.is(12), 0);
        Check.same("a deed: " + text, x.is(11), 1);
        Check.yes("the last one of " + text, count == 0 || x.special(count - 1, 0) >= 0);
        Check.same("behind the last one of " + text, x.special(count, 0), OUT);
    }

    private static void specialsFault(String text, int place) {
        PartnerBooks x = new PartnerBooks();
        Check.specials(x, "give c 44;");
        Check.same("specials() of " + text, Check.specials(x, text), NONE);
        Check.same("fault() of " + text, x.fault(), place);
        Check.same("the tape behind " + text, x.is(12), 0);
        Check.same("no deed: " + text, x.is(11), 1);
        Check.same("special(0, 0) stays", x.special(0, 0), 2);
        Check.same("special(0, 1) stays", x.special(0, 1), 44);
        Check.same("special(1, 0) stays", x.special(1, 0), OUT);
    }

    private static String thingsOf(int many) {
        return "1" + "+1".repeat(many - 1);
    }

    static void promise26_specials_eightAtMost() {
        String give = "give a 1;";
        specialsWell(give, 1);
        specialsWell(give.repeat(7), 7);
        specialsWell(give.repeat(8), 8);
        specialsWell(give.repeat(8) + "  ", 8);
        specialsFault(give.repeat(9), 72);
        specialsFault(give.repeat(8) + "  give", 74);
        specialsFault(give.repeat(8) + ";", 72);
    }

    static void promise26_specials_fortyThingsInAll() {
        PartnerBooks x = new PartnerBooks();
        for (int many : new int[] {1, 39, 40}) {
            Check.same(many + " things", Check.specials(x, "give a " + thingsOf(many) + ";"), 1);
            Check.same("special(0, 1)", x.special(0, 1), many);
        }
        specialsFault("give a " + thingsOf(41) + ";", 87);
        specialsFault("give a " + thingsOf(40) + "+x;", 87);
        specialsFault("give a " + thingsOf(40) + "-1000000;", 87);
        specialsFault("give a " + thingsOf(40) + "*net;", 87);
        specialsFault("give a " + thingsOf(40) + "/capital a;", 87);
        specialsFault("give a " + thingsOf(40) + "+", 87);
        specialsFault("give a " + thingsOf(100) + ";", 87);
    }

    static void promise26_specials_thingsOfAllSums() {
        PartnerBooks x = new PartnerBooks();
        // 38 in the first sum, one to each side of when.
        String when = "give a " + thingsOf(38) + " when 1<2;";
        Check.same("forty with when", Check.specials(x, when), 1);
        specialsFault(when + "give b 1;", when.length() + 7);
        specialsFault("give a " + thingsOf(38) + " when 1<2+1;", 7 + 75 + 6 + 4);
        specialsFault("give a " + thingsOf(39) + " when 1<2;", 7 + 77 + 6 + 2);
        specialsFault("give a " + thingsOf(40) + " when 1<2;", 7 + 79 + 6);
        String two = "give a " + thingsOf(20) + ";give b ";
        Check.same("forty in two", Check.specials(x, two + thingsOf(20) + ";"), 2);
        Check.same("special(0, 1)", x.special(0, 1), 20);
        Check.same("special(1, 1)", x.special(1, 1), 20);
        specialsFault(two + thingsOf(21) + ";", two.length() + 40);
        specialsFault(two + thingsOf(20) + ";give c 1;", two.length() + 39 + 8);
        // A THING with its PARTNER is one.
        Check.same("forty of two words", Check.specials(x, "give a net" + "+net".repeat(38) + "+capital a;"), 1);
        Check.same("a text that was refused counts nothing", Check.specials(x, "give a " + thingsOf(41) + ";"), NONE);
        Check.same("forty again", Check.specials(x, "give a " + thingsOf(40) + ";"), 1);
    }

    static void promise26_specials_numbersOf0To999999() {
        PartnerBooks x = new PartnerBooks();
        for (int n : new int[] {0, 1, 999998, 999999}) {
            Check.same("number " + n, Check.specials(x, "give a " + n + ";"), 1);
            Check.same("special(0, 1)", x.special(0, 1), n);
            specialsWell("give a 1 when " + n + ">" + n + ";", 1);
        }
        specialsFault("give a 1000000;", 7);
        specialsFault("give a 4294967296;", 7);
        specialsFault("give a -1;", 7);
        specialsFault("give a 1+1000000;", 9);
        specialsFault("give a 1 when 1000000>1;", 14);
        specialsFault("give a 1 when 1>1000000;", 16);
        specialsWell("give a 000999999;", 1);
    }

    static void promise26_specials_partnersAToH() {
        PartnerBooks x = new PartnerBooks();
        for (int p = 0; p < 8; p++) {
            char letter = (char) ('a' + p);
            String text = "give " + letter + " capital " + letter + "+share " + letter + ";";
            Check.same("specials() of " + text, Check.specials(x, text), 1);
            Check.same("special(0, 0)", x.special(0, 0), p);
        }
        specialsFault("give i 1;", 5);
        specialsFault("give ` 1;", 5);
        specialsFault("give ab 1;", 5);
        specialsFault("give 1 1;", 5);
        specialsFault("give a capital i;", 15);
        specialsFault("give a share i;", 13);
        specialsFault("give a capital 1;", 15);
        specialsFault("give a share;", 12);
        specialsFault("give a capital;", 14);
        specialsFault("give a share ab;", 13);
    }

    static void promise26_specials_emptyText() {
        for (String text : new String[] {"", " ", blanks(400)}) {
            PartnerBooks x = books(5);
            Check.specials(x, "give a 1;");
            x.earn(3);
            Check.same("specials() of " + text.length() + " blanks", Check.specials(x, text), 0);
            Check.same("special(0, 0)", x.special(0, 0), OUT);
            Check.same("fault()", x.fault(), NONE);
            Check.same("a deed", x.is(11), 4);
        }
        specialsFault(blanks(399) + ";", 399);
    }

    static void promise26_specials_endsTooEarly() {
        String text = "give a 1 when 2<3;";
        int[] places = {0, 0, 0, 0, 4, 5, 6, 7, 8, 9, 9, 9, 9, 13, 14, 15, 16, 17};
        for (int length = 1; length < text.length(); length++) {
            specialsFault(text.substring(0, length), places[length]);
        }
        specialsWell(text, 1);
        specialsFault("give a 1+", 9);
        specialsFault("give a capital", 14);
        specialsFault("give a 1   ", 11);
        String full = "give a 1" + blanks(391) + ";";
        specialsWell(full, 1);
        specialsFault(full.substring(0, 399) + " ", 400);
        specialsFault(full.substring(0, 399), 399);
    }

    /** "also -, *, /" and the two signs behind when: the bytes a step ahead of and behind them are none. */
    static void promise26_specials_whatIsNoToken() {
        specialsWell("give a 1+1-1*1/1;", 1);
        specialsWell("give a 1 when 1<1;", 1);
        specialsWell("give a 1 when 1>1;", 1);
        for (int c : new int[] {0, 31, 33, 40, 41, 44, 46, 58, 61, 63, 64, 96, 123, 139, 155, 171, 187, 255}) {
            specialsFault("give a 1" + (char) c + "1;", 8);
            specialsFault("give a 1 when 1" + (char) c + "1;", 15);
        }
        specialsFault("give a 1<1;", 8);
        specialsFault("give a 1 when 1<1>1;", 17);
        specialsFault("give a 1 when 1;", 15);
        specialsFault("give a 1 when 1<;", 16);
        specialsFault("give a 1 when <1;", 14);
        specialsFault("give a 1 when 1<<1;", 16);
        specialsFault("give a 1 when 1<1 when 1<1;", 18);
        specialsFault("give a when 1<1;", 7);
        specialsFault("give a *1;", 7);
        specialsFault("give a 1+-1;", 9);
        specialsFault("give a 1 1;", 9);
        specialsFault("give a;", 6);
    }

    static void promise26_specials_wordsWhole() {
        for (String word : new String[] {"result", "cash", "held", "year", "net", "capital a", "share a"}) {
            specialsWell("give a " + word + ";", 1);
            specialsFault("give a x" + word + ";", 7);
            specialsFault("give a z" + word.substring(1) + ";", 7);
            specialsFault("give a " + word.substring(1) + ";", 7);
        }
        for (String word : new String[] {"results", "cashs", "helds", "years", "nets", "capitals a", "shares a", "a", "owed a"}) {
            specialsFault("give a " + word + ";", 7);
        }
        specialsFault("given a 1;", 0);
        specialsFault("giv a 1;", 0);
        specialsFault("zive a 1;", 0);
        specialsFault("give a 1 whe 1<1;", 9);
        specialsFault("give a 1 zhen 1<1;", 9);
        specialsFault("give a 1 whens 1<1;", 9);
        specialsFault("give a 1;x", 9);
        specialsFault("give a 1;give", 13);
        specialsFault("givea1;", 0);
        specialsWell("give a1;", 1);
    }

    // ---- 27: "Of SPECIAL k (0 on): its PARTNER (what 0), SUM now (1), what it would give now (2)."

    static void promise27_special_others() {
        PartnerBooks x = books(1);
        Check.specials(x, "give a 5;give b 6;");
        x.earn(9);
        int[][] due = {{0, 5, 5}, {1, 6, 0}};
        for (int k = 0; k < 2; k++) {
            for (int what = 0; what <= 2; what++) {
                int place = k;
                int asked = what;
                told(x, "special(" + k + ", " + what + ")", due[k][what], () -> x.special(place, asked));
            }
        }
        for (int wild : new int[] {MIN, -2, -1, 3, 4, MAX}) {
            Check.same("special(0, " + wild + ")", x.special(0, wild), OUT);
        }
        for (int wild : new int[] {MIN, -2, -1, 2, 3, 7, 8, 9, MAX}) {
            Check.same("special(" + wild + ", 0)", x.special(wild, 0), OUT);
        }
        Check.specials(x, "give a 1;".repeat(8));
        Check.same("special(7, 0)", x.special(7, 0), 0);
        Check.same("special(8, 0)", x.special(8, 0), OUT);
    }

    private static void sumIs(PartnerBooks x, String sum, int due) {
        Check.same("specials() of " + sum, Check.specials(x, "give a " + sum + ";"), 1);
        Check.same("SUM of " + sum, x.special(0, 1), due);
    }

    /** "ints that wrap": at the greatest and the least int, and a step beyond. */
    static void promise27_special_wraps() {
        PartnerBooks x = books(0);
        sumIs(x, "65536*32767+65534", MAX - 1);
        sumIs(x, "65536*32767+65535", MAX);
        sumIs(x, "65536*32767+65536", MIN);
        sumIs(x, "0-65536*32767-65535", -MAX);
        sumIs(x, "0-65536*32767-65536", MIN);
        sumIs(x, "0-65536*32767-65537", MAX);
        sumIs(x, "65536*32768", MIN);
        sumIs(x, "65536*32768-1", MAX);
        sumIs(x, "65536*65536", 0);
        sumIs(x, "65536*65535*65536+7", 7);
        sumIs(x, "999999*999999", -729379967);
        sumIs(x, "65536*32768/2", -1073741824);
    }

    /** "/ towards 0, by 0: 0". */
    static void promise27_special_divides() {
        PartnerBooks x = books(0, 0, 0);
        x.draw(0, 7);
        x.draw(1, 2);
        x.draw(2, 1);
        int[][] due = {{6, 3}, {7, 3}, {8, 4}, {1, 0}, {0, 0}};
        for (int[] d : due) {
            sumIs(x, d[0] + "/2", d[1]);
            sumIs(x, d[0] + "/capital b", -d[1]);
        }
        sumIs(x, "capital a/2", -3);
        sumIs(x, "capital a/capital b", 3);
        sumIs(x, "capital a/7", -1);
        sumIs(x, "capital a/8", 0);
        sumIs(x, "0-7/2", -3);
        sumIs(x, "7/0", 0);
        sumIs(x, "0/0", 0);
        sumIs(x, "capital a/0", 0);
        sumIs(x, "5+7/0", 5);
        sumIs(x, "7/0*9+4", 4);
        sumIs(x, "7/result", 0);
        sumIs(x, "65536*32768/capital c", MIN);
        sumIs(x, "65536*32768/1", MIN);
        x.earn(1);
        sumIs(x, "7/result", 7);
        x.earn(-2);
        sumIs(x, "7/result", -7);
    }

    static void promise27_special_productsAheadOfSums() {
        PartnerBooks x = books(0);
        sumIs(x, "2+3*4", 14);
        sumIs(x, "2*3+4", 10);
        sumIs(x, "20-2*3-4", 10);
        sumIs(x, "20-12/2/3-1", 17);
        sumIs(x, "7/2*2", 6);
        sumIs(x, "7*2/2", 7);
        sumIs(x, "1-2", -1);
        sumIs(x, "1-2+3", 2);
        sumIs(x, "0", 0);
    }

    static void promise27_special_things() {
        PartnerBooks x = books(10, 20);
        x.buy(5, 5, 12);
        x.lose(0, 5);
        x.close();
        // A rise of 12 and a loss of 5: 3 and 2 as SHARES.
        x.earn(4);
        sumIs(x, "result", 4);
        sumIs(x, "cash", 30 + 7 + 4);
        sumIs(x, "held", 12);
        sumIs(x, "year", 1);
        sumIs(x, "net", 29);
        sumIs(x, "capital a", 7);
        sumIs(x, "capital b", 18);
        sumIs(x, "share a", 3);
        sumIs(x, "share b", 2);
        sumIs(x, "capital h+share h", 0);
    }

    /** "RESULT is above 0: the lesser of it and SUM (0, if below)". */
    static void promise27_special_wouldGive() {
        PartnerBooks x = books(0, 0);
        Check.specials(x, "give a 5;give a 0;give a 1;give a 0-1;give b 999999*2;give c 5;");
        int[][] due = {{-1, 0, 0, 0, 0, 0, 0}, {0, 0, 0, 0, 0, 0, 0}, {1, 1, 0, 1, 0, 1, 0}, {4, 4, 0, 1, 0, 4, 0},
            {5, 5, 0, 1, 0, 5, 0}, {6, 5, 0, 1, 0, 6, 0}};
        for (int[] d : due) {
            x.earn(d[0] - x.is(1));
            for (int k = 0; k < 6; k++) {
                Check.same("special(" + k + ", 2) of RESULT " + d[0], x.special(k, 2), d[k + 1]);
            }
        }
    }

    static void promise27_special_when() {
        PartnerBooks x = books(0);
        x.earn(100);
        String[] so = {"4<5", "6>5", "0<1", "1>0", "65536*32768<65536*32767", "65536*32767>65536*32768", "0-1<0"};
        String[] not = {"5<5", "6<5", "5>5", "4>5", "1<0", "0>1", "65536*32767<65536*32768", "65536*32768>0", "0<0-1"};
        for (String s : so) {
            Check.specials(x, "give a 9 when " + s + ";");
            Check.same("when " + s, x.special(0, 2), 9);
            Check.same("SUM, when " + s, x.special(0, 1), 9);
        }
        for (String s : not) {
            Check.specials(x, "give a 9 when " + s + ";");
            Check.same("when " + s, x.special(0, 2), 0);
            Check.same("SUM, when " + s, x.special(0, 1), 9);
        }
    }

    // ---- 28 and Terms III: ACTS

    private static PartnerBooks withAssets() {
        PartnerBooks x = books(1000);
        for (int i = 0; i < 8; i++) {
            x.buy(50, 50, 50);
        }
        return x;
    }

    private static void actDone(String text, int told) {
        PartnerBooks x = withAssets();
        Check.same("acts() of " + text, Check.acts(x, text), 1);
        Check.same("fault() of " + text, x.fault(), NONE);
        Check.same("ended() of " + text, x.ended(), NONE);
        Check.same("row(0) of " + text, x.row(0), told);
        Check.same("the tape behind " + text, x.is(12), 0);
        Check.same("a deed: " + text, x.is(11), 10);
        sums(x);
    }

    private static void actRefused(String text) {
        PartnerBooks x = withAssets();
        String was = accounts(x);
        Check.same("acts() of " + text, Check.acts(x, text), 0);
        Check.same("fault() of " + text, x.fault(), NONE);
        Check.same("ended() of " + text, x.ended(), 0);
        Check.same("row(0) of " + text, x.row(0), OUT);
        Check.same("the tape behind " + text, x.is(12), 0);
        Check.same("no deed: " + text, x.is(11), 9);
        Check.yes("nothing is done by " + text, was.equals(accounts(x)));
    }

    private static void actsFault(String text, int place) {
        PartnerBooks x = withAssets();
        Check.acts(x, "earn 1;earn - 1;go b;");
        String was = accounts(x);
        Check.same("acts() of " + text, Check.acts(x, text), NONE);
        Check.same("fault() of " + text, x.fault(), place);
        Check.same("the tape behind " + text, x.is(12), 0);
        Check.same("no deed: " + text, x.is(11), 11);
        Check.yes("nothing is done by " + text, was.equals(accounts(x)));
        Check.same("ended() is that of the earlier ones", x.ended(), 2);
        Check.same("row(0) is that of the earlier ones", x.row(0), 1);
        Check.same("row(2) is that of the earlier ones", x.row(2), OUT);
    }

    static void promise28_acts_thirtyAtMost() {
        for (int many : new int[] {1, 29, 30}) {
            PartnerBooks x = books(0);
            Check.same(many + " acts", Check.acts(x, "close;".repeat(many)), many);
            Check.same("is(0)", x.is(0), many);
            Check.same("row of the last one", x.row(many - 1), many);
            Check.same("row behind it", x.row(many), OUT);
            Check.same("ended()", x.ended(), NONE);
        }
        actsFault("close;".repeat(31), 180);
        actsFault("close;".repeat(30) + "  x", 182);
        actsFault("close;".repeat(30) + ";", 180);
        actsFault("close;".repeat(40), 180);
        Check.same("blanks behind thirty", Check.acts(books(0), "close;".repeat(30) + "  "), 30);
    }

    static void promise28_acts_numbersOf0To1000000() {
        actDone("earn 0;", 0);
        actDone("earn 1;", 1);
        actDone("earn 999999;", 999999);
        actDone("earn 1000000;", 1000000);
        actDone("earn - 0;", 0);
        actDone("earn -1;", -1);
        actDone("earn - 1000000;", -1000000);
        actDone("market 0 0;", 50);
        actDone("market 7 1000000;", 50);
        actDone("come b 0;", 0);
        actDone("come h 1000000;", 1000000);
        actDone("pay a 1;", 1001);
        actDone("pay a 1000000;", 1001000);
        actDone("draw a 1;", 999);
        actDone("draw a 1000000;", -999000);
        for (String act : new String[] {"market 0", "come b", "pay a", "draw a", "lose 0", "borrow 0", "repay 0", "earn"}) {
            actsFault(act + " 1000001;", act.length() + 1);
            actsFault(act + " 4294967297;", act.length() + 1);
            actsFault(act + ";", act.length());
            actsFault(act + " a;", act.length() + 1);
        }
        actsFault("earn - 1000001;", 7);
    }

    static void promise28_acts_minusOfEarnAlone() {
        actsFault("earn --1;", 6);
        actsFault("earn +1;", 5);
        actsFault("earn -;", 6);
        actsFault("earn 1-;", 6);
        for (String act : new String[] {"market 0", "come b", "pay a", "draw a", "lose 0", "borrow 0", "repay 0"}) {
            actsFault(act + " -1;", act.length() + 1);
        }
        actsFault("lose -1 1;", 5);
        actsFault("close -;", 6);
        actsFault("- earn 1;", 0);
    }

    static void promise28_acts_assets0To7() {
        for (String act : new String[] {"lose", "borrow", "repay", "market"}) {
            int told = act.equals("borrow") ? 51 : act.equals("market") ? 50 : 49;
            actDone(act + " 0 1;", told);
            actDone(act + " 7 1;", told);
            actDone(act + " 007 1;", told);
            actsFault(act + " 8 1;", act.length() + 1);
            actsFault(act + " 10 1;", act.length() + 1);
            actsFault(act + " 4294967296 1;", act.length() + 1);
            actsFault(act + " a 1;", act.length() + 1);
        }
    }

    static void promise28_acts_partnersAToH() {
        for (String act : new String[] {"pay", "draw", "come", "go"}) {
            String sum = act.equals("go") ? "" : " 1";
            actsFault(act + " i" + sum + ";", act.length() + 1);
            actsFault(act + " `" + sum + ";", act.length() + 1);
            actsFault(act + " 0" + sum + ";", act.length() + 1);
            actsFault(act + " ab" + sum + ";", act.length() + 1);
            actsFault(act + ";", act.length());
        }
        actDone("come h 1;", 1);
        actRefused("come a 1;");
        actRefused("pay h 1;");
        actRefused("draw b 1;");
        actRefused("go h;");
        actRefused("go a;");
    }

    /** "as those calls, till one is refused": each at the boundary of its own call. */
    static void promise28_acts_refusedAsTheCalls() {
        actRefused("pay a 0;");
        actRefused("draw a 0;");
        actRefused("lose 0 0;");
        actDone("lose 0 50;", 0);
        actRefused("lose 0 51;");
        actRefused("borrow 0 0;");
        actDone("borrow 0 999950;", 1000000);
        actRefused("borrow 0 999951;");
        actRefused("repay 0 0;");
        actDone("repay 0 50;", 0);
        actRefused("repay 0 51;");
        PartnerBooks x = new PartnerBooks();
        Check.same("close without anybody", Check.acts(x, "close;"), 0);
        Check.same("no such asset", Check.acts(x, "market 0 1;"), 0);
        Check.same("come, then close", Check.acts(x, "come d 4;close;"), 2);
        Check.same("come with a result", Check.acts(x, "earn 1;come e 4;"), 1);
        Check.same("ended()", x.ended(), 1);
        Check.same("come behind close", Check.acts(x, "close;come e 4;go d;go e;close;"), 3);
        Check.same("ended()", x.ended(), 3);
        Check.same("row(2)", x.row(2), 5);
        Check.same("is(0): none behind the refused one", x.is(0), 2);
    }

    static void promise28_acts_aFaultDoesNothing() {
        actsFault("earn 1;earn 2;earn", 18);
        actsFault("close;pay a 1;x", 14);
        actsFault("earn 1", 6);
        actsFault("earn 1;;", 7);
        actsFault("earn 1 1;", 7);
        actsFault(";", 0);
        actsFault("close;" + (char) 0, 6);
        actsFault("close;+", 6);
        actsFault("clos;", 0);
        actsFault("closes;", 0);
        actsFault("zlose 0 1;", 0);
        actsFault("sell 0;", 0);
        actsFault("buy 1 1 1;", 0);
        actsFault("duty a 1;", 0);
        actsFault("hand a b 1;", 0);
        actsFault("goa;", 0);
        actsFault("go a 1;", 5);
        actsFault("close a;", 6);
        for (String word : new String[] {"close", "earn", "lose", "borrow", "repay", "market", "pay", "draw", "come", "go"}) {
            actsFault("z" + word.substring(1) + ";", 0);
            actsFault(word.substring(0, word.length() - 1) + ";", 0);
            actsFault(word + "z;", 0);
        }
    }

    static void promise28_acts_endsTooEarly() {
        actsFault("lose", 4);
        actsFault("lose 0", 6);
        actsFault("lose 0 1", 8);
        actsFault("lose 0 1  ", 10);
        actsFault("pay", 3);
        actsFault("pay a", 5);
        actsFault("pay a 1", 7);
        actsFault("earn", 4);
        actsFault("earn -", 6);
        actsFault("go", 2);
        actsFault("go a", 4);
        actsFault("close", 5);
        actsFault("close" + blanks(395), 400);
        actsFault("close" + blanks(394), 399);
        Check.same("on a full tape", Check.acts(books(0), "close" + blanks(394) + ";"), 1);
    }

    /** An acts() by which nothing was done is no DEED; each ACT that was done is one. */
    static void promise28_acts_emptyText() {
        for (String text : new String[] {"", " ", blanks(400)}) {
            PartnerBooks x = books(5);
            Check.acts(x, "earn 1;go a;");
            Check.same("acts() of " + text.length() + " blanks", Check.acts(x, text), 0);
            Check.same("ended()", x.ended(), NONE);
            Check.same("row(0)", x.row(0), OUT);
            Check.same("fault()", x.fault(), NONE);
            Check.same("is(11)", x.is(11), 2);
        }
        actsFault(blanks(399) + "+", 399);
    }

    static void promise28_acts_nothingIsReadTwice() {
        PartnerBooks x = books(5);
        Check.same("acts()", Check.acts(x, "earn 4;"), 1);
        Check.same("acts() again: the tape is empty", x.acts(), 0);
        Check.same("is(1)", x.is(1), 4);
        Check.acts(x, "earn 4");
        Check.same("acts() behind a FAULT: the tape is empty", x.acts(), 0);
    }

    // ---- 29: "Which ACT (0 on) ended the latest acts() that was not NONE. NONE: none did, ahead of any."

    static void promise29_ended_aheadOfAny() {
        PartnerBooks x = books(1);
        told(x, "ended()", NONE, () -> x.ended());
        Check.acts(x, "x");
        Check.same("ended() behind a FAULT alone", x.ended(), NONE);
    }

    static void promise29_ended_byTheFirstAndTheLastOne() {
        PartnerBooks x = books(1);
        Check.acts(x, "go a;earn 1;");
        Check.same("by the first one", x.ended(), 0);
        Check.acts(x, "earn 1;go a;");
        Check.same("by the second one", x.ended(), 1);
        Check.acts(x, "close;".repeat(28) + "go a;close;");
        Check.same("by the last one but one of thirty", x.ended(), 28);
        Check.acts(x, "close;".repeat(29) + "go a;");
        Check.same("by the last one of thirty", x.ended(), 29);
        Check.acts(x, "close;".repeat(30));
        Check.same("by none of thirty", x.ended(), NONE);
    }

    static void promise29_ended_ofTheLatestThatWasNotNone() {
        PartnerBooks x = books(1);
        Check.acts(x, "earn 0;earn 0;go a;");
        Check.acts(x, "close;".repeat(31));
        Check.same("behind a FAULT", x.ended(), 2);
        Check.tiers(x, "");
        Check.specials(x, "");
        x.go(0);
        x.back();
        Check.same("behind other calls", x.ended(), 2);
        Check.acts(x, "");
        Check.same("behind an empty one", x.ended(), NONE);
    }

    // ---- 30: "What the k-th ACT (0 on) that was done by the latest acts() that was not NONE told. -1000000000: there is none."

    static void promise30_row_aheadOfAny() {
        PartnerBooks x = books(1);
        Check.same("row(0)", x.row(0), OUT);
        Check.acts(x, "x");
        Check.same("row(0) behind a FAULT alone", x.row(0), OUT);
        Check.acts(x, "go a;");
        Check.same("row(0) of none done", x.row(0), OUT);
    }

    static void promise30_row_firstAndLast() {
        PartnerBooks x = books(1);
        Check.acts(x, "earn 5;earn 2;go a;earn 9;");
        int[][] due = {{MIN, OUT}, {-2, OUT}, {-1, OUT}, {0, 5}, {1, 7}, {2, OUT}, {3, OUT}, {MAX, OUT}};
        for (int[] d : due) {
            told(x, "row(" + d[0] + ")", d[1], () -> x.row(d[0]));
        }
        Check.acts(x, "earn 1;".repeat(30));
        for (int k = 0; k < 30; k++) {
            Check.same("row(" + k + ")", x.row(k), 8 + k);
        }
        Check.same("row(30)", x.row(30), OUT);
        Check.same("row(-1)", x.row(-1), OUT);
        Check.acts(x, "earn 0;");
        Check.same("row(0)", x.row(0), 37);
        Check.same("row(1)", x.row(1), OUT);
        Check.same("row(29)", x.row(29), OUT);
    }

    static void promise30_row_ofTheLatestThatWasNotNone() {
        PartnerBooks x = books(1);
        Check.acts(x, "earn 5;");
        Check.acts(x, "earn 6;earn");
        Check.same("row(0) behind a FAULT", x.row(0), 5);
        x.earn(1);
        x.back();
        x.back();
        Check.same("row(0) behind other calls", x.row(0), 5);
        Check.same("row(1)", x.row(1), OUT);
    }

    static void promise30_row_whatEachTold() {
        PartnerBooks x = withAssets();
        Check.acts(x, "come b 7;market 0 9;lose 1 8;borrow 2 6;repay 3 5;pay b 4;draw b 3;earn -2;close;");
        int[] due = {7, 50, 42, 56, 45, 11, 8, -10, 1};
        for (int k = 0; k < due.length; k++) {
            Check.same("row(" + k + ")", x.row(k), due[k]);
        }
        Check.same("ended()", x.ended(), NONE);
        // A rise of 14 takes the loss of 10, 5 each; valued anew a bears all of 33, so b has 3.
        Check.acts(x, "go b;");
        Check.same("row(0) of go", x.row(0), 3);
    }
}
