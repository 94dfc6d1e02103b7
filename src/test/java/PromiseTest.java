/** For each promise of the document: ordinary calls, the edges that it names, and wrong inputs. */
public final class PromiseTest {
    private static final int NONE = PartnerBooks.NONE;
    private static final int OUT = -1000000000;
    private static final int[] WILD = {Integer.MIN_VALUE, -1000000001, -2, 8, 9, 31, 32, 1000001, Integer.MAX_VALUE};

    public static void main(String[] args) {
        newObject();
        feed();
        end();
        tiers();
        tiersFaults();
        fault();
        tier();
        sale();
        is();
        partner();
        asset();
        come();
        go();
        goBelowNothing();
        duty();
        ratio();
        pay();
        draw();
        buy();
        sell();
        market();
        lose();
        borrow();
        repay();
        earn();
        closeChargesBack();
        closeTakesDebtsLoss();
        closeCures();
        closeGivesSpecials();
        closeFollowsTargets();
        closeKeepsLimits();
        step();
        specials();
        specialsFaults();
        special();
        acts();
        actsFaults();
        ended();
        row();
        hand();
        breaks();
        gain();
        below();
        tried();
        even();
        back();
        fills();
        years();
        exit();
        first();
        keep();
        restore();
        write();
        octet();
        Check.finish("PromiseTest");
    }

    private static PartnerBooks books(int... sums) {
        PartnerBooks x = new PartnerBooks();
        for (int p = 0; p < sums.length; p++) {
            x.come(p, sums[p]);
        }
        return x;
    }

    private static void capitals(PartnerBooks x, int... due) {
        for (int p = 0; p < due.length; p++) {
            Check.same("partner(" + p + ", 0)", x.partner(p, 0), due[p]);
        }
    }

    private static void steps(PartnerBooks x, int what, int... due) {
        int all = 0;
        for (int p = 0; p < due.length; p++) {
            Check.same("step(" + p + ", " + what + ")", x.step(p, what), due[p]);
            all += due[p];
        }
        Check.same("step(NONE, " + what + ")", x.step(NONE, what), all);
    }

    private static void newObject() {
        Check.part("1 a new object");
        PartnerBooks x = new PartnerBooks();
        for (int what = 0; what <= 12; what++) {
            Check.same("is(" + what + ")", x.is(what), 0);
        }
        Check.same("NONE", PartnerBooks.NONE, -1);
        Check.same("fault()", x.fault(), NONE);
        Check.same("ended()", x.ended(), NONE);
        Check.same("row(0)", x.row(0), OUT);
        Check.same("octet(0)", x.octet(0), NONE);
        Check.same("step(NONE, 7)", x.step(NONE, 7), OUT);
        Check.same("special(0, 0)", x.special(0, 0), OUT);
        Check.same("back()", x.back(), NONE);
        Check.no("restore(0)", x.restore(0));
        Check.no("restore(1)", x.restore(1));
        Check.same("first()", x.first(), NONE);
        PartnerBooks y = new PartnerBooks();
        y.come(0, 5);
        Check.same("is(6) of the other object", x.is(6), 0);
    }

    private static void feed() {
        Check.part("2 feed");
        PartnerBooks x = new PartnerBooks();
        for (int k = 1; k <= 20; k++) {
            Check.same("feed", x.feed(0x20202020, 0x20202020, 0x20202020, 0x20202020, 0x20202020), 20 * k);
        }
        Check.same("feed beyond 400", x.feed(1, 2, 3, 4, 5), NONE);
        Check.same("is(12)", x.is(12), 400);
        x.end(381);
        Check.same("feed behind 381", x.feed(1, 2, 3, 4, 5), NONE);
        Check.same("is(12)", x.is(12), 381);
        x.end(380);
        Check.same("feed behind 380", x.feed(1, 2, 3, 4, 5), 400);
        x.end(0);
        // "rest" " to " "c 5+" "a 07" ";   ": the highest byte first, behind one another.
        x.feed(0x72657374, 0x20746f20, 0x6320352b, 0x61203037, 0x3b202020);
        Check.same("tiers()", x.tiers(), 1);
        Check.same("tier(0, 3)", x.tier(0, 3), 5);
        Check.same("tier(0, 1)", x.tier(0, 1), 7);
        x.feed(0xff000000, 0, 0, 0, 0);
        Check.same("tiers() of a byte 255", x.tiers(), NONE);
        Check.same("fault()", x.fault(), 0);
        Check.same("is(11): feed is no deed", x.is(11), 1);
    }

    private static void end() {
        Check.part("3 end");
        PartnerBooks x = new PartnerBooks();
        Check.same("end(0)", x.end(0), 0);
        Check.same("end(1)", x.end(1), NONE);
        x.feed(0, 0, 0, 0, 0);
        Check.same("end(21)", x.end(21), NONE);
        Check.same("end(-1)", x.end(-1), NONE);
        Check.same("is(12)", x.is(12), 20);
        Check.same("end(20)", x.end(20), 20);
        Check.same("end(7)", x.end(7), 7);
        Check.same("is(12)", x.is(12), 7);
        Check.same("end(8)", x.end(8), NONE);
        for (int n : new int[] {Integer.MIN_VALUE, Integer.MAX_VALUE}) {
            Check.same("end(" + n + ")", x.end(n), NONE);
        }
        Check.same("is(11): end is no deed", x.is(11), 0);
        // What was cut off is not read, though it would go on a word or a number.
        Check.tape(x, "closeclose;         ");
        x.end(5);
        Check.same("acts() of a cut word", x.acts(), NONE);
        Check.same("fault()", x.fault(), 5);
        Check.tape(x, "earn 77;            ");
        x.end(6);
        x.feed(0x3b202020, 0x20202020, 0x20202020, 0x20202020, 0x20202020);
        Check.same("acts() of a cut number", x.acts(), 1);
        Check.same("is(1)", x.is(1), 7);
        Check.tape(x, "earn 12345678;");
        x.end(8);
        Check.same("acts() of a cut number", x.acts(), NONE);
        Check.same("fault()", x.fault(), 8);
    }

    private static void tiers() {
        Check.part("4 tiers");
        PartnerBooks x = books(0, 0, 0);
        Check.same("tiers()", Check.tiers(x, "first 999999 to a 99;first1to b1+c 2;rest to h 3;"), 3);
        Check.same("is(12)", x.is(12), 0);
        Check.same("tier(0, 0)", x.tier(0, 0), 999999);
        Check.same("tier(0, 1)", x.tier(0, 1), 99);
        Check.same("tier(1, 0)", x.tier(1, 0), 1);
        Check.same("tier(1, 2)", x.tier(1, 2), 1);
        Check.same("tier(1, 3)", x.tier(1, 3), 2);
        Check.same("tier(2, 0)", x.tier(2, 0), NONE);
        Check.same("tier(2, 8)", x.tier(2, 8), 3);
        Check.same("tiers() with a fault", Check.tiers(x, "rest to a 1"), NONE);
        Check.same("tiers stay", x.tier(0, 0), 999999);
        Check.same("is(12): read", x.is(12), 0);
        Check.same("blanks alone", Check.tiers(x, "     "), 0);
        Check.same("tier(0, 0)", x.tier(0, 0), NONE);
        for (int p = 0; p < 8; p++) {
            Check.same("tier(0, " + (p + 1) + ")", x.tier(0, p + 1), 1);
        }
        Check.same("tier(1, 0)", x.tier(1, 0), -2);
        Check.same("all eight", Check.tiers(x, " rest  to a 1+b 2+c 3+d 4+e 5+f 6+g 7+h 8 ; "), 1);
        Check.same("tier(0, 8)", x.tier(0, 8), 8);
        Check.same("empty", Check.tiers(x, ""), 0);
        StringBuilder eight = new StringBuilder();
        for (int k = 1; k <= 8; k++) {
            eight.append("first ").append(k).append(" to b 1;");
        }
        Check.same("eight firsts", Check.tiers(x, eight + "rest to a 00001;"), 9);
        Check.same("tier(7, 0)", x.tier(7, 0), 8);
        Check.same("tier(8, 1)", x.tier(8, 1), 1);
        Check.same("nine firsts", Check.tiers(x, eight + "first 9 to b 1;rest to a 1;"), NONE);
        Check.same("fault()", x.fault(), eight.length());
        Check.same("it is a deed", x.is(11), 8);
    }

    private static void tiersFault(String text, int due) {
        PartnerBooks x = new PartnerBooks();
        Check.same("tiers() of " + text, Check.tiers(x, text), NONE);
        Check.same("fault() of " + text, x.fault(), due);
        Check.same("is(11) of " + text, x.is(11), 0);
    }

    private static void tiersFaults() {
        Check.part("4 tiers, faults");
        tiersFault("first 0 to a 1;rest to a 1;", 6);
        tiersFault("first 1000000 to a 1;", 6);
        tiersFault("first 99999999999999999999 to a 1;", 6);
        tiersFault("first 4294967297 to a 1;", 6);
        tiersFault("first a to a 1;", 6);
        tiersFault("firsts 1 to a 1;", 0);
        tiersFault("first 1 to a 1;", 15);
        tiersFault("first 1 to a 1;  ", 17);
        tiersFault("first 1 of a 1;", 8);
        tiersFault("rest to i 1;", 8);
        tiersFault("rest to ab 1;", 8);
        tiersFault("rest to a 0;", 10);
        tiersFault("rest to a 100;", 10);
        tiersFault("rest to a;", 9);
        tiersFault("rest to a 1+;", 12);
        tiersFault("rest to a 1 b 1;", 12);
        tiersFault("rest to a 1+b 1+a 2;", 16);
        tiersFault("rest to a 1+b 1+c 1+d 1+e 1+f 1+g 1+h 1+a 1;", 40);
        tiersFault("rest to a 1;;", 12);
        tiersFault("rest to a 1; rest to a 1;", 13);
        tiersFault("rest to a 1; first 1 to a 1;", 13);
        tiersFault("rest to a 1\t;", 11);
        tiersFault("rest to A 1;", 8);
        tiersFault("rest to a -1;", 10);
        tiersFault("rest to", 7);
        tiersFault("rest", 4);
        tiersFault(";", 0);
        tiersFault("  x", 2);
        tiersFault("restto a 1;", 0);
        tiersFault("rest to a1b;", 10);
        tiersFault("rest to a 1;" + (char) 0, 12);
    }

    private static void fault() {
        Check.part("5 fault");
        PartnerBooks x = books(1);
        Check.tiers(x, "rest to z 1;");
        Check.same("fault()", x.fault(), 8);
        Check.same("fault() again", x.fault(), 8);
        Check.specials(x, "give a 1;");
        Check.same("fault() of specials that are well", x.fault(), NONE);
        Check.acts(x, "close 1;");
        Check.same("fault() of acts", x.fault(), 6);
        Check.acts(x, "go a;");
        Check.same("fault() of acts that are refused", x.fault(), NONE);
        Check.specials(x, "give");
        Check.same("fault() of specials", x.fault(), 4);
        Check.tiers(x, "");
        Check.same("fault() of an empty text", x.fault(), NONE);
    }

    private static void tier() {
        Check.part("6 tier");
        PartnerBooks x = new PartnerBooks();
        Check.tiers(x, "first 10 to b 5;rest to a 2;");
        Check.same("tier(0, 0)", x.tier(0, 0), 10);
        Check.same("tier(0, 1)", x.tier(0, 1), 0);
        Check.same("tier(0, 2)", x.tier(0, 2), 5);
        Check.same("tier(1, 0)", x.tier(1, 0), NONE);
        Check.same("tier(1, 1)", x.tier(1, 1), 2);
        Check.same("tier(2, 0)", x.tier(2, 0), -2);
        Check.same("tier(-1, 0)", x.tier(-1, 0), -2);
        Check.same("tier(0, 9)", x.tier(0, 9), -2);
        Check.same("tier(0, -1)", x.tier(0, -1), -2);
        for (int k : WILD) {
            Check.same("tier(" + k + ", 0)", x.tier(k, 0), -2);
        }
    }

    private static void sale() {
        Check.part("7 sale");
        PartnerBooks x = books(0, 0, 0);
        Check.tiers(x, "first 10 to a 1+b 1+c 1;first 7 to d 1;first 5 to b 2+d 9;rest to b 1+c 2;");
        // 10 dealt by thirds: 3 each, the one left over to a; d is not there, so its tier is left out.
        int[][] due = {{1, 1, 0, 0}, {2, 1, 1, 0}, {10, 4, 3, 3}, {12, 4, 5, 3}, {15, 4, 8, 3}, {16, 4, 9, 3},
            {17, 4, 9, 4}, {18, 4, 9, 5}, {0, 0, 0, 0}, {-1, 0, -1, 0}, {-3, 0, -1, -2}, {-5, 0, -2, -3}};
        for (int[] d : due) {
            for (int p = 0; p < 3; p++) {
                Check.same("sale(" + d[0] + ", " + p + ")", x.sale(d[0], p), d[p + 1]);
            }
        }
        Check.same("sale(5, 3)", x.sale(5, 3), OUT);
        Check.same("sale(100000000, 0)", x.sale(100000000, 0), 4);
        Check.same("sale(100000000, 1)", x.sale(100000000, 1), 8 + 33333329);
        Check.same("sale(-100000000, 2)", x.sale(-100000000, 2), -66666666);
        Check.same("sale(100000001, 0)", x.sale(100000001, 0), OUT);
        Check.same("sale(-100000001, 0)", x.sale(-100000001, 0), OUT);
        for (int p : WILD) {
            Check.same("sale(1, " + p + ")", x.sale(1, p), OUT);
        }
        Check.tiers(x, "first 3 to c 1;rest to h 7;");
        Check.same("the last without one there", x.sale(8, 0), 2);
        Check.same("the last without one there", x.sale(8, 1), 2);
        Check.same("the last without one there", x.sale(8, 2), 4);
        Check.same("the last without one there, below 0", x.sale(-4, 0), -2);
    }

    private static void is() {
        Check.part("8 is");
        PartnerBooks x = books(100);
        x.come(3, 50);
        x.buy(30, 40, 10);
        x.buy(10, 5, 15);
        x.earn(7);
        int[] due = {0, 7, 100 + 50 - 20 + 5 + 7, 157, 5, 0, 9, 3, 150, 0, 0, 5, 0};
        for (int what = 0; what < due.length; what++) {
            Check.same("is(" + what + ")", x.is(what), due[what]);
        }
        x.lose(0, 30);
        x.close();
        // A rise of 15 with a result of 7 less 30: 15 of the loss by ratio, as shares.
        int[] then = {1, 0, 142, 127, 15, 15, 9, 3, 127, 15, 0, 7, 0};
        for (int what = 0; what < then.length; what++) {
            Check.same("is(" + what + ") closed", x.is(what), then[what]);
        }
        x.repay(1, 15);
        Check.same("is(4)", x.is(4), 10);
        Check.same("is(5)", x.is(5), 15);
        x.close();
        Check.same("is(9)", x.is(9), 10);
        Check.same("is(10)", x.is(10), 5);
        x.feed(0, 0, 0, 0, 0);
        Check.same("is(12)", x.is(12), 20);
        for (int what : new int[] {-1, 13, Integer.MIN_VALUE, Integer.MAX_VALUE}) {
            Check.same("is(" + what + ")", x.is(what), OUT);
        }
    }

    private static void partner() {
        Check.part("9 partner");
        PartnerBooks x = books(100, 20);
        x.duty(1, 7);
        x.ratio(1, 3);
        x.buy(40, 40, 40);
        x.lose(0, 40);
        x.close();
        // 40 of debt hold 40 back: by 1 and 3.
        int[] due = {20 - 30, 7, 3, 30, 0, -37};
        for (int what = 0; what < due.length; what++) {
            Check.same("partner(1, " + what + ")", x.partner(1, what), due[what]);
        }
        Check.same("partner(0, 6)", x.partner(0, 6), 40 - 90);
        Check.same("partner(1, 6)", x.partner(1, 6), 40 + 10);
        x.earn(-81);
        Check.same("partner(0, 6) with a result", x.partner(0, 6), -1 - 90);
        Check.same("partner(1, 6) with a result", x.partner(1, 6), 0 + 10);
        x.repay(0, 10);
        x.close();
        Check.same("partner(1, 4)", x.partner(1, 4), 7);
        Check.same("partner(0, 4)", x.partner(0, 4), 3);
        Check.same("partner(1, 3)", x.partner(1, 3), 23);
        Check.same("partner(1, 7)", x.partner(1, 7), OUT);
        Check.same("partner(1, -1)", x.partner(1, -1), OUT);
        Check.same("partner(2, 0)", x.partner(2, 0), OUT);
        for (int p : WILD) {
            Check.same("partner(" + p + ", 0)", x.partner(p, 0), OUT);
            Check.same("partner(0, " + p + ")", x.partner(0, p), OUT);
        }
    }

    private static void asset() {
        Check.part("10 asset");
        PartnerBooks x = new PartnerBooks();
        x.buy(1, 2, 3);
        Check.same("asset(0, 0)", x.asset(0, 0), 1);
        Check.same("asset(0, 1)", x.asset(0, 1), 2);
        Check.same("asset(0, 2)", x.asset(0, 2), 3);
        Check.same("asset(0, 3)", x.asset(0, 3), NONE);
        Check.same("asset(0, -1)", x.asset(0, -1), NONE);
        Check.same("asset(1, 0)", x.asset(1, 0), NONE);
        for (int i : WILD) {
            Check.same("asset(" + i + ", 0)", x.asset(i, 0), NONE);
        }
        x.sell(0);
        Check.same("asset(0, 0) sold", x.asset(0, 0), NONE);
    }

    private static void come() {
        Check.part("11 come");
        PartnerBooks x = new PartnerBooks();
        x.buy(100, 130, 20);
        Check.same("the first has what all are more, too", x.come(4, 1000), 1030);
        Check.same("asset(0, 0)", x.asset(0, 0), 130);
        Check.same("is(2)", x.is(2), 920);
        Check.same("is(3)", x.is(3), 1030);
        Check.same("partner(4, 1)", x.partner(4, 1), 0);
        Check.same("partner(4, 2)", x.partner(4, 2), 1);
        x.market(0, 100);
        Check.same("come(2, 0)", x.come(2, 0), 0);
        Check.same("partner(4, 0)", x.partner(4, 0), 1000);
        Check.same("step(4, 6)", x.step(4, 6), -30);
        Check.same("come(0, 1000000)", x.come(0, 1000000), 1000000);
        Check.same("come(1, 1000001)", x.come(1, 1000001), NONE);
        Check.same("come(1, -1)", x.come(1, -1), NONE);
        Check.same("come(-1, 1)", x.come(-1, 1), NONE);
        Check.same("come(0, 1) again", x.come(0, 1), NONE);
        for (int p : WILD) {
            Check.same("come(" + p + ", 1)", x.come(p, 1), NONE);
        }
        x.earn(1);
        Check.same("come(1, 1) with a result", x.come(1, 1), NONE);
        x.earn(-1);
        Check.same("come(1, 1)", x.come(1, 1), 1);
        Check.same("is(6)", x.is(6), 23);
        PartnerBooks y = new PartnerBooks();
        y.buy(50, 20, 0);
        Check.same("below 0", y.come(0, 10), -20);
    }

    private static void go() {
        Check.part("12 go");
        PartnerBooks x = books(100, 200, 0);
        x.buy(10, 40, 0);
        x.duty(1, 5);
        x.ratio(1, 9);
        Check.same("go(5)", x.go(5), OUT);
        x.earn(3);
        Check.same("go(1) with a result", x.go(1), OUT);
        x.earn(-3);
        // 330 in all, 110 each: the gain of 30 is dealt by gaps 10 and 110 (a and c).
        Check.same("go(1)", x.go(1), 200);
        capitals(x, 103, OUT, 27);
        Check.same("step(0, 5)", x.step(0, 5), 3);
        Check.same("is(2)", x.is(2), 90);
        Check.same("is(6)", x.is(6), 5);
        Check.same("go(1) again", x.go(1), OUT);
        Check.same("go(2)", x.go(2), 27);
        Check.same("go(0), the last one", x.go(0), OUT);
        for (int p : WILD) {
            Check.same("go(" + p + ")", x.go(p), OUT);
        }
        Check.same("come(1, 4)", x.come(1, 4), 4);
        Check.same("he comes anew: DUTY", x.partner(1, 1), 0);
        Check.same("he comes anew: RATIO", x.partner(1, 2), 1);
    }

    private static void goBelowNothing() {
        Check.part("12 go, below 0");
        PartnerBooks x = books(100, 100, 100);
        x.ratio(0, 2);
        x.buy(60, 60, 60);
        x.lose(0, 60);
        x.close();
        // The loss held by debt: 30, 15, 15.
        Check.same("partner(1, 3)", x.partner(1, 3), 15);
        x.repay(0, 20);
        x.close();
        Check.same("partner(1, 4)", x.partner(1, 4), 5);
        x.draw(1, 115);
        x.duty(1, 10);
        x.market(0, 0);
        Check.same("go(1)", x.go(1), -10);
        // 20 are missing yet: by 2 and 1; of his 10 SHARE and 5 OWED likewise.
        capitals(x, 70 - 14, OUT, 85 - 6);
        Check.same("partner(0, 3)", x.partner(0, 3), 20 + 7);
        Check.same("partner(2, 3)", x.partner(2, 3), 10 + 3);
        Check.same("partner(0, 4)", x.partner(0, 4), 10 + 4);
        Check.same("partner(2, 4)", x.partner(2, 4), 5 + 1);
        Check.same("is(8) is is(3)", x.is(8), x.is(3));
        x.ratio(0, 0);
        x.ratio(2, 0);
        x.come(1, 0);
        x.draw(1, 9);
        Check.same("go(1) without DUTY", x.go(1), 0);
        capitals(x, 56 - 5, OUT, 79 - 4);
        x.come(1, 0);
        x.duty(1, 100);
        x.draw(1, 9);
        Check.same("go(1) with more DUTY than is missing", x.go(1), -9);
        capitals(x, 51, OUT, 75);
    }

    private static void duty() {
        Check.part("13 duty");
        PartnerBooks x = books(1);
        Check.same("duty(0, 100000)", x.duty(0, 100000), 0);
        Check.same("duty(0, 100001)", x.duty(0, 100001), NONE);
        Check.same("duty(0, -1)", x.duty(0, -1), NONE);
        Check.same("duty(1, 1)", x.duty(1, 1), NONE);
        Check.same("duty(0, 0)", x.duty(0, 0), 100000);
        Check.same("partner(0, 1)", x.partner(0, 1), 0);
        for (int p : WILD) {
            Check.same("duty(" + p + ", 1)", x.duty(p, 1), NONE);
        }
        Check.same("is(11)", x.is(11), 3);
    }

    private static void ratio() {
        Check.part("14 ratio");
        PartnerBooks x = books(1);
        Check.same("ratio(0, 99)", x.ratio(0, 99), 1);
        Check.same("ratio(0, 100)", x.ratio(0, 100), NONE);
        Check.same("ratio(0, -1)", x.ratio(0, -1), NONE);
        Check.same("ratio(1, 1)", x.ratio(1, 1), NONE);
        Check.same("ratio(0, 0)", x.ratio(0, 0), 99);
        Check.same("partner(0, 2)", x.partner(0, 2), 0);
        for (int p : WILD) {
            Check.same("ratio(" + p + ", 1)", x.ratio(p, 1), NONE);
        }
        Check.same("is(11)", x.is(11), 3);
    }

    private static void pay() {
        Check.part("15 pay");
        PartnerBooks x = books(1);
        Check.same("pay(0, 1)", x.pay(0, 1), 2);
        Check.same("pay(0, 1000000)", x.pay(0, 1000000), 1000002);
        Check.same("is(2)", x.is(2), 1000002);
        Check.same("pay(0, 0)", x.pay(0, 0), OUT);
        Check.same("pay(0, -1)", x.pay(0, -1), OUT);
        Check.same("pay(0, 1000001)", x.pay(0, 1000001), OUT);
        Check.same("pay(1, 1)", x.pay(1, 1), OUT);
        for (int p : WILD) {
            Check.same("pay(" + p + ", 1)", x.pay(p, 1), OUT);
        }
        x.earn(5);
        Check.same("pay(0, 3) with a result", x.pay(0, 3), 1000005);
        Check.same("is(1)", x.is(1), 5);
    }

    private static void draw() {
        Check.part("16 draw");
        PartnerBooks x = books(5);
        Check.same("draw(0, 1)", x.draw(0, 1), 4);
        Check.same("draw(0, 1000000)", x.draw(0, 1000000), -999996);
        Check.same("is(2)", x.is(2), -999996);
        Check.same("draw(0, 0)", x.draw(0, 0), OUT);
        Check.same("draw(0, -1)", x.draw(0, -1), OUT);
        Check.same("draw(0, 1000001)", x.draw(0, 1000001), OUT);
        Check.same("draw(1, 1)", x.draw(1, 1), OUT);
        for (int p : WILD) {
            Check.same("draw(" + p + ", 1)", x.draw(p, 1), OUT);
        }
    }

    private static void buy() {
        Check.part("17 buy");
        PartnerBooks x = new PartnerBooks();
        Check.same("buy(1000001, 0, 0)", x.buy(1000001, 0, 0), NONE);
        Check.same("buy(0, 1000001, 0)", x.buy(0, 1000001, 0), NONE);
        Check.same("buy(0, 0, 1000001)", x.buy(0, 0, 1000001), NONE);
        Check.same("buy(0, -1, 0)", x.buy(0, -1, 0), NONE);
        Check.same("buy(0, 0, -1)", x.buy(0, 0, -1), NONE);
        Check.same("buy(1000000, 1000000, 1000000)", x.buy(1000000, 1000000, 1000000), 0);
        Check.same("is(2)", x.is(2), 0);
        Check.same("buy(10, 20, 3)", x.buy(10, 20, 3), 1);
        Check.same("is(2)", x.is(2), -7);
        Check.same("is(3)", x.is(3), 0);
        for (int i = 2; i < 8; i++) {
            Check.same("buy(0, 0, 0)", x.buy(0, 0, 0), i);
        }
        Check.same("a ninth", x.buy(0, 0, 0), NONE);
        x.sell(5);
        x.sell(2);
        Check.same("the least that is free", x.buy(0, 0, 0), 2);
        Check.same("the least that is free", x.buy(0, 0, 0), 5);
        Check.same("is(7)", x.is(7), 255);
    }

    private static void sell() {
        Check.part("18 sell");
        PartnerBooks x = new PartnerBooks();
        x.buy(10, 25, 8);
        Check.same("sell(0)", x.sell(0), 15);
        Check.same("is(2)", x.is(2), -2 + 17);
        Check.same("is(3) is is(1)", x.is(3), 15);
        Check.same("is(7)", x.is(7), 0);
        Check.same("sell(0) again", x.sell(0), OUT);
        x.buy(10, 0, 30);
        Check.same("sell(0) below", x.sell(0), 5);
        Check.same("is(4)", x.is(4), 0);
        Check.same("sell(-1)", x.sell(-1), OUT);
        for (int i : WILD) {
            Check.same("sell(" + i + ")", x.sell(i), OUT);
        }
    }

    private static void market() {
        Check.part("19 market");
        PartnerBooks x = new PartnerBooks();
        x.buy(10, 25, 8);
        Check.same("market(0, 1000000)", x.market(0, 1000000), 25);
        Check.same("market(0, 0)", x.market(0, 0), 1000000);
        Check.same("asset(0, 1)", x.asset(0, 1), 0);
        Check.same("asset(0, 0)", x.asset(0, 0), 10);
        Check.same("market(0, 1000001)", x.market(0, 1000001), NONE);
        Check.same("market(0, -1)", x.market(0, -1), NONE);
        Check.same("market(1, 1)", x.market(1, 1), NONE);
        for (int i : WILD) {
            Check.same("market(" + i + ", 1)", x.market(i, 1), NONE);
        }
    }

    private static void lose() {
        Check.part("20 lose");
        PartnerBooks x = new PartnerBooks();
        x.buy(10, 25, 8);
        Check.same("lose(0, 11)", x.lose(0, 11), NONE);
        Check.same("lose(0, 0)", x.lose(0, 0), NONE);
        Check.same("lose(0, -1)", x.lose(0, -1), NONE);
        Check.same("lose(0, 4)", x.lose(0, 4), 6);
        Check.same("is(1)", x.is(1), -4);
        Check.same("is(2)", x.is(2), -2);
        Check.same("lose(0, 6)", x.lose(0, 6), 0);
        Check.same("lose(0, 1)", x.lose(0, 1), NONE);
        Check.same("lose(1, 1)", x.lose(1, 1), NONE);
        Check.same("asset(0, 1)", x.asset(0, 1), 25);
        for (int i : WILD) {
            Check.same("lose(" + i + ", 1)", x.lose(i, 1), NONE);
        }
    }

    private static void borrow() {
        Check.part("21 borrow");
        PartnerBooks x = new PartnerBooks();
        x.buy(10, 25, 8);
        Check.same("borrow(0, 999993)", x.borrow(0, 999993), NONE);
        Check.same("borrow(0, MAX)", x.borrow(0, Integer.MAX_VALUE), NONE);
        Check.same("borrow(0, 0)", x.borrow(0, 0), NONE);
        Check.same("borrow(0, -1)", x.borrow(0, -1), NONE);
        Check.same("borrow(0, 1)", x.borrow(0, 1), 9);
        Check.same("borrow(0, 999991)", x.borrow(0, 999991), 1000000);
        Check.same("is(2)", x.is(2), -2 + 999992);
        Check.same("is(3)", x.is(3), 0);
        Check.same("borrow(0, 1)", x.borrow(0, 1), NONE);
        Check.same("borrow(1, 1)", x.borrow(1, 1), NONE);
        for (int i : WILD) {
            Check.same("borrow(" + i + ", 1)", x.borrow(i, 1), NONE);
        }
    }

    private static void repay() {
        Check.part("22 repay");
        PartnerBooks x = new PartnerBooks();
        x.buy(10, 25, 8);
        Check.same("repay(0, 9)", x.repay(0, 9), NONE);
        Check.same("repay(0, 0)", x.repay(0, 0), NONE);
        Check.same("repay(0, -1)", x.repay(0, -1), NONE);
        Check.same("repay(0, 3)", x.repay(0, 3), 5);
        Check.same("is(2)", x.is(2), -5);
        Check.same("repay(0, 5)", x.repay(0, 5), 0);
        Check.same("repay(0, 1)", x.repay(0, 1), NONE);
        Check.same("repay(1, 1)", x.repay(1, 1), NONE);
        for (int i : WILD) {
            Check.same("repay(" + i + ", 1)", x.repay(i, 1), NONE);
        }
    }

    private static void earn() {
        Check.part("23 earn");
        PartnerBooks x = new PartnerBooks();
        Check.same("earn(1000000)", x.earn(1000000), 1000000);
        Check.same("earn(-1000000)", x.earn(-1000000), 0);
        Check.same("earn(-1000000)", x.earn(-1000000), -1000000);
        Check.same("is(2)", x.is(2), -1000000);
        Check.same("earn(0)", x.earn(0), -1000000);
        Check.same("earn(1000001)", x.earn(1000001), OUT);
        Check.same("earn(-1000001)", x.earn(-1000001), OUT);
        Check.same("earn(MIN)", x.earn(Integer.MIN_VALUE), OUT);
        Check.same("is(1)", x.is(1), -1000000);
        Check.same("is(11)", x.is(11), 4);
    }

    private static void closeChargesBack() {
        Check.part("24 close (1)");
        PartnerBooks x = books(0, 0, 0);
        x.ratio(0, 3);
        x.ratio(1, 2);
        x.ratio(2, 0);
        x.buy(100, 100, 100);
        x.lose(0, 100);
        Check.same("close()", x.close(), 1);
        steps(x, 2, 60, 40, 0);
        capitals(x, -60, -40, 0);
        // A fall of 33, charged back as 20 come in: 33 by 60 and 40, then 20 by 20 and 13.
        x.repay(0, 33);
        x.earn(20);
        Check.same("close()", x.close(), 2);
        steps(x, 0, 20, 13, 0);
        steps(x, 1, 13, 7, 0);
        steps(x, 3, 0, 0, 0);
        capitals(x, -47, -33, 0);
        Check.same("is(10)", x.is(10), 13);
        // What is owed is charged back without a fall, too, and what is more goes on to the cure.
        x.earn(30);
        Check.same("close()", x.close(), 3);
        steps(x, 0, 0, 0, 0);
        steps(x, 1, 7, 6, 0);
        Check.same("is(10)", x.is(10), 0);
        // A fall of more than all shares.
        x.borrow(0, 500);
        x.close();
        x.sell(0);
        x.close();
        Check.same("is(9)", x.is(9), 0);
        Check.same("step(NONE, 0)", x.step(NONE, 0), 67);
    }

    private static void closeTakesDebtsLoss() {
        Check.part("24 close (2)");
        PartnerBooks x = books(10, 10, 10);
        x.ratio(0, 0);
        x.ratio(1, 0);
        x.ratio(2, 0);
        x.buy(50, 50, 40);
        x.lose(0, 20);
        // A rise of 10 of a loss of 20: by 1 each.
        x.close();
        steps(x, 2, 4, 3, 3);
        // What is left is shared by targets: 4, 3, 3 of 10, from 6, 7, 7.
        steps(x, 5, -2, -4, -4);
        Check.same("is(9)", x.is(9), 10);
        // A rise without a loss, and a loss without a rise.
        x.borrow(0, 10);
        x.earn(5);
        x.close();
        Check.same("step(NONE, 2)", x.step(NONE, 2), 0);
        x.earn(-2);
        x.close();
        Check.same("step(NONE, 2)", x.step(NONE, 2), 0);
        // A rise of more than the loss.
        x.borrow(0, 10);
        x.lose(0, 3);
        x.close();
        steps(x, 2, 1, 1, 1);
        steps(x, 6, 0, 0, 0);
        Check.same("is(5)", x.is(5), 33);
    }

    private static void closeCures() {
        Check.part("24 close (3)");
        PartnerBooks x = books(100, 100, 100);
        x.duty(0, 10);
        x.draw(0, 140);
        x.draw(1, 115);
        x.earn(12);
        // Missing 30 and 15.
        x.close();
        steps(x, 3, 8, 4, 0);
        capitals(x, -32, -11, 100);
        steps(x, 5, 0, 0, 0);
        x.earn(40);
        x.close();
        steps(x, 3, 22, 11, 0);
        Check.same("below()", x.below(), 0);
        Check.same("step(NONE, 5)", x.step(NONE, 5), 7);
        x.earn(-5);
        x.close();
        Check.same("no cure by a loss", x.step(NONE, 3), 0);
    }

    private static void closeGivesSpecials() {
        Check.part("24 close (4)");
        PartnerBooks x = books(100, 100);
        Check.specials(x, "give a result/2;give b result-capital a*0;give c 5;give a 9;");
        x.earn(101);
        x.close();
        steps(x, 4, 50, 51, 0);
        steps(x, 5, 0, 0, 0);
        Check.specials(x, "give b 10 when year<2;give b 20 when year>1;give a 1-2;give a 7 when 1>1;give a 8 when 1<1;");
        x.earn(100);
        x.close();
        steps(x, 4, 0, 10);
        x.earn(100);
        x.close();
        steps(x, 4, 0, 20);
        x.earn(-100);
        x.close();
        steps(x, 4, 0, 0);
        Check.specials(x, "give a capital a when capital a > 0;give a capital a;give b net-net+3;");
        x.draw(0, x.partner(0, 0) - 4);
        x.earn(1000);
        x.close();
        // The second one sees what the first one gave.
        steps(x, 4, 4 + 8, 3);
        Check.specials(x, "give b 5;give a 1;");
        x.earn(1);
        x.close();
        steps(x, 4, 0, 1);
        Check.specials(x, "give b 1;");
        x.earn(5);
        Check.same("special(0, 2)", x.special(0, 2), 1);
        x.close();
        steps(x, 4, 0, 1);
    }

    private static void closeFollowsTargets() {
        Check.part("24 close (5)");
        PartnerBooks x = books(100, 60, 0);
        x.earn(20);
        x.close();
        // 180, 60 each: gaps -40, 0, 60.
        steps(x, 5, 0, 0, 20);
        x.earn(90);
        x.close();
        // 270, 90 each: gaps -10, 30, 70.
        steps(x, 5, 0, 27, 63);
        capitals(x, 100, 87, 83);
        x.earn(-1);
        x.close();
        // 269: 90, 90, 89: only a is above.
        steps(x, 5, -1, 0, 0);
        x.earn(-100);
        x.close();
        // 169: 57, 56, 56: 42, 31, 27.
        steps(x, 5, -42, -31, -27);
        capitals(x, 57, 56, 56);
        Check.same("is(0)", x.is(0), 4);
        Check.same("close() with nothing", x.close(), 5);
        steps(x, 6, 0, 0, 0);
        x.earn(1);
        x.close();
        steps(x, 6, 0, 1, 0);
        Check.same("close() without anybody", new PartnerBooks().close(), NONE);
    }

    private static void closeKeepsLimits() {
        Check.part("24 close (6)");
        PartnerBooks x = books(30, 10, 100, 0);
        x.ratio(0, 2);
        x.ratio(3, 5);
        x.duty(3, 4);
        Check.tiers(x, "rest to b 1;");
        x.earn(-60);
        // 80 by the sale for b alone: gaps -30, 70, -100, 0: losses 14, 0, 46, 0, all within.
        x.close();
        steps(x, 5, -14, 0, -46, 0);
        steps(x, 6, -14, 0, -46, 0);
        capitals(x, 16, 10, 54, 0);
        Check.tiers(x, "rest to a 1;");
        x.draw(2, 50);
        x.earn(-12);
        // 30 in all but 12, for a: gaps 2, -10, -4: losses 9, 3.
        x.close();
        steps(x, 6, 0, -9, -3, 0);
        capitals(x, 16, 1, 1, 0);
        x.earn(-9);
        // 9 for a: gaps -7, -1, -1: losses 7, 1, 1.
        x.close();
        capitals(x, 9, 0, 0, 0);
        Check.tiers(x, "first 9 to a 1;rest to d 1;");
        x.earn(-10);
        // -1 by d: gaps -9, 0, 0, -1: 9, 1; the room of d is 4.
        x.close();
        steps(x, 6, -9, 0, 0, -1);
        x.pay(2, 3);
        x.ratio(2, 0);
        x.ratio(3, 0);
        x.earn(-11);
        // 2 less 11, -9 by d: gaps c -3, d -8: losses 3, 8; d has room for 3, there is none left.
        x.close();
        steps(x, 5, 0, 0, -3, -8);
        steps(x, 6, -5, 0, -3, -3);
        Check.same("step(NONE, 7)", x.step(NONE, 7), 5);
        capitals(x, -5, 0, 0, -4);
        limitsByRatio();
        limitsWithoutRatio();
        limitsInRounds();
    }

    private static void limitsByRatio() {
        PartnerBooks x = books(10, 50, 50, 50);
        x.ratio(1, 0);
        x.ratio(2, 1);
        x.ratio(3, 3);
        Check.tiers(x, "first 150 to b 1+c 1+d 1;rest to a 1;");
        x.draw(0, 8);
        x.earn(-4);
        // 148 for b, c, d: 50, 49, 49: gaps -2, 0, -1, -1: all within.
        x.close();
        steps(x, 6, -2, 0, -1, -1);
        x.earn(-9);
        Check.tiers(x, "first 148 to b 50+c 49+d 49;rest to a 1;");
        x.pay(0, 1);
        x.close();
        // 140: gaps a -1, b, c, d by their share of 140.
        Check.same("step(NONE, 6)", x.step(NONE, 6), -9);
        PartnerBooks y = books(10, 50, 50, 50);
        y.ratio(1, 0);
        y.ratio(3, 3);
        Check.tiers(y, "first 150 to b 1+c 1+d 1;rest to a 1;");
        y.draw(0, 20);
        y.earn(-8);
        // 132, 44 each: gaps 10 for a, -6 each: 3, 3, 2.
        y.close();
        steps(y, 6, 0, -3, -3, -2);
        y.draw(1, 47);
        y.earn(-8);
        Check.tiers(y, "rest to c 1+d 1;");
        // -10, 0, 47, 48 less 8: 77: 39, 38: gaps 10, 0, -8, -10: 4, 4.
        y.close();
        steps(y, 6, 0, 0, -4, -4);
        // A loss told by the last tier to those without room goes to the others by ratio 1 and 3.
        Check.tiers(y, "first 87 to c 43+d 44;rest to b 1;");
        y.pay(0, 10);
        y.pay(0, 5);
        y.duty(0, 0);
        y.ratio(0, 1);
        y.draw(1, 7);
        y.earn(-6);
        y.close();
        // 85 less 6 is 79 for c and d (40, 39 of 43, 44): gaps -5, 7, -4 (39.04.. and the one left over), -5.
        Check.same("step(NONE, 6)", y.step(NONE, 6), -6);
        Check.same("step(NONE, 7)", y.step(NONE, 7), 0);
    }

    private static void limitsWithoutRatio() {
        PartnerBooks x = books(0, 40, 40, 0);
        x.draw(0, 10);
        x.draw(3, 20);
        for (int p = 0; p < 4; p++) {
            x.ratio(p, 0);
        }
        Check.tiers(x, "first 1 to a 1;rest to a 1+d 1;");
        x.earn(-57);
        // -7 by a and d: -4, -3: gaps 6, -40, -40, 17: losses 29, 28.
        x.close();
        steps(x, 6, 0, -29, -28, 0);
        x.duty(3, 27);
        x.earn(-8);
        // -15 by a and d: -8, -7: gaps 2, -11, -12, 13: losses 4, 4.
        x.close();
        steps(x, 6, 0, -4, -4, 0);
        Check.tiers(x, "rest to b 1;");
        x.duty(0, 12);
        x.duty(1, 20);
        x.earn(-30);
        // -45 by b: gaps 10, -52, -8, 20: losses 26, 4 (26.0, 4.0).
        x.close();
        steps(x, 5, 0, -26, -4, 0);
        steps(x, 6, 0, -26, -4, 0);
        x.earn(-7);
        // -52 by b: gaps 10, -33, -4, 20: losses 7, 0; b has room for 1, a for 2, c for 4, d for 7: 6 by 1 each.
        x.close();
        steps(x, 5, 0, -7, 0, 0);
        steps(x, 6, -2, -1, -2, -2);
    }

    private static void limitsInRounds() {
        PartnerBooks x = books(5, 1, 2, 100);
        x.ratio(0, 0);
        x.ratio(1, 10);
        x.ratio(2, 5);
        x.ratio(3, 1);
        Check.tiers(x, "first 8 to a 5+b 1+c 2;first 100 to d 1;rest to a 1;");
        x.draw(3, 100);
        x.duty(3, 50);
        x.earn(-24);
        // 8 less 24 is -16 by a: gaps -21, -1, -2, 0 of 24: 21, 1, 2, 0.
        x.close();
        steps(x, 5, -21, -1, -2, 0);
        // 16 above a's room go to d, the only one with room.
        steps(x, 6, -5, -1, -2, -16);
        PartnerBooks y = books(5, 3, 4, 0);
        y.ratio(1, 10);
        y.ratio(2, 5);
        y.duty(3, 50);
        Check.tiers(y, "first 12 to a 5+b 3+c 4;rest to a 1;");
        y.earn(-18);
        // -6 by a: gaps -11, -3, -4, 0.
        y.close();
        steps(y, 5, -11, -3, -4, 0);
        steps(y, 6, -5, -3, -4, -6);
        PartnerBooks z = books(0, 3, 40, 40);
        z.ratio(1, 10);
        z.ratio(2, 5);
        z.ratio(3, 1);
        Check.tiers(z, "first 83 to b 3+c 40+d 40;rest to a 1;");
        z.come(4, 17);
        z.draw(4, 100);
        z.earn(-32);
        // 0 less 32 by a: gaps a -32, b -3, c -40, d -40, e 83; losses 32 by 115: 9, 1, 11, 11.
        z.close();
        steps(z, 5, -9, -1, -11, -11, 0);
        // 9 by 10, 5, 1: 6, 2, 0 and one more for b: 7; b has room for 2, so 5 by 5 and 1: 5, 0.
        steps(z, 6, 0, -3, -18, -11, 0);
        Check.same("step(NONE, 7)", z.step(NONE, 7), 0);
    }

    private static void step() {
        Check.part("25 step");
        PartnerBooks x = new PartnerBooks();
        Check.same("step ahead of any", x.step(0, 5), OUT);
        x.come(0, 10);
        for (int what = 0; what <= 6; what++) {
            Check.same("step(0, " + what + ")", x.step(0, what), 0);
            Check.same("step(7, " + what + ")", x.step(7, what), 0);
            Check.same("step(NONE, " + what + ")", x.step(NONE, what), 0);
        }
        Check.same("step(NONE, 7)", x.step(NONE, 7), 0);
        Check.same("step(0, 7)", x.step(0, 7), OUT);
        Check.same("step(NONE, 8)", x.step(NONE, 8), OUT);
        Check.same("step(0, -1)", x.step(0, -1), OUT);
        Check.same("step(-2, 0)", x.step(-2, 0), OUT);
        for (int p : WILD) {
            Check.same("step(" + p + ", 0)", x.step(p, 0), OUT);
            Check.same("step(0, " + p + ")", x.step(0, p), OUT);
        }
        x.earn(-14);
        x.close();
        Check.same("step(0, 5)", x.step(0, 5), -14);
        Check.same("step(0, 6)", x.step(0, 6), -14);
        Check.same("step(NONE, 7)", x.step(NONE, 7), 4);
        x.keep(0);
        x.earn(3);
        x.come(0, 4);
        Check.same("a come that was refused tells nothing", x.step(NONE, 7), 4);
        x.close();
        Check.same("step(0, 3)", x.step(0, 3), 3);
        x.buy(0, 50, 0);
        x.come(1, 2);
        Check.same("step(0, 3) of come", x.step(0, 3), 0);
        Check.same("step(0, 5) of come", x.step(0, 5), 50);
        x.market(0, 0);
        x.go(1);
        // 1 is left, for a: gaps -48, -2.
        Check.same("step(0, 6) of go", x.step(0, 6), -48);
        Check.same("step(1, 6) of go", x.step(1, 6), -2);
        x.back();
        Check.same("taken back", x.step(0, 5), 50);
        x.back();
        x.back();
        x.back();
        Check.same("taken back to the close", x.step(0, 3), 3);
        x.restore(0);
        Check.same("kept", x.step(NONE, 7), 4);
        x.hand(0, 3, 50);
        Check.same("to hand over tells nothing", x.step(NONE, 7), 4);
        Check.acts(x, "earn 2;close;");
        Check.same("by acts", x.step(NONE, 3), 2);
    }

    private static void specials() {
        Check.part("26 specials");
        PartnerBooks x = books(10, 20);
        Check.same("specials()", Check.specials(x, "give a 1;give h capital b*share a/3-net when held+cash<year;"), 2);
        Check.same("is(12)", x.is(12), 0);
        Check.same("special(1, 0)", x.special(1, 0), 7);
        Check.same("a fault", Check.specials(x, "give a 1"), NONE);
        Check.same("they stay", x.special(1, 0), 7);
        Check.same("is(12)", x.is(12), 0);
        Check.same("it is a deed", x.is(11), 3);
        Check.same("empty", Check.specials(x, "  "), 0);
        Check.same("special(0, 0)", x.special(0, 0), OUT);
        x.back();
        Check.same("special(0, 0) taken back", x.special(0, 0), 0);
        String eight = "give a 1;give b 2;give c 3;give d 4;give e 5;give f 6;give g 7;give h 8;";
        Check.same("eight", Check.specials(x, eight), 8);
        Check.same("special(7, 1)", x.special(7, 1), 8);
        Check.same("nine", Check.specials(x, eight + " give a 9;"), NONE);
        Check.same("fault()", x.fault(), eight.length() + 1);
        StringBuilder forty = new StringBuilder("give a 1 when 1>0;give b 0");
        for (int k = 5; k <= 40; k++) {
            forty.append("+1");
        }
        Check.same("forty things", Check.specials(x, forty + ";"), 2);
        Check.same("special(1, 1)", x.special(1, 1), 36);
        Check.same("a thing more", Check.specials(x, forty + "+result;"), NONE);
        Check.same("fault()", x.fault(), forty.length() + 1);
        Check.same("a thing more", Check.specials(x, forty + ";give a 1;"), NONE);
        Check.same("fault()", x.fault(), forty.length() + 8);
    }

    private static void specialsFault(String text, int due) {
        PartnerBooks x = new PartnerBooks();
        Check.same("specials() of " + text, Check.specials(x, text), NONE);
        Check.same("fault() of " + text, x.fault(), due);
        Check.same("is(11) of " + text, x.is(11), 0);
    }

    private static void specialsFaults() {
        Check.part("26 specials, faults");
        specialsFault("gives a 1;", 0);
        specialsFault("give i 1;", 5);
        specialsFault("give a;", 6);
        specialsFault("give a -1;", 7);
        specialsFault("give a 1000000;", 7);
        specialsFault("give a 1+;", 9);
        specialsFault("give a 1 1;", 9);
        specialsFault("give a capital;", 14);
        specialsFault("give a capital z;", 15);
        specialsFault("give a share 1;", 13);
        specialsFault("give a profit;", 7);
        specialsFault("give a results;", 7);
        specialsFault("give a 1 when;", 13);
        specialsFault("give a 1 when 1 > ;", 18);
        specialsFault("give a 1 when 1 > 2 > 3;", 20);
        specialsFault("give a 1 when 1 = 2;", 16);
        specialsFault("give a 1 when 1 < 2 when 1 < 2;", 20);
        specialsFault("give a 1 > 2;", 9);
        specialsFault("give a (1);", 7);
        specialsFault("give a 1;x", 9);
        specialsFault("give a 1;;", 9);
        specialsFault("give a 1", 8);
        specialsFault("give a 1 ", 9);
        specialsFault("give a 1*/2;", 9);
        specialsFault("give a 1 when 1 " + (char) 171 + " 2;", 16);
    }

    private static void special() {
        Check.part("27 special");
        PartnerBooks x = books(10, 20);
        x.buy(5, 5, 12);
        Check.specials(x, "give b 2+3*4-20/3/2;give c result;give a 7/0+cash*1;give a held*10+net+year;"
            + "give a capital b-capital a-share a-capital h;give a 999999*999999;give a 0-999*3000/7;"
            + "give a 5 when result>5;");
        int[] due = {2 + 12 - 3, 0, 37, 70 + 30, 10, 999999 * 999999, -(999 * 3000 / 7), 5};
        int[] who = {1, 2, 0, 0, 0, 0, 0, 0};
        for (int k = 0; k < due.length; k++) {
            Check.same("special(" + k + ", 0)", x.special(k, 0), who[k]);
            Check.same("special(" + k + ", 1)", x.special(k, 1), due[k]);
            Check.same("special(" + k + ", 2)", x.special(k, 2), 0);
        }
        x.earn(5);
        Check.same("special(0, 2): no more than the result", x.special(0, 2), 5);
        Check.same("special(1, 1): result", x.special(1, 1), 5);
        Check.same("special(1, 2): c is not there", x.special(1, 2), 0);
        Check.same("special(6, 2): below 0", x.special(6, 2), 0);
        Check.same("special(7, 2)", x.special(7, 2), 0);
        x.earn(1);
        Check.same("special(7, 2)", x.special(7, 2), 5);
        Check.same("special(8, 0)", x.special(8, 0), OUT);
        Check.same("special(-1, 0)", x.special(-1, 0), OUT);
        Check.same("special(0, 3)", x.special(0, 3), OUT);
        Check.same("special(0, -1)", x.special(0, -1), OUT);
        Check.specials(x, "give a 65536*32768/0+65536*32768/1;give b 1-2-3;give b 7/2*2;");
        Check.same("wraps", x.special(0, 1), Integer.MIN_VALUE);
        Check.same("from the left", x.special(1, 1), -4);
        Check.same("from the left", x.special(2, 1), 6);
        Check.specials(x, "give a 0-7/2;give b year-2*65536*32768/year;");
        Check.same("towards 0", x.special(0, 1), -3);
    }

    private static void acts() {
        Check.part("28 acts");
        PartnerBooks x = books(100);
        x.buy(50, 50, 20);
        Check.same("acts()", Check.acts(x, "come b 40 ; pay a 1;draw b 2;earn - 7;earn 3;lose 0 50;borrow 0 10;"
            + "repay 0 5;market 0 9;close;go b;"), 11);
        int[] due = {40, 101, 38, -7, -4, 0, 30, 25, 50, 1};
        for (int k = 0; k < due.length; k++) {
            Check.same("row(" + k + ")", x.row(k), due[k]);
        }
        Check.same("is(6)", x.is(6), 1);
        Check.same("is(0)", x.is(0), 1);
        Check.same("is(12)", x.is(12), 0);
        Check.same("is(11): each act a deed, the latest twelve", x.is(11), 12);
        Check.same("back()", x.back(), 11);
        Check.same("go taken back", x.is(6), 3);
        Check.same("close stays", x.is(0), 1);
        for (int k = 10; k >= 1; k--) {
            Check.same("back()", x.back(), k);
        }
        Check.same("close taken back", x.is(0), 0);
        Check.same("lose taken back", x.asset(0, 0), 50);
        Check.same("come taken back", x.is(6), 1);
        Check.same("what was ahead of the acts stays", x.is(7), 1);
        actsAsDeeds();
        Check.same("till one is refused", Check.acts(x, "earn 1;go a;earn 1;"), 1);
        Check.same("is(1)", x.is(1), 1);
        Check.same("a fault", Check.acts(x, "earn 1;earn;"), NONE);
        Check.same("nothing is done", x.is(1), 1);
        Check.same("is(12)", x.is(12), 0);
        Check.same("empty", Check.acts(x, " "), 0);
        Check.same("refused ones", Check.acts(x, "pay a 0;"), 0);
        Check.same("refused ones", Check.acts(x, "lose 1 1;"), 0);
        Check.same("refused ones", Check.acts(x, "borrow 0 1000000;"), 0);
        Check.same("refused ones", Check.acts(x, "repay 0 21;"), 0);
        Check.same("refused ones", Check.acts(x, "market 7 1;"), 0);
        Check.same("refused ones", Check.acts(x, "draw b 1;"), 0);
        Check.same("refused ones", Check.acts(x, "come a 1;"), 0);
        Check.same("refused ones", Check.acts(new PartnerBooks(), "close;"), 0);
        String thirty = "go a;go a;go a;go a;go a;go a;go a;go a;go a;go a;go a;go a;go a;go a;go a;"
            + "go a;go a;go a;go a;go a;go a;go a;go a;go a;go a;go a;go a;go a;go a;go a;";
        Check.same("thirty", Check.acts(x, thirty), 0);
        Check.same("thirty-one", Check.acts(x, thirty + "  close;"), NONE);
        Check.same("fault()", x.fault(), thirty.length() + 2);
        // Acts that tell -1 or less are not refused.
        PartnerBooks y = books(5);
        Check.same("acts that tell -1", Check.acts(y, "earn - 1;earn 1;draw a 6;close;"), 4);
        Check.same("row(0)", y.row(0), -1);
        Check.same("row(2)", y.row(2), -1);
    }

    private static void actsAsDeeds() {
        PartnerBooks x = new PartnerBooks();
        Check.same("empty", Check.acts(x, ""), 0);
        Check.same("is(11): nothing was done", x.is(11), 0);
        Check.same("back()", x.back(), NONE);
        x.come(0, 0);
        Check.same("refused at once", Check.acts(x, "go b;earn 1;"), 0);
        Check.same("is(11): nothing was done", x.is(11), 1);
        Check.same("three", Check.acts(x, "earn 10;pay a 5;close;go b;earn - 3;"), 3);
        Check.same("is(11)", x.is(11), 4);
        Check.same("step(0, 5)", x.step(0, 5), 10);
        Check.same("back()", x.back(), 3);
        Check.same("close alone is taken back", x.is(1), 10);
        Check.same("step(0, 5) with it", x.step(0, 5), 0);
        Check.same("pay stays", x.partner(0, 0), 5);
        Check.same("ended() stays", x.ended(), 3);
        Check.same("row(2) stays", x.row(2), 1);
        Check.same("come is refused", Check.acts(x, "come b 10;"), 0);
        Check.same("ended()", x.ended(), 0);
        Check.same("back()", x.back(), 2);
        Check.same("pay is taken back", x.partner(0, 0), 0);
        Check.same("back()", x.back(), 1);
        Check.same("earn is taken back", x.is(1), 0);
        Check.acts(x, "earn 1;earn 1;earn 1;earn 1;earn 1;earn 1;earn 1;earn 1;earn 1;earn 1;earn 1;earn 1;earn 1;");
        Check.same("is(11)", x.is(11), 12);
        for (int k = 11; k >= 0; k--) {
            Check.same("back()", x.back(), k);
            Check.same("is(1)", x.is(1), k + 1);
        }
        Check.same("back()", x.back(), NONE);
    }

    private static void actsFault(String text, int due) {
        PartnerBooks x = books(1);
        Check.same("acts() of " + text, Check.acts(x, text), NONE);
        Check.same("fault() of " + text, x.fault(), due);
        Check.same("is(11) of " + text, x.is(11), 1);
    }

    private static void actsFaults() {
        Check.part("28 acts, faults");
        actsFault("close", 5);
        actsFault("close ; ;", 8);
        actsFault("closes;", 0);
        actsFault("earn 1000001;", 5);
        actsFault("earn --1;", 6);
        actsFault("earn - ;", 7);
        actsFault("earn +1;", 5);
        actsFault("pay a -1;", 6);
        actsFault("pay 0 1;", 4);
        actsFault("pay i 1;", 4);
        actsFault("lose a 1;", 5);
        actsFault("lose 8 1;", 5);
        actsFault("lose 0;", 6);
        actsFault("borrow 0 1000001;", 9);
        actsFault("repay 9999999999 1;", 6);
        actsFault("market 0 1 2;", 11);
        actsFault("draw a;", 6);
        actsFault("come a 1 1;", 9);
        actsFault("go a 1;", 5);
        actsFault("go;", 2);
        actsFault("sell 0;", 0);
        actsFault("goa;", 0);
        actsFault("earn 1;%", 7);
        actsFault("earn 1 close;", 7);
        actsFault("first 1 to a 1;", 0);
    }

    private static void ended() {
        Check.part("29 ended");
        PartnerBooks x = books(5);
        Check.acts(x, "earn 1;earn 2;go a;");
        Check.same("ended()", x.ended(), 2);
        Check.acts(x, "earn;");
        Check.same("ended() behind a fault", x.ended(), 2);
        Check.acts(x, "earn 1;");
        Check.same("ended(): none did", x.ended(), NONE);
        Check.acts(x, "come b 1;");
        Check.same("ended()", x.ended(), 0);
        Check.acts(x, "");
        Check.same("ended() of none", x.ended(), NONE);
    }

    private static void row() {
        Check.part("30 row");
        PartnerBooks x = books(5);
        Check.acts(x, "earn 1;earn 2;go a;earn 9;");
        Check.same("row(0)", x.row(0), 1);
        Check.same("row(1)", x.row(1), 3);
        Check.same("row(2)", x.row(2), OUT);
        Check.same("row(-1)", x.row(-1), OUT);
        for (int k : WILD) {
            Check.same("row(" + k + ")", x.row(k), OUT);
        }
        Check.acts(x, "earn;");
        Check.same("row(1) behind a fault", x.row(1), 3);
        Check.acts(x, "earn 4;");
        Check.same("row(0)", x.row(0), 7);
        Check.same("row(1)", x.row(1), OUT);
    }

    private static void hand() {
        Check.part("31 hand");
        PartnerBooks x = books(99, 10);
        x.ratio(1, 0);
        x.buy(33, 60, 33);
        x.lose(0, 33);
        x.close();
        x.repay(0, 11);
        x.close();
        // a: 66, share 22, owed 11.
        Check.same("hand(0, 5, 50)", x.hand(0, 5, 50), 33);
        Check.same("partner(5, 3)", x.partner(5, 3), 11);
        Check.same("partner(5, 4)", x.partner(5, 4), 5);
        Check.same("partner(0, 4)", x.partner(0, 4), 6);
        Check.same("partner(5, 1)", x.partner(5, 1), 0);
        Check.same("partner(5, 2)", x.partner(5, 2), 1);
        Check.same("nothing is valued anew", x.asset(0, 0), 0);
        x.duty(5, 3);
        x.earn(1);
        Check.same("hand(0, 5, 1)", x.hand(0, 5, 10), 36);
        Check.same("partner(5, 1)", x.partner(5, 1), 3);
        x.draw(0, 45);
        Check.same("partner(0, 0)", x.partner(0, 0), -15);
        Check.same("cut, below 0", x.hand(0, 1, 50), 3);
        Check.same("partner(0, 0)", x.partner(0, 0), -8);
        Check.same("hand(0, 1, 100)", x.hand(0, 1, 100), -5);
        Check.same("he stays", x.partner(0, 0), 0);
        x.pay(1, 205);
        Check.same("hand(1, 0, 1)", x.hand(1, 0, 1), 2);
        Check.same("hand(0, 0, 50)", x.hand(0, 0, 50), OUT);
        Check.same("hand(0, 1, 0)", x.hand(0, 1, 0), OUT);
        Check.same("hand(0, 1, 101)", x.hand(0, 1, 101), OUT);
        Check.same("hand(2, 1, 50)", x.hand(2, 1, 50), OUT);
        Check.same("hand(0, 8, 50)", x.hand(0, 8, 50), OUT);
        Check.same("hand(0, -1, 50)", x.hand(0, -1, 50), OUT);
        for (int p : WILD) {
            Check.same("hand(" + p + ", 0, 1)", x.hand(p, 0, 1), OUT);
            Check.same("hand(0, " + p + ", 1)", x.hand(0, p, 1), OUT);
        }
        PartnerBooks y = books(1000000);
        for (int k = 0; k < 99; k++) {
            y.pay(0, 1000000);
        }
        Check.same("large ones", y.hand(0, 1, 99), 99000000);
    }

    private static void breaks() {
        Check.part("32 breaks");
        PartnerBooks x = books(50, 50);
        Check.same("breaks(200)", x.breaks(200), 101);
        Check.same("breaks(100)", x.breaks(100), NONE);
        Check.same("breaks(101)", x.breaks(101), 101);
        x.duty(0, 20);
        Check.same("breaks(200)", x.breaks(200), 121);
        x.earn(30);
        Check.same("breaks(200)", x.breaks(200), 151);
        x.earn(-151);
        Check.same("breaks(1)", x.breaks(1), 1);
        Check.same("breaks(0)", x.breaks(0), NONE);
        Check.same("breaks(201)", x.breaks(201), NONE);
        Check.same("breaks(-1)", x.breaks(-1), NONE);
        Check.same("all on paper: is(0)", x.is(0), 0);
        Check.same("all on paper: is(1)", x.is(1), -121);
        Check.same("all on paper: step", x.step(NONE, 7), 0);
        Check.same("nobody", new PartnerBooks().breaks(5), NONE);
        x.earn(131);
        Check.specials(x, "give a 5 when cash<106;");
        Check.same("cash is less, too", x.breaks(200), 131);
        Check.same("one alone", books(5).breaks(9), 6);
        Check.same("one alone, with nothing", books(0).breaks(1), 1);
    }

    private static void gain() {
        Check.part("33 gain");
        PartnerBooks x = new PartnerBooks();
        Check.same("gain(NONE) of none", x.gain(NONE), 0);
        x.buy(10, 4, 0);
        x.buy(10, 19, 0);
        Check.same("gain(0)", x.gain(0), -6);
        Check.same("gain(1)", x.gain(1), 9);
        Check.same("gain(NONE)", x.gain(NONE), 3);
        Check.same("gain(2)", x.gain(2), OUT);
        Check.same("gain(-2)", x.gain(-2), OUT);
        for (int i : WILD) {
            Check.same("gain(" + i + ")", x.gain(i), OUT);
        }
    }

    private static void below() {
        Check.part("34 below");
        PartnerBooks x = books(1, 1, 1);
        x.come(7, 0);
        x.draw(0, 1);
        x.draw(1, 2);
        x.draw(7, 5);
        x.duty(7, 4);
        Check.same("below()", x.below(), 130);
        x.duty(7, 5);
        Check.same("below()", x.below(), 2);
        x.duty(1, 1);
        Check.same("below()", x.below(), 0);
        x.draw(0, 1);
        Check.same("below()", x.below(), 1);
        x.pay(0, 1);
        x.buy(4, 4, 4);
        x.lose(0, 4);
        x.close();
        Check.same("a share lowers the floor", x.below(), 0);
    }

    private static void tried() {
        Check.part("35 tried");
        PartnerBooks x = books(100, 50);
        Check.same("tried(1, 0)", x.tried(1, 0), 50);
        Check.same("tried(1, 30)", x.tried(1, 30), 80);
        Check.same("tried(0, 70)", x.tried(0, 70), 110);
        Check.same("tried(0, -1000000)", x.tried(0, -1000000), 150 - 1000000);
        Check.same("tried(1, 1000000)", x.tried(1, 1000000), 500075);
        x.earn(10);
        Check.same("tried(1, 30) with a result", x.tried(1, 30), 90);
        Check.specials(x, "give a 20 when cash>189;");
        Check.same("tried(0, 29)", x.tried(0, 29), 100);
        Check.same("tried(0, 30): with cash", x.tried(0, 30), 120);
        Check.same("tried(0, 1000001)", x.tried(0, 1000001), OUT);
        Check.same("tried(0, -1000001)", x.tried(0, -1000001), OUT);
        Check.same("tried(2, 0)", x.tried(2, 0), OUT);
        for (int p : WILD) {
            Check.same("tried(" + p + ", 0)", x.tried(p, 0), OUT);
        }
        Check.same("all on paper", x.is(0), 0);
        Check.same("all on paper", x.is(1), 10);
    }

    private static void even() {
        Check.part("36 even");
        PartnerBooks x = books(100, 50);
        Check.same("even(1, 50, 0)", x.even(1, 50, 0), 0);
        Check.same("even(1, 51, 0)", x.even(1, 51, 0), NONE);
        Check.same("even(1, 60, 200)", x.even(1, 60, 200), 10);
        Check.same("even(0, 101, 200)", x.even(0, 101, 200), 51);
        Check.same("even(0, 101, 50)", x.even(0, 101, 50), NONE);
        Check.same("even(0, MIN, 5)", x.even(0, Integer.MIN_VALUE, 5), 0);
        Check.same("even(0, MAX, 200)", x.even(0, Integer.MAX_VALUE, 200), NONE);
        Check.same("even(0, 0, 201)", x.even(0, 0, 201), NONE);
        Check.same("even(0, 0, -1)", x.even(0, 0, -1), NONE);
        Check.same("even(2, 0, 1)", x.even(2, 0, 1), NONE);
        for (int p : WILD) {
            Check.same("even(" + p + ", 0, 1)", x.even(p, 0, 1), NONE);
        }
        Check.specials(x, "give a 20 when result>7;");
        Check.same("even(0, 107, 20)", x.even(0, 107, 20), 8);
        Check.same("all on paper", x.is(1), 0);
    }

    private static void back() {
        Check.part("37 back");
        PartnerBooks x = new PartnerBooks();
        Check.same("back()", x.back(), NONE);
        x.come(0, 10);
        x.come(0, 10);
        x.earn(2000000);
        x.feed(0, 0, 0, 0, 0);
        x.end(3);
        x.keep(0);
        x.is(0);
        x.tried(0, 5);
        x.write();
        Check.same("is(11)", x.is(11), 1);
        Check.same("back()", x.back(), 0);
        Check.same("is(6)", x.is(6), 0);
        Check.same("is(2)", x.is(2), 0);
        Check.same("is(12): the tape stays", x.is(12), 3);
        Check.same("back()", x.back(), NONE);
        for (int k = 1; k <= 30; k++) {
            x.earn(1);
            Check.same("is(11)", x.is(11), Math.min(k, 12));
        }
        for (int k = 11; k >= 0; k--) {
            Check.same("back()", x.back(), k);
            Check.same("is(1)", x.is(1), 18 + k);
        }
        Check.same("back()", x.back(), NONE);
        Check.same("is(1)", x.is(1), 18);
        everyDeedIsTakenBack();
    }

    private static void everyDeedIsTakenBack() {
        PartnerBooks x = books(100, 70);
        x.buy(50, 60, 55);
        x.duty(0, 1);
        String was = picture(x);
        x.come(2, 5);
        x.go(0);
        x.duty(1, 6);
        x.ratio(1, 6);
        x.pay(1, 6);
        x.draw(1, 16);
        x.buy(1, 2, 3);
        x.sell(0);
        x.market(1, 4);
        x.lose(1, 1);
        for (int k = 0; k < 10; k++) {
            x.back();
        }
        Check.yes("ten deeds taken back", was.equals(picture(x)));
        x.borrow(0, 6);
        x.repay(0, 7);
        x.earn(-8);
        x.close();
        x.hand(0, 1, 3);
        Check.tiers(x, "rest to a 3;");
        Check.specials(x, "give a 3;");
        Check.acts(x, "earn 5;close;");
        x.restore(0);
        x.keep(1);
        x.restore(1);
        Check.same("is(11)", x.is(11), 12);
        for (int k = 0; k < 10; k++) {
            x.back();
        }
        Check.yes("ten deeds more taken back", was.equals(picture(x)));
    }

    private static String picture(PartnerBooks x) {
        StringBuilder text = new StringBuilder();
        for (int what = 0; what <= 10; what++) {
            text.append(x.is(what)).append(' ');
        }
        for (int k = 0; k < 8; k++) {
            for (int what = 0; what <= 8; what++) {
                text.append(x.partner(k, what)).append(' ').append(x.asset(k, what)).append(' ');
                text.append(x.step(k, what)).append(' ').append(x.tier(k, what)).append(' ');
                text.append(x.special(k, what)).append(' ');
            }
        }
        return text.append(x.step(NONE, 7)).toString();
    }

    private static void fills() {
        Check.part("38 fills");
        PartnerBooks x = books(0, 0);
        Check.tiers(x, "first 10 to a 1;first 5 to c 1;first 20 to b 1+c 1;rest to c 1;");
        int[][] due = {{0, 0, 0}, {1, 1, 0}, {10, 1, 0}, {11, 2, 0}, {30, 2, 0}, {31, 3, 1}, {100000000, 3, 99999970}};
        for (int[] d : due) {
            Check.same("fills(" + d[0] + ", 0)", x.fills(d[0], 0), d[1]);
            Check.same("fills(" + d[0] + ", 1)", x.fills(d[0], 1), d[2]);
        }
        Check.same("fills(-1, 0)", x.fills(-1, 0), OUT);
        Check.same("fills(100000001, 0)", x.fills(100000001, 0), OUT);
        Check.same("fills(1, 2)", x.fills(1, 2), OUT);
        Check.same("fills(1, -1)", x.fills(1, -1), OUT);
        Check.same("nobody", new PartnerBooks().fills(1, 0), OUT);
    }

    private static void years() {
        Check.part("39 years");
        PartnerBooks x = books(100, 50);
        Check.same("years(1, 30, 1)", x.years(1, 30, 1), 80);
        Check.same("years(1, 30, 2)", x.years(1, 30, 2), 105);
        Check.same("years(0, 30, 2)", x.years(0, 30, 2), 105);
        Check.same("years(0, 30, 20)", x.years(0, 30, 20), 375);
        Check.same("years(0, -1000000, 20)", x.years(0, -1000000, 20), 150 - 20000000);
        Check.same("years(0, 1000000, 20)", x.years(0, 1000000, 20), 10000075);
        x.earn(10);
        Check.same("the result comes in once", x.years(1, 30, 2), 110);
        Check.specials(x, "give b 40 when year>1;");
        // 100, 100; 120, 120; then 40 for b.
        Check.same("years go on", x.years(1, 40, 3), 160);
        Check.same("years(1, 1, 0)", x.years(1, 1, 0), OUT);
        Check.same("years(1, 1, 21)", x.years(1, 1, 21), OUT);
        Check.same("years(1, 1000001, 1)", x.years(1, 1000001, 1), OUT);
        Check.same("years(1, -1000001, 1)", x.years(1, -1000001, 1), OUT);
        Check.same("years(2, 1, 1)", x.years(2, 1, 1), OUT);
        for (int p : WILD) {
            Check.same("years(" + p + ", 1, 1)", x.years(p, 1, 1), OUT);
        }
        Check.same("all on paper", x.is(0), 0);
    }

    private static void exit() {
        Check.part("40 exit");
        PartnerBooks x = books(100, 50);
        x.buy(50, 80, 0);
        x.earn(20);
        // Closed: 100, 70; then 30 more: all to b.
        Check.same("exit(0)", x.exit(0), 100);
        Check.same("exit(1)", x.exit(1), 100);
        Check.same("exit(2)", x.exit(2), OUT);
        x.draw(1, 130);
        x.market(0, 50);
        Check.same("exit(1), below 0", x.exit(1), 0);
        x.duty(1, 25);
        Check.same("exit(1), DUTY at most", x.exit(1), -25);
        x.duty(1, 1000);
        Check.same("exit(1), less than DUTY", x.exit(1), -60);
        Check.same("all on paper", x.is(0), 0);
        Check.same("all on paper", x.asset(0, 1), 50);
        for (int p : WILD) {
            Check.same("exit(" + p + ")", x.exit(p), OUT);
        }
    }

    private static void first() {
        Check.part("41 first");
        PartnerBooks x = books(0, 0, 0);
        Check.same("of like ones the lowest", x.first(), 0);
        Check.tiers(x, "first 50 to c 1;rest to b 1;");
        x.pay(0, 90);
        Check.same("first()", x.first(), 2);
        x.earn(1000);
        Check.same("the result aside", x.first(), 2);
        x.buy(10, 21, 0);
        Check.same("valued anew", x.first(), 1);
        x.market(0, 20);
        Check.same("alike", x.first(), 1);
        x.market(0, 19);
        Check.same("less", x.first(), 2);
        Check.same("all on paper", x.asset(0, 0), 10);
        x.draw(0, 200);
        Check.same("below 0", x.first(), 0);
        x.earn(-1000);
        x.draw(2, 1);
        x.go(0);
        Check.same("of those there", x.first(), 2);
        Check.same("nobody", new PartnerBooks().first(), NONE);
    }

    private static void keep() {
        Check.part("42 keep");
        PartnerBooks x = books(1);
        Check.yes("keep(0)", x.keep(0));
        Check.yes("keep(1)", x.keep(1));
        Check.no("keep(2)", x.keep(2));
        Check.no("keep(-1)", x.keep(-1));
        for (int k : WILD) {
            Check.no("keep(" + k + ")", x.keep(k));
        }
        Check.same("is(11): keep is no deed", x.is(11), 1);
        x.pay(0, 1);
        x.keep(1);
        x.pay(0, 1);
        x.restore(0);
        Check.same("kept as 0", x.partner(0, 0), 1);
        x.restore(1);
        Check.same("kept as 1", x.partner(0, 0), 2);
        x.keep(0);
        x.pay(0, 5);
        x.restore(0);
        Check.same("kept anew", x.partner(0, 0), 2);
    }

    private static void restore() {
        Check.part("43 restore");
        PartnerBooks x = books(100, 70);
        Check.no("nothing is kept", x.restore(0));
        x.buy(50, 60, 55);
        Check.tiers(x, "first 7 to a 3;rest to b 2;");
        Check.specials(x, "give b 4;");
        x.lose(0, 10);
        x.close();
        String was = picture(x);
        x.keep(1);
        Check.no("restore(0)", x.restore(0));
        Check.no("restore(2)", x.restore(2));
        Check.no("restore(-1)", x.restore(-1));
        Check.tiers(x, "");
        Check.specials(x, "");
        x.sell(0);
        x.close();
        x.duty(0, 8);
        x.go(1);
        x.feed(0, 0, 0, 0, 0);
        int deeds = x.is(11);
        String then = picture(x);
        Check.yes("restore(1)", x.restore(1));
        Check.yes("all is as kept", was.equals(picture(x)));
        Check.same("is(12): the tape stays", x.is(12), 20);
        Check.same("is(11): a deed", x.is(11), Math.min(deeds + 1, 12));
        x.back();
        Check.yes("taken back", then.equals(picture(x)));
        Check.yes("restore(1) again", x.restore(1));
        Check.yes("all is as kept again", was.equals(picture(x)));
        for (int k : WILD) {
            Check.no("restore(" + k + ")", x.restore(k));
        }
    }

    private static void writes(PartnerBooks x, String due) {
        Check.same("write() for " + due, x.write(), due.length());
        Check.yes("the text " + due, due.equals(Check.written(x)));
    }

    private static void write() {
        Check.part("44 write");
        PartnerBooks x = new PartnerBooks();
        writes(x, "=0.");
        x.come(7, 1000000);
        writes(x, "h:1000000,0,0;=1000000.");
        x.come(1, 9);
        x.draw(1, 19);
        writes(x, "b:-10,0,0;h:1000000,0,0;=999990.");
        x.ratio(7, 0);
        x.buy(100, 100, 100);
        x.lose(0, 100);
        x.close();
        x.repay(0, 1);
        x.close();
        writes(x, "b:-110,99,1;h:1000000,0,0;=999890.");
        x.earn(-999999);
        writes(x, "b:-110,99,1;h:1000000,0,0;=-109.");
    }

    private static void octet() {
        Check.part("45 octet");
        PartnerBooks x = new PartnerBooks();
        Check.same("octet(0)", x.octet(0), NONE);
        x.come(0, 0);
        Check.same("octet(0)", x.octet(0), NONE);
        x.write();
        String due = "a:0,0,0;=0.";
        for (int k = 0; k < due.length(); k++) {
            Check.same("octet(" + k + ")", x.octet(k), due.charAt(k));
        }
        Check.same("octet behind it", x.octet(due.length()), NONE);
        Check.same("octet(-1)", x.octet(-1), NONE);
        Check.same("octet(MIN)", x.octet(Integer.MIN_VALUE), NONE);
        Check.same("octet(MAX)", x.octet(Integer.MAX_VALUE), NONE);
        x.pay(0, 7);
        Check.same("written latest", x.octet(2), '0');
        x.write();
        Check.same("written latest", x.octet(2), '7');
    }
}
