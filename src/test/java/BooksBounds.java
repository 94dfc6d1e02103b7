/** Boundaries of promises 7 to 10, 17 to 23, 33 and 38: SALES, what is told, ASSETS, RESULT. */
final class BooksBounds extends Bounds {
    private static final int[] NOT_0_TO_7 = {MIN, -1000000000, -2, -1, 8, 9, 31, 32, 33, 40, 64, MAX};

    private BooksBounds() {
    }

    private static void gives(PartnerBooks x, int n, int... due) {
        for (int p = 0; p < due.length; p++) {
            Check.same("sale(" + n + ", " + p + ")", x.sale(n, p), due[p]);
        }
    }

    // ---- 7: "What a SALE of n (-100000000 to 100000000) gives PARTNER p. -1000000000 for others, p is not there."

    static void promise07_sale_sumsAtTheirBounds() {
        PartnerBooks x = books(0);
        for (int n : new int[] {-100000000, -99999999, -1, 0, 1, 99999999, 100000000}) {
            told(x, "sale(" + n + ", 0)", n, () -> x.sale(n, 0));
        }
        for (int n : new int[] {MIN, -1000000000, -100000001, 100000001, 1000000000, MAX}) {
            told(x, "sale(" + n + ", 0)", OUT, () -> x.sale(n, 0));
        }
    }

    static void promise07_sale_partnersThere() {
        PartnerBooks x = books(0);
        x.come(7, 0);
        gives(x, 5, 3, OUT, OUT, OUT, OUT, OUT, OUT, 2);
        for (int p : NOT_0_TO_7) {
            Check.same("sale(5, " + p + ")", x.sale(5, p), OUT);
        }
        Check.same("nobody", new PartnerBooks().sale(0, 0), OUT);
    }

    /** "the lesser of N and of what is left", "as long as something is left". */
    static void promise07_sale_tierByTier() {
        PartnerBooks x = books(0, 0, 0);
        Check.tiers(x, "first 10 to a 1;first 5 to b 1;rest to c 1;");
        gives(x, 0, 0, 0, 0);
        gives(x, 1, 1, 0, 0);
        gives(x, 9, 9, 0, 0);
        gives(x, 10, 10, 0, 0);
        gives(x, 11, 10, 1, 0);
        gives(x, 14, 10, 4, 0);
        gives(x, 15, 10, 5, 0);
        gives(x, 16, 10, 5, 1);
        gives(x, 100000000, 10, 5, 99999985);
        Check.tiers(x, "first 999999 to a 1;rest to b 1;");
        gives(x, 999998, 999998, 0, 0);
        gives(x, 999999, 999999, 0, 0);
        gives(x, 1000000, 999999, 1, 0);
    }

    /** "of PARTNERS there alone (a TIER without one is left out; if LAST has none: by 1 each of all there)". */
    static void promise07_sale_tiersWithoutOneThere() {
        PartnerBooks x = books(0, 0);
        Check.tiers(x, "first 10 to h 1+g 9;rest to a 1;");
        gives(x, 1, 1, 0);
        gives(x, 11, 11, 0);
        Check.tiers(x, "first 10 to h 99+b 1;rest to a 1;");
        gives(x, 9, 0, 9);
        gives(x, 10, 0, 10);
        gives(x, 11, 1, 10);
        Check.tiers(x, "first 2 to a 1;rest to h 7;");
        gives(x, 2, 2, 0);
        gives(x, 3, 3, 0);
        gives(x, 4, 3, 1);
        gives(x, -1, -1, 0);
        gives(x, -2, -1, -1);
        gives(x, -3, -2, -1);
        x.come(7, 0);
        Check.same("sale(4, 7): LAST has one now", x.sale(4, 7), 2);
        gives(x, 4, 2, 0);
    }

    /** "Of n below 0: by LAST alone, of less n, all signs turned." */
    static void promise07_sale_belowNothing() {
        PartnerBooks x = books(0, 0, 0);
        Check.tiers(x, "first 10 to a 1;rest to b 2+c 1;");
        gives(x, 1, 1, 0, 0);
        gives(x, 0, 0, 0, 0);
        gives(x, -1, 0, -1, 0);
        gives(x, -2, 0, -2, 0);
        gives(x, -3, 0, -2, -1);
        gives(x, -4, 0, -3, -1);
        gives(x, -100000000, 0, -66666667, -33333333);
    }

    /** "(cut); what is left over goes one by one, from the lowest number on, to those with a weight above 0." */
    static void promise07_sale_dealt() {
        PartnerBooks x = books(0, 0, 0, 0, 0, 0, 0, 0);
        gives(x, 7, 1, 1, 1, 1, 1, 1, 1, 0);
        gives(x, 8, 1, 1, 1, 1, 1, 1, 1, 1);
        gives(x, 9, 2, 1, 1, 1, 1, 1, 1, 1);
        gives(x, 1, 1, 0, 0, 0, 0, 0, 0, 0);
        gives(x, -7, -1, -1, -1, -1, -1, -1, -1, 0);
        Check.tiers(x, "rest to b 1+d 1+h 1;");
        gives(x, 1, 0, 1, 0, 0, 0, 0, 0, 0);
        gives(x, 2, 0, 1, 0, 1, 0, 0, 0, 0);
        gives(x, 3, 0, 1, 0, 1, 0, 0, 0, 1);
        gives(x, 4, 0, 2, 0, 1, 0, 0, 0, 1);
        Check.tiers(x, "rest to a 1+b 99;");
        gives(x, 1, 1, 0);
        gives(x, 99, 1, 98);
        gives(x, 100, 1, 99);
        gives(x, 101, 2, 99);
        Check.tiers(x, "rest to a 99+b 1;");
        gives(x, 1, 1, 0);
        gives(x, 99, 99, 0);
        gives(x, 100, 99, 1);
    }

    static void promise07_sale_dealtOfTheMost() {
        PartnerBooks x = books(0, 0, 0, 0, 0, 0, 0, 0);
        Check.tiers(x, "rest to a 99+b 98+c 97+d 96+e 95+f 94+g 93+h 92;");
        // By 764: 12958115.1.., 12827225.1.., and so on; four are left over.
        gives(x, 100000000, 12958116, 12827226, 12696336, 12565446, 12434554, 12303664, 12172774, 12041884);
        gives(x, -100000000, -12958116, -12827226, -12696336, -12565446, -12434554, -12303664, -12172774, -12041884);
    }

    // ---- 8: is

    static void promise08_is_others() {
        PartnerBooks x = books(3);
        for (int what : new int[] {MIN, -1000000000, -2, -1, 13, 14, MAX}) {
            told(x, "is(" + what + ")", OUT, () -> x.is(what));
        }
        Check.same("is(0)", x.is(0), 0);
        Check.same("is(12)", x.is(12), 0);
    }

    /** "HELD: of all ASSETS DEBT less BOOK, where that is above 0, together." */
    static void promise08_is_held() {
        PartnerBooks x = books(0);
        x.buy(10, 0, 9);
        Check.same("DEBT a step below BOOK", x.is(4), 0);
        x.borrow(0, 1);
        Check.same("DEBT is BOOK", x.is(4), 0);
        x.borrow(0, 1);
        Check.same("DEBT a step above BOOK", x.is(4), 1);
        x.buy(1000000, 0, 0);
        Check.same("BOOK above DEBT takes nothing from it", x.is(4), 1);
        x.buy(0, 0, 1000000);
        Check.same("of all together", x.is(4), 1000001);
        x.lose(0, 10);
        Check.same("BOOK of 0", x.is(4), 1000011);
        Check.same("as CLOSED last: ahead of any", x.is(5), 0);
        x.close();
        Check.same("as CLOSED last", x.is(5), 1000011);
        x.sell(2);
        Check.same("now", x.is(4), 11);
        Check.same("as CLOSED last", x.is(5), 1000011);
    }

    static void promise08_is_heldStaysAsAllIsValuedAnew() {
        PartnerBooks x = books(100);
        x.buy(10, 90, 60);
        x.close();
        Check.same("is(5)", x.is(5), 50);
        x.come(1, 1);
        Check.same("HELD now", x.is(4), 0);
        Check.same("HELD as CLOSED last", x.is(5), 50);
        x.market(0, 5);
        x.go(1);
        Check.same("HELD now", x.is(4), 55);
        Check.same("HELD as CLOSED last", x.is(5), 50);
    }

    static void promise08_is_bits() {
        PartnerBooks x = new PartnerBooks();
        x.come(7, 0);
        Check.same("h alone", x.is(6), 128);
        for (int p = 0; p < 7; p++) {
            x.come(p, 0);
        }
        Check.same("all eight", x.is(6), 255);
        x.go(0);
        Check.same("all but a", x.is(6), 254);
        Check.same("no asset", x.is(7), 0);
        for (int i = 0; i < 8; i++) {
            x.buy(1, 1, 1);
        }
        Check.same("eight assets", x.is(7), 255);
        x.sell(7);
        Check.same("seven assets", x.is(7), 127);
    }

    static void promise08_is_cashBelowNothing() {
        PartnerBooks x = books(1);
        x.draw(0, 1);
        Check.same("is(2)", x.is(2), 0);
        x.draw(0, 1);
        Check.same("is(2)", x.is(2), -1);
        Check.same("is(3)", x.is(3), -1);
        Check.same("is(8)", x.is(8), -1);
        x.buy(5, 0, 0);
        Check.same("is(2)", x.is(2), -6);
        Check.same("is(3)", x.is(3), -1);
        x.earn(-4);
        Check.same("is(1)", x.is(1), -4);
        Check.same("is(3): with RESULT", x.is(3), -5);
        Check.same("is(8): without it", x.is(8), -1);
        sums(x);
    }

    static void promise08_is_deedsAndBytesAtMost() {
        PartnerBooks x = new PartnerBooks();
        for (int k = 1; k <= 14; k++) {
            x.earn(0);
            Check.same("is(11) behind " + k, x.is(11), Math.min(k, 12));
        }
        for (int k = 1; k <= 21; k++) {
            x.feed(0, 0, 0, 0, 0);
            Check.same("is(12) behind " + k, x.is(12), Math.min(20 * k, 400));
        }
    }

    static void promise08_is_sharesAndOwedOfAll() {
        PartnerBooks x = books(10, 10);
        x.buy(90, 0, 40);
        x.buy(7, 0, 8);
        x.lose(1, 7);
        x.close();
        Check.same("is(9)", x.is(9), 7);
        Check.same("is(10)", x.is(10), 0);
        x.repay(1, 1);
        x.close();
        Check.same("is(9)", x.is(9), 6);
        Check.same("is(10)", x.is(10), 1);
    }

    // ---- 9: partner

    static void promise09_partner_others() {
        PartnerBooks x = books(4);
        x.come(7, 6);
        for (int what = 0; what <= 6; what++) {
            Check.yes("partner(0, " + what + ")", x.partner(0, what) != OUT);
            Check.yes("partner(7, " + what + ")", x.partner(7, what) != OUT);
            for (int p = 1; p <= 6; p++) {
                Check.same("partner(" + p + ", " + what + ")", x.partner(p, what), OUT);
            }
            for (int p : NOT_0_TO_7) {
                Check.same("partner(" + p + ", " + what + ")", x.partner(p, what), OUT);
            }
        }
        for (int what : new int[] {MIN, -2, -1, 7, 8, MAX}) {
            told(x, "partner(0, " + what + ")", OUT, () -> x.partner(0, what));
            Check.same("partner(7, " + what + ")", x.partner(7, what), OUT);
        }
        x.go(7);
        Check.same("partner(7, 0): gone", x.partner(7, 0), OUT);
    }

    /** "FLOOR of a PARTNER: 0 less DUTY and SHARE." */
    static void promise09_partner_floor() {
        PartnerBooks x = books(0);
        Check.same("neither", x.partner(0, 5), 0);
        x.duty(0, 1);
        Check.same("DUTY 1", x.partner(0, 5), -1);
        x.duty(0, 100000);
        Check.same("DUTY 100000", x.partner(0, 5), -100000);
        x.buy(90, 0, 40);
        x.buy(3, 3, 5);
        x.lose(1, 3);
        x.close();
        Check.same("SHARE 3, too", x.partner(0, 5), -100003);
        x.duty(0, 0);
        Check.same("SHARE alone", x.partner(0, 5), -3);
    }

    /** "6 GAP as by (5) (all as it is)": a SALE of all CAPITAL and RESULT together, less his CAPITAL. */
    static void promise09_partner_gap() {
        PartnerBooks x = books(5, 4);
        int[][] due = {{0, 0, 0}, {1, 0, 1}, {2, 1, 1}, {-1, -1, 0}, {-2, -1, -1}, {-9, -5, -4}, {-10, -6, -4}, {-11, -6, -5}};
        for (int[] d : due) {
            x.earn(d[0] - x.is(1));
            told(x, "partner(0, 6) with RESULT " + d[0], d[1], () -> x.partner(0, 6));
            told(x, "partner(1, 6) with RESULT " + d[0], d[2], () -> x.partner(1, 6));
        }
        x.earn(11);
        x.draw(0, 5);
        // 4 in all: 2 each.
        Check.same("partner(0, 6)", x.partner(0, 6), 2);
        Check.same("partner(1, 6)", x.partner(1, 6), -2);
    }

    // ---- 10: "Of ASSET i: 0 BOOK, 1 MARKET, 2 DEBT. NONE for others, none such."

    static void promise10_asset_others() {
        PartnerBooks x = new PartnerBooks();
        for (int i = 0; i < 8; i++) {
            x.buy(10 + i, 20 + i, 30 + i);
        }
        for (int i = 0; i < 8; i++) {
            Check.same("asset(" + i + ", -1)", x.asset(i, -1), NONE);
            Check.same("asset(" + i + ", 0)", x.asset(i, 0), 10 + i);
            Check.same("asset(" + i + ", 1)", x.asset(i, 1), 20 + i);
            Check.same("asset(" + i + ", 2)", x.asset(i, 2), 30 + i);
            Check.same("asset(" + i + ", 3)", x.asset(i, 3), NONE);
        }
        for (int wild : NOT_0_TO_7) {
            told(x, "asset(" + wild + ", 0)", NONE, () -> x.asset(wild, 0));
            Check.same("asset(0, " + wild + ")", x.asset(0, wild), NONE);
        }
        x.sell(0);
        x.sell(7);
        for (int what = 0; what <= 2; what++) {
            Check.same("asset(0, " + what + "), sold", x.asset(0, what), NONE);
            Check.same("asset(7, " + what + "), sold", x.asset(7, what), NONE);
            Check.same("asset(6, " + what + ")", x.asset(6, what), 10 * what + 16);
        }
    }

    // ---- 17: "An ASSET is bought: its number; CASH is less by BOOK less DEBT. NONE: not as told, 8 are there."

    static void promise17_buy_sumsOf0To1000000() {
        for (int n : new int[] {0, 1, 999999, 1000000}) {
            PartnerBooks x = new PartnerBooks();
            Check.same("buy(" + n + ", 0, 0)", x.buy(n, 0, 0), 0);
            Check.same("is(2)", x.is(2), -n);
            Check.same("buy(0, " + n + ", 0)", x.buy(0, n, 0), 1);
            Check.same("is(2)", x.is(2), -n);
            Check.same("buy(0, 0, " + n + ")", x.buy(0, 0, n), 2);
            Check.same("is(2)", x.is(2), 0);
            Check.same("asset(0, 0)", x.asset(0, 0), n);
            Check.same("asset(1, 1)", x.asset(1, 1), n);
            Check.same("asset(2, 2)", x.asset(2, 2), n);
            sums(x);
        }
        for (int n : new int[] {MIN, -1000000, -1, 1000001, 1000002, MAX}) {
            PartnerBooks x = new PartnerBooks();
            refused(x, "buy(" + n + ", 0, 0)", NONE, () -> x.buy(n, 0, 0));
            refused(x, "buy(0, " + n + ", 0)", NONE, () -> x.buy(0, n, 0));
            refused(x, "buy(0, 0, " + n + ")", NONE, () -> x.buy(0, 0, n));
        }
    }

    static void promise17_buy_eightAtMost() {
        PartnerBooks x = new PartnerBooks();
        for (int i = 0; i < 8; i++) {
            Check.same("asset " + i, x.buy(i, i, i), i);
        }
        refused(x, "a ninth", NONE, () -> x.buy(1, 1, 1));
        x.sell(7);
        Check.same("the eighth again", x.buy(1, 1, 1), 7);
        refused(x, "a ninth again", NONE, () -> x.buy(1, 1, 1));
    }

    /** "a new one takes the least that is free". */
    static void promise17_buy_theLeastThatIsFree() {
        PartnerBooks x = new PartnerBooks();
        for (int i = 0; i < 8; i++) {
            x.buy(1, 1, 1);
        }
        x.sell(6);
        x.sell(0);
        x.sell(3);
        Check.same("the least", x.buy(1, 1, 1), 0);
        Check.same("the next", x.buy(1, 1, 1), 3);
        Check.same("the last", x.buy(1, 1, 1), 6);
    }

    // ---- 18: sell

    static void promise18_sell_atBookAndAStepBeside() {
        for (int d = -1; d <= 1; d++) {
            PartnerBooks x = books(100);
            x.buy(50, 50 + d, 20);
            Check.same("sell(0) of MARKET " + (50 + d), x.sell(0), d);
            Check.same("is(1)", x.is(1), d);
            Check.same("is(2)", x.is(2), 100 + d);
            Check.same("is(7)", x.is(7), 0);
            Check.same("asset(0, 0)", x.asset(0, 0), NONE);
            sums(x);
        }
    }

    static void promise18_sell_ofTheLeastAndTheMost() {
        PartnerBooks x = new PartnerBooks();
        x.buy(1000000, 0, 1000000);
        Check.same("sell(0)", x.sell(0), -1000000);
        Check.same("is(2)", x.is(2), -1000000);
        x.buy(0, 1000000, 0);
        Check.same("sell(0)", x.sell(0), 0);
        Check.same("is(2)", x.is(2), 0);
        x.buy(0, 0, 0);
        Check.same("sell(0)", x.sell(0), 0);
    }

    static void promise18_sell_noneSuch() {
        PartnerBooks x = new PartnerBooks();
        refused(x, "sell(0) of none", OUT, () -> x.sell(0));
        x.buy(1, 1, 1);
        refused(x, "sell(1)", OUT, () -> x.sell(1));
        for (int i : NOT_0_TO_7) {
            refused(x, "sell(" + i + ")", OUT, () -> x.sell(i));
        }
        x.sell(0);
        refused(x, "sell(0) again", OUT, () -> x.sell(0));
        Check.same("gain(NONE) of what is gone", x.gain(NONE), 0);
        Check.same("is(3) of what is gone", x.is(3), 0);
    }

    // ---- 19: "MARKET of an ASSET is told: what it was. NONE: none such, n is none."

    static void promise19_market_of0To1000000() {
        PartnerBooks x = new PartnerBooks();
        x.buy(10, 5, 3);
        int was = 5;
        for (int n : new int[] {0, 1, 999999, 1000000, 0}) {
            Check.same("market(0, " + n + ")", x.market(0, n), was);
            Check.same("asset(0, 1)", x.asset(0, 1), n);
            was = n;
        }
        Check.same("BOOK stays", x.asset(0, 0), 10);
        for (int n : new int[] {MIN, -2, -1, 1000001, 1000002, MAX}) {
            refused(x, "market(0, " + n + ")", NONE, () -> x.market(0, n));
        }
    }

    static void promise19_market_noneSuch() {
        PartnerBooks x = new PartnerBooks();
        x.buy(10, 5, 3);
        refused(x, "market(1, 1)", NONE, () -> x.market(1, 1));
        for (int i : NOT_0_TO_7) {
            refused(x, "market(" + i + ", 1)", NONE, () -> x.market(i, 1));
        }
        x.sell(0);
        refused(x, "market(0, 1), sold", NONE, () -> x.market(0, 1));
    }

    // ---- 20: "An ASSET loses n of its BOOK (1 to BOOK), RESULT is less: BOOK. NONE for others."

    static void promise20_lose_of1ToBook() {
        int[][] due = {{1, 9}, {2, 8}, {9, 1}, {10, 0}};
        for (int[] d : due) {
            PartnerBooks x = books(50);
            x.buy(10, 5, 3);
            Check.same("lose(0, " + d[0] + ")", x.lose(0, d[0]), d[1]);
            Check.same("asset(0, 0)", x.asset(0, 0), d[1]);
            Check.same("is(1)", x.is(1), -d[0]);
            Check.same("is(2)", x.is(2), 43);
            sums(x);
        }
        PartnerBooks x = new PartnerBooks();
        x.buy(10, 5, 3);
        for (int n : new int[] {MIN, -1, 0, 11, 12, MAX}) {
            refused(x, "lose(0, " + n + ")", NONE, () -> x.lose(0, n));
        }
        x.lose(0, 10);
        refused(x, "lose(0, 1) of BOOK 0", NONE, () -> x.lose(0, 1));
        x.buy(1000000, 0, 0);
        refused(x, "lose(1, 1000001)", NONE, () -> x.lose(1, 1000001));
        Check.same("lose(1, 1000000)", x.lose(1, 1000000), 0);
    }

    static void promise20_lose_noneSuch() {
        PartnerBooks x = new PartnerBooks();
        x.buy(10, 5, 3);
        refused(x, "lose(1, 1)", NONE, () -> x.lose(1, 1));
        for (int i : NOT_0_TO_7) {
            refused(x, "lose(" + i + ", 1)", NONE, () -> x.lose(i, 1));
        }
    }

    // ---- 21: "DEBT of an ASSET and CASH are more by n (1 on; DEBT 1000000 at most): DEBT. NONE for others."

    static void promise21_borrow_upTo1000000() {
        int[][] due = {{1, 8}, {2, 9}, {999992, 999999}, {999993, 1000000}};
        for (int[] d : due) {
            PartnerBooks x = new PartnerBooks();
            x.buy(10, 5, 7);
            Check.same("borrow(0, " + d[0] + ")", x.borrow(0, d[0]), d[1]);
            Check.same("asset(0, 2)", x.asset(0, 2), d[1]);
            Check.same("is(2)", x.is(2), d[0] - 3);
            Check.same("is(1)", x.is(1), 0);
            sums(x);
        }
        PartnerBooks x = new PartnerBooks();
        x.buy(10, 5, 7);
        for (int n : new int[] {MIN, -1000000, -1, 0, 999994, 999995, 1000001, MAX - 7, MAX - 6, MAX}) {
            refused(x, "borrow(0, " + n + ")", NONE, () -> x.borrow(0, n));
        }
        x.borrow(0, 999993);
        refused(x, "borrow(0, 1) of DEBT 1000000", NONE, () -> x.borrow(0, 1));
        x.buy(0, 0, 0);
        refused(x, "borrow(1, 1000001)", NONE, () -> x.borrow(1, 1000001));
        Check.same("borrow(1, 1000000)", x.borrow(1, 1000000), 1000000);
    }

    static void promise21_borrow_noneSuch() {
        PartnerBooks x = new PartnerBooks();
        x.buy(10, 5, 3);
        refused(x, "borrow(1, 1)", NONE, () -> x.borrow(1, 1));
        for (int i : NOT_0_TO_7) {
            refused(x, "borrow(" + i + ", 1)", NONE, () -> x.borrow(i, 1));
        }
    }

    // ---- 22: "DEBT of an ASSET and CASH are less by n (1 to DEBT): DEBT. NONE for others."

    static void promise22_repay_of1ToDebt() {
        int[][] due = {{1, 6}, {2, 5}, {6, 1}, {7, 0}};
        for (int[] d : due) {
            PartnerBooks x = new PartnerBooks();
            x.buy(10, 5, 7);
            Check.same("repay(0, " + d[0] + ")", x.repay(0, d[0]), d[1]);
            Check.same("asset(0, 2)", x.asset(0, 2), d[1]);
            Check.same("is(2)", x.is(2), -3 - d[0]);
            Check.same("is(1)", x.is(1), 0);
            sums(x);
        }
        PartnerBooks x = new PartnerBooks();
        x.buy(10, 5, 7);
        for (int n : new int[] {MIN, -1, 0, 8, 9, MAX}) {
            refused(x, "repay(0, " + n + ")", NONE, () -> x.repay(0, n));
        }
        x.repay(0, 7);
        refused(x, "repay(0, 1) of DEBT 0", NONE, () -> x.repay(0, 1));
        x.buy(0, 0, 1000000);
        Check.same("repay(1, 1000000)", x.repay(1, 1000000), 0);
    }

    static void promise22_repay_noneSuch() {
        PartnerBooks x = new PartnerBooks();
        x.buy(10, 5, 3);
        refused(x, "repay(1, 1)", NONE, () -> x.repay(1, 1));
        for (int i : NOT_0_TO_7) {
            refused(x, "repay(" + i + ", 1)", NONE, () -> x.repay(i, 1));
        }
    }

    // ---- 23: "RESULT and CASH are more by n (-1000000 to 1000000): RESULT. -1000000000 for others."

    static void promise23_earn_sumsAtTheirBounds() {
        for (int n : new int[] {-1000000, -999999, -1, 0, 1, 999999, 1000000}) {
            PartnerBooks x = books(5);
            Check.same("earn(" + n + ")", x.earn(n), n);
            Check.same("is(1)", x.is(1), n);
            Check.same("is(2)", x.is(2), 5 + n);
            Check.same("is(11)", x.is(11), 2);
            sums(x);
        }
        PartnerBooks x = books(5);
        for (int n : new int[] {MIN, -1000000000, -1000002, -1000001, 1000001, 1000002, MAX}) {
            refused(x, "earn(" + n + ")", OUT, () -> x.earn(n));
        }
    }

    static void promise23_earn_withoutAnybody() {
        PartnerBooks x = new PartnerBooks();
        Check.same("earn(1)", x.earn(1), 1);
        Check.same("earn(-1)", x.earn(-1), 0);
        Check.same("earn(-1)", x.earn(-1), -1);
        Check.same("is(2)", x.is(2), -1);
    }

    // ---- 33: "By how much MARKET of an ASSET is above its BOOK (below 0: below); i NONE: of all together."

    static void promise33_gain_atBookAndAStepBeside() {
        PartnerBooks x = new PartnerBooks();
        Check.same("gain(NONE) of none", x.gain(NONE), 0);
        x.buy(10, 9, 0);
        x.buy(10, 10, 0);
        x.buy(10, 11, 0);
        for (int i = 0; i < 3; i++) {
            int place = i;
            told(x, "gain(" + i + ")", i - 1, () -> x.gain(place));
        }
        told(x, "gain(NONE)", 0, () -> x.gain(NONE));
        x.market(2, 12);
        Check.same("gain(NONE)", x.gain(NONE), 1);
        x.market(2, 10);
        Check.same("gain(NONE)", x.gain(NONE), -1);
        x.sell(0);
        Check.same("gain(NONE) of those there", x.gain(NONE), 0);
    }

    static void promise33_gain_noneSuch() {
        PartnerBooks x = new PartnerBooks();
        Check.same("gain(0)", x.gain(0), OUT);
        for (int i = 0; i < 8; i++) {
            x.buy(1000000, 0, 0);
        }
        Check.same("gain(7)", x.gain(7), -1000000);
        Check.same("gain(-1)", x.gain(-1), -8000000);
        for (int i : NOT_0_TO_7) {
            if (i != NONE) {
                told(x, "gain(" + i + ")", OUT, () -> x.gain(i));
            }
        }
        x.sell(7);
        Check.same("gain(7), sold", x.gain(7), OUT);
        Check.same("gain(6)", x.gain(6), -1000000);
    }

    // ---- 38: fills

    static void promise38_fills_sumsAtTheirBounds() {
        PartnerBooks x = books(0);
        int[][] due = {{0, 0, 0}, {1, 1, 1}, {99999999, 1, 99999999}, {100000000, 1, 100000000}};
        for (int[] d : due) {
            told(x, "fills(" + d[0] + ", 0)", d[1], () -> x.fills(d[0], 0));
            told(x, "fills(" + d[0] + ", 1)", d[2], () -> x.fills(d[0], 1));
        }
        for (int n : new int[] {MIN, -2, -1, 100000001, MAX}) {
            Check.same("fills(" + n + ", 0)", x.fills(n, 0), OUT);
            Check.same("fills(" + n + ", 1)", x.fills(n, 1), OUT);
        }
        for (int what : new int[] {MIN, -2, -1, 2, 3, MAX}) {
            Check.same("fills(5, " + what + ")", x.fills(5, what), OUT);
            Check.same("fills(0, " + what + ")", x.fills(0, what), OUT);
        }
        Check.same("nobody", new PartnerBooks().fills(0, 0), OUT);
        Check.same("nobody", new PartnerBooks().fills(1, 1), OUT);
    }

    /** "Into how many TIERS (that give something) .. (LAST is one, if something is left for it)". */
    static void promise38_fills_tierByTier() {
        PartnerBooks x = books(0, 0);
        Check.tiers(x, "first 10 to a 1;first 7 to h 1;first 5 to b 1;rest to h 1;");
        int[][] due = {{0, 0, 0}, {1, 1, 0}, {9, 1, 0}, {10, 1, 0}, {11, 2, 0}, {14, 2, 0}, {15, 2, 0}, {16, 3, 1},
            {17, 3, 2}};
        for (int[] d : due) {
            Check.same("fills(" + d[0] + ", 0)", x.fills(d[0], 0), d[1]);
            Check.same("fills(" + d[0] + ", 1)", x.fills(d[0], 1), d[2]);
        }
        Check.tiers(x, "first 1 to a 1;".repeat(8) + "rest to a 1;");
        Check.same("fills(7, 0)", x.fills(7, 0), 7);
        Check.same("fills(8, 0)", x.fills(8, 0), 8);
        Check.same("fills(9, 0)", x.fills(9, 0), 9);
        Check.same("fills(8, 1)", x.fills(8, 1), 0);
        Check.same("fills(9, 1)", x.fills(9, 1), 1);
        Check.tiers(x, "first 9 to h 1;rest to a 1;");
        Check.same("fills(1, 0): one is left out", x.fills(1, 0), 1);
        Check.same("fills(1, 1)", x.fills(1, 1), 1);
    }
}
