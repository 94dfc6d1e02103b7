/** Boundaries of promises 11 to 16, 31 and 34: who comes, goes, pays, draws, hands over, is below. */
final class PartnerBounds extends Bounds {
    private static final int[] NOT_0_TO_7 = {MIN, -1000000000, -2, -1, 8, 9, 31, 32, 33, 40, 64, MAX};

    private PartnerBounds() {
    }

    // ---- 11: "One COMES with a sum (0 to 1000000): CAPITAL."

    static void promise11_come_sumsOf0To1000000() {
        for (int n : new int[] {0, 1, 999999, 1000000}) {
            PartnerBooks x = books(5);
            Check.same("come(1, " + n + ")", x.come(1, n), n);
            Check.same("is(2)", x.is(2), 5 + n);
            Check.same("is(6)", x.is(6), 3);
            Check.same("is(11)", x.is(11), 2);
            sums(x);
        }
        PartnerBooks x = books(5);
        for (int n : new int[] {MIN, -2, -1, 1000001, 1000002, MAX}) {
            refused(x, "come(1, " + n + ")", NONE, () -> x.come(1, n));
        }
        PartnerBooks y = new PartnerBooks();
        refused(y, "come(0, -1)", NONE, () -> y.come(0, -1));
        refused(y, "come(0, 1000001)", NONE, () -> y.come(0, 1000001));
    }

    static void promise11_come_partners0To7() {
        for (int p = 0; p < 8; p++) {
            PartnerBooks x = new PartnerBooks();
            Check.same("come(" + p + ", 3)", x.come(p, 3), 3);
            Check.same("is(6)", x.is(6), 1 << p);
            int there = p;
            refused(x, "come(" + p + ", 3) again", NONE, () -> x.come(there, 3));
        }
        PartnerBooks x = books(1);
        for (int p : NOT_0_TO_7) {
            refused(x, "come(" + p + ", 1)", NONE, () -> x.come(p, 1));
        }
        PartnerBooks y = books(0, 1, 2, 3, 4, 5, 6, 7);
        for (int p = -1; p <= 8; p++) {
            int who = p;
            refused(y, "come(" + p + ", 1), all are there", NONE, () -> y.come(who, 1));
        }
        y.go(4);
        Check.same("one more is free", y.come(4, 9), 9);
    }

    /** "Only with a RESULT of 0." */
    static void promise11_come_onlyWithAResultOf0() {
        PartnerBooks x = books(5);
        x.earn(1);
        refused(x, "come(1, 1) with RESULT 1", NONE, () -> x.come(1, 1));
        x.earn(-2);
        refused(x, "come(1, 1) with RESULT -1", NONE, () -> x.come(1, 1));
        x.earn(1);
        Check.same("come(1, 1) with RESULT 0", x.come(1, 1), 1);
        PartnerBooks y = new PartnerBooks();
        y.earn(1);
        refused(y, "come(0, 1) of the first with RESULT 1", NONE, () -> y.come(0, 1));
        y.earn(-1);
        Check.same("come(0, 1) of the first", y.come(0, 1), 1);
    }

    /** "without any the first one's CAPITAL has it, too". */
    static void promise11_come_theFirstOne() {
        for (int d = -1; d <= 1; d++) {
            PartnerBooks x = new PartnerBooks();
            x.buy(5, 5 + d, 2);
            Check.same("come(3, 0) with a gain of " + d, x.come(3, 0), d);
            Check.same("BOOK", x.asset(0, 0), 5 + d);
            Check.same("is(2)", x.is(2), -3);
            Check.same("is(3)", x.is(3), d);
            Check.same("is(8)", x.is(8), d);
            for (int what = 0; what <= 7; what++) {
                Check.same("step(NONE, " + what + ")", x.step(NONE, what), 0);
            }
            sums(x);
        }
        PartnerBooks x = new PartnerBooks();
        x.buy(0, 1000000, 0);
        Check.same("with the most of both", x.come(7, 1000000), 2000000);
    }

    /** "all is VALUED ANEW (by those there ..), then CASH and his CAPITAL are more by his sum". */
    static void promise11_come_valuedByThoseThere() {
        for (int d = -1; d <= 1; d++) {
            PartnerBooks x = books(100);
            x.buy(50, 50 + d, 0);
            Check.same("come(1, 10)", x.come(1, 10), 10);
            capitals(x, 100 + d, 10);
            Check.same("BOOK", x.asset(0, 0), 50 + d);
            Check.same("MARKET", x.asset(0, 1), 50 + d);
            Check.same("is(1)", x.is(1), 0);
            Check.same("is(0): no YEAR is CLOSED", x.is(0), 0);
            steps(x, 5, d, 0);
            steps(x, 6, d, 0);
            sums(x);
        }
    }

    static void promise11_come_valuedWithinLimits() {
        for (int more = 0; more <= 2; more++) {
            PartnerBooks x = books(3, 3);
            x.buy(10, 10, 0);
            x.market(0, 5 - more);
            // A loss of 5, 6, 7 where there is room for 6.
            x.come(2, 0);
            Check.same("step(NONE, 7) of a loss of " + (5 + more), x.step(NONE, 7), Math.max(0, more - 1));
            Check.same("step(NONE, 6)", x.step(NONE, 6), -5 - more);
            Check.same("is(8)", x.is(8), 1 - more);
            sums(x);
        }
    }

    /** "as one comes 0, RATIO 1": who comes again, too. */
    static void promise11_come_anew() {
        PartnerBooks x = books(10, 10);
        x.buy(20, 20, 20);
        x.lose(0, 20);
        x.close();
        x.repay(0, 8);
        x.close();
        shares(x, 6, 6);
        owed(x, 4, 4);
        x.duty(1, 9);
        x.ratio(1, 8);
        x.market(0, 0);
        x.go(1);
        shares(x, 12, OUT);
        owed(x, 8, OUT);
        Check.same("is(9)", x.is(9), 12);
        Check.same("is(10)", x.is(10), 8);
        Check.same("come(1, 2)", x.come(1, 2), 2);
        int[] due = {2, 0, 1, 0, 0, 0};
        for (int what = 0; what < due.length; what++) {
            Check.same("partner(1, " + what + ")", x.partner(1, what), due[what]);
        }
        Check.same("is(9)", x.is(9), 12);
        Check.same("is(10)", x.is(10), 8);
    }

    // ---- 12: "One GOES: what he has (below 0: pays). -1000000000: he is not there, is the last one, RESULT is not 0."

    static void promise12_go_notThere() {
        PartnerBooks x = books(5, 5);
        for (int p = 2; p < 8; p++) {
            int who = p;
            refused(x, "go(" + p + ")", OUT, () -> x.go(who));
        }
        for (int p : NOT_0_TO_7) {
            refused(x, "go(" + p + ")", OUT, () -> x.go(p));
        }
        x.go(1);
        refused(x, "go(1) again", OUT, () -> x.go(1));
    }

    static void promise12_go_notTheLastOne() {
        for (int p = 0; p < 8; p++) {
            PartnerBooks x = new PartnerBooks();
            x.come(p, 7);
            int who = p;
            refused(x, "go(" + p + ") of the last one", OUT, () -> x.go(who));
            int other = (p + 1) % 8;
            x.come(other, 8);
            Check.same("go(" + p + ") of two", x.go(p), 7);
            Check.same("is(6)", x.is(6), 1 << other);
            refused(x, "go(" + other + ") of the last one", OUT, () -> x.go(other));
        }
    }

    static void promise12_go_onlyWithAResultOf0() {
        PartnerBooks x = books(5, 5);
        x.earn(1);
        refused(x, "go(1) with RESULT 1", OUT, () -> x.go(1));
        x.earn(-2);
        refused(x, "go(1) with RESULT -1", OUT, () -> x.go(1));
        x.earn(1);
        Check.same("go(1) with RESULT 0", x.go(1), 5);
    }

    /** "CAPITAL of 0 or more: he has it from CASH; below: he pays in what is missing, DUTY at most". */
    static void promise12_go_capitalAroundNothing() {
        int[][] due = {{1, 0, 1, 0}, {0, 0, 0, 0}, {-1, 0, 0, 1}, {-1, 1, -1, 0}, {-1, 2, -1, 0}, {1, 5, 1, 0}, {0, 5, 0, 0},
            {-5, 4, -4, 1}, {-5, 5, -5, 0}, {-5, 6, -5, 0}, {-5, 0, 0, 5}, {-100001, 100000, -100000, 1},
            {-100000, 100000, -100000, 0}, {-99999, 100000, -99999, 0}};
        for (int[] d : due) {
            PartnerBooks x = books(50, 1);
            if (d[0] < 1) {
                x.draw(1, 1 - d[0]);
            }
            x.duty(1, d[1]);
            int cash = x.is(2);
            Check.same("go(1) of CAPITAL " + d[0] + ", DUTY " + d[1], x.go(1), d[2]);
            Check.same("CAPITAL of the other one", x.partner(0, 0), 50 - d[3]);
            Check.same("is(2)", x.is(2), cash - d[2]);
            sums(x);
        }
    }

    /** "what is missing yet is DEALT by RATIO of the others (all 0: by 1 each)". */
    static void promise12_go_missingByRatio() {
        int[][] due = {{1, 1, 3, 2, 1}, {1, 1, 4, 2, 2}, {2, 1, 3, 2, 1}, {0, 1, 3, 0, 3}, {1, 0, 3, 3, 0}, {0, 0, 3, 2, 1},
            {0, 0, 4, 2, 2}, {0, 0, 1, 1, 0}, {99, 1, 1, 1, 0}, {0, 1, 1, 0, 1}};
        for (int[] d : due) {
            PartnerBooks x = books(50, 0, 50);
            x.draw(1, d[2]);
            x.ratio(0, d[0]);
            x.ratio(1, 99);
            x.ratio(2, d[1]);
            Check.same("go(1)", x.go(1), 0);
            capitals(x, 50 - d[3], OUT, 50 - d[4]);
            sums(x);
        }
    }

    /** "SHARE, OWED of his are DEALT so to them, too." */
    static void promise12_go_shareAndOwed() {
        int[][] ratios = {{1, 1}, {0, 0}, {0, 7}, {7, 0}, {3, 1}};
        int[][] given = {{2, 1}, {2, 1}, {0, 3}, {3, 0}, {3, 0}};
        for (int k = 0; k < ratios.length; k++) {
            PartnerBooks x = books(20, 20, 20);
            x.ratio(0, 0);
            x.ratio(2, 0);
            x.buy(6, 0, 6);
            x.lose(0, 6);
            x.close();
            x.repay(0, 3);
            x.close();
            shares(x, 0, 3, 0);
            owed(x, 0, 3, 0);
            x.ratio(0, ratios[k][0]);
            x.ratio(2, ratios[k][1]);
            x.go(1);
            shares(x, given[k][0], OUT, given[k][1]);
            owed(x, given[k][0], OUT, given[k][1]);
            Check.same("is(9)", x.is(9), 3);
            Check.same("is(10)", x.is(10), 3);
        }
    }

    /** By RATIO as it is, not by what SHARE and OWED the others have. */
    static void promise12_go_shareAndOwedByRatioAlone() {
        PartnerBooks x = books(20, 20, 20);
        x.buy(12, 0, 12);
        x.lose(0, 12);
        x.close();
        x.repay(0, 6);
        x.close();
        x.hand(2, 1, 100);
        shares(x, 2, 4, 0);
        owed(x, 2, 4, 0);
        x.ratio(0, 0);
        x.ratio(2, 3);
        x.go(1);
        shares(x, 2, OUT, 4);
        owed(x, 2, OUT, 4);
    }

    /** He who goes takes his part of what all is more or less by, and has nothing left behind. */
    static void promise12_go_valuedWithHim() {
        int[][] due = {{-2, -1}, {-1, -1}, {0, 0}, {1, 0}, {2, 1}};
        for (int[] pair : due) {
            int d = pair[0];
            int his = pair[1];
            PartnerBooks x = books(10, 10);
            x.buy(5, 5 + d, 0);
            Check.same("go(1) with a gain of " + d, x.go(1), 10 + his);
            Check.same("CAPITAL of the other one", x.partner(0, 0), 10 + d - his);
            steps(x, 6, d - his, his);
            Check.same("BOOK", x.asset(0, 0), 5 + d);
            sums(x);
        }
    }

    static void promise12_go_leavesNothingOfHisBehind() {
        PartnerBooks x = books(10, 30);
        x.duty(1, 5);
        x.ratio(1, 9);
        Check.specials(x, "give a capital b+share b;");
        x.go(1);
        x.earn(100);
        Check.same("SUM of who is gone", x.special(0, 1), 0);
        x.earn(-111);
        Check.same("breaks(1)", x.breaks(1), 1);
        x.close();
        steps(x, 6, -11, 0);
        Check.same("step(NONE, 7)", x.step(NONE, 7), 1);
        Check.same("is(8)", x.is(8), -1);
        Check.same("below()", x.below(), 1);
    }

    // ---- 13: "DUTY becomes n: what it was. NONE: he is not there, n is none."

    static void promise13_duty_of0To100000() {
        PartnerBooks x = books(5);
        int was = 0;
        for (int n : new int[] {1, 99999, 100000, 0}) {
            Check.same("duty(0, " + n + ")", x.duty(0, n), was);
            Check.same("partner(0, 1)", x.partner(0, 1), n);
            was = n;
        }
        Check.same("is(11)", x.is(11), 5);
        for (int n : new int[] {MIN, -2, -1, 100001, 100002, 1000000, MAX}) {
            refused(x, "duty(0, " + n + ")", NONE, () -> x.duty(0, n));
        }
    }

    static void promise13_duty_notThere() {
        PartnerBooks x = books(5);
        x.come(7, 5);
        Check.same("duty(7, 1)", x.duty(7, 1), 0);
        refused(x, "duty(1, 1)", NONE, () -> x.duty(1, 1));
        refused(x, "duty(6, 1)", NONE, () -> x.duty(6, 1));
        for (int p : NOT_0_TO_7) {
            refused(x, "duty(" + p + ", 1)", NONE, () -> x.duty(p, 1));
        }
    }

    // ---- 14: "RATIO becomes n: what it was. NONE likewise."

    static void promise14_ratio_of0To99() {
        PartnerBooks x = books(5);
        int was = 1;
        for (int n : new int[] {0, 1, 98, 99, 0}) {
            Check.same("ratio(0, " + n + ")", x.ratio(0, n), was);
            Check.same("partner(0, 2)", x.partner(0, 2), n);
            was = n;
        }
        Check.same("is(11)", x.is(11), 6);
        for (int n : new int[] {MIN, -2, -1, 100, 101, MAX}) {
            refused(x, "ratio(0, " + n + ")", NONE, () -> x.ratio(0, n));
        }
    }

    static void promise14_ratio_notThere() {
        PartnerBooks x = books(5);
        x.come(7, 5);
        Check.same("ratio(7, 2)", x.ratio(7, 2), 1);
        refused(x, "ratio(1, 1)", NONE, () -> x.ratio(1, 1));
        refused(x, "ratio(6, 1)", NONE, () -> x.ratio(6, 1));
        for (int p : NOT_0_TO_7) {
            refused(x, "ratio(" + p + ", 1)", NONE, () -> x.ratio(p, 1));
        }
    }

    // ---- 15: "A sum (1 to 1000000) is PAID IN to CASH by one: CAPITAL. -1000000000: he is not there, n is none."

    static void promise15_pay_sumsOf1To1000000() {
        for (int n : new int[] {1, 2, 999999, 1000000}) {
            PartnerBooks x = books(5);
            Check.same("pay(0, " + n + ")", x.pay(0, n), 5 + n);
            Check.same("is(2)", x.is(2), 5 + n);
            Check.same("is(1)", x.is(1), 0);
            Check.same("is(11)", x.is(11), 2);
            sums(x);
        }
        PartnerBooks x = books(5);
        for (int n : new int[] {MIN, -2, -1, 0, 1000001, 1000002, MAX}) {
            refused(x, "pay(0, " + n + ")", OUT, () -> x.pay(0, n));
        }
    }

    static void promise15_pay_notThere() {
        PartnerBooks x = books(5);
        x.come(7, 5);
        Check.same("pay(7, 1)", x.pay(7, 1), 6);
        refused(x, "pay(1, 1)", OUT, () -> x.pay(1, 1));
        refused(x, "pay(6, 1)", OUT, () -> x.pay(6, 1));
        for (int p : NOT_0_TO_7) {
            refused(x, "pay(" + p + ", 1)", OUT, () -> x.pay(p, 1));
        }
    }

    // ---- 16: "A sum is PAID OUT of CASH to one: CAPITAL. -1000000000 likewise."

    static void promise16_draw_sumsOf1To1000000() {
        for (int n : new int[] {1, 2, 4, 5, 6, 999999, 1000000}) {
            PartnerBooks x = books(5);
            Check.same("draw(0, " + n + ")", x.draw(0, n), 5 - n);
            Check.same("is(2)", x.is(2), 5 - n);
            Check.same("is(1)", x.is(1), 0);
            Check.same("is(11)", x.is(11), 2);
            sums(x);
        }
        PartnerBooks x = books(5);
        for (int n : new int[] {MIN, -2, -1, 0, 1000001, 1000002, MAX}) {
            refused(x, "draw(0, " + n + ")", OUT, () -> x.draw(0, n));
        }
    }

    static void promise16_draw_notThere() {
        PartnerBooks x = books(5);
        x.come(7, 5);
        Check.same("draw(7, 1)", x.draw(7, 1), 4);
        refused(x, "draw(1, 1)", OUT, () -> x.draw(1, 1));
        refused(x, "draw(6, 1)", OUT, () -> x.draw(6, 1));
        for (int p : NOT_0_TO_7) {
            refused(x, "draw(" + p + ", 1)", OUT, () -> x.draw(p, 1));
        }
    }

    // ---- 31: "So much (1 to 100 hundredths) is HANDED over by p to q: CAPITAL of q. -1000000000: p is not there, others."

    static void promise31_hand_hundredthsOf1To100() {
        int[][] due = {{1, 10}, {2, 20}, {99, 990}, {100, 1000}};
        for (int[] d : due) {
            PartnerBooks x = books(1000, 5);
            Check.same("hand(0, 1, " + d[0] + ")", x.hand(0, 1, d[0]), 5 + d[1]);
            capitals(x, 1000 - d[1], 5 + d[1]);
            Check.same("he stays", x.is(6), 3);
            Check.same("is(2)", x.is(2), 1005);
            Check.same("is(11)", x.is(11), 3);
        }
        PartnerBooks x = books(1000, 5);
        for (int part : new int[] {MIN, -2, -1, 0, 101, 102, MAX}) {
            refused(x, "hand(0, 1, " + part + ")", OUT, () -> x.hand(0, 1, part));
            refused(x, "hand(0, 2, " + part + ")", OUT, () -> x.hand(0, 2, part));
        }
    }

    /** "(each cut)": towards 0, below it, too. */
    static void promise31_hand_cut() {
        int[][] due = {{99, 1, 0}, {100, 1, 1}, {101, 1, 1}, {199, 1, 1}, {200, 1, 2}, {1, 99, 0}, {1, 100, 1}, {1, 50, 0},
            {2, 50, 1}, {3, 50, 1}, {0, 100, 0}, {-1, 99, 0}, {-1, 100, -1}, {-3, 50, -1}, {-99, 1, 0}, {-100, 1, -1},
            {-101, 1, -1}};
        for (int[] d : due) {
            PartnerBooks x = books(200, 0);
            if (d[0] != 200) {
                x.draw(0, 200 - d[0]);
            }
            Check.same("hand(0, 1, " + d[1] + ") of " + d[0], x.hand(0, 1, d[1]), d[2]);
            capitals(x, d[0] - d[2], d[2]);
            sums(x);
        }
    }

    static void promise31_hand_eachOfThreeCut() {
        PartnerBooks x = books(0);
        x.buy(6, 6, 6);
        x.lose(0, 6);
        x.close();
        x.repay(0, 3);
        x.close();
        // CAPITAL -6, SHARE 3, OWED 3.
        Check.same("hand(0, 1, 33)", x.hand(0, 1, 33), -1);
        shares(x, 3, 0);
        owed(x, 3, 0);
        Check.same("hand(0, 1, 34)", x.hand(0, 1, 34), -2);
        shares(x, 2, 1);
        owed(x, 2, 1);
        capitals(x, -4, -2);
        Check.same("hand(0, 1, 100)", x.hand(0, 1, 100), -6);
        shares(x, 0, 3);
        owed(x, 0, 3);
        capitals(x, 0, -6);
        Check.same("he stays", x.is(6), 3);
    }

    static void promise31_hand_fromOneThereToAnotherOne() {
        PartnerBooks x = books(100, 5);
        x.come(7, 100);
        refused(x, "hand(0, 0, 50): to himself", OUT, () -> x.hand(0, 0, 50));
        refused(x, "hand(7, 7, 50): to himself", OUT, () -> x.hand(7, 7, 50));
        refused(x, "hand(2, 1, 50): not there", OUT, () -> x.hand(2, 1, 50));
        refused(x, "hand(2, 3, 50): neither there", OUT, () -> x.hand(2, 3, 50));
        for (int p : NOT_0_TO_7) {
            refused(x, "hand(" + p + ", 0, 50)", OUT, () -> x.hand(p, 0, 50));
            refused(x, "hand(0, " + p + ", 50)", OUT, () -> x.hand(0, p, 50));
        }
        Check.same("hand(7, 0, 50)", x.hand(7, 0, 50), 150);
        Check.same("hand(0, 7, 50)", x.hand(0, 7, 50), 125);
    }

    /** "who COMES so, if he isn't there (DUTY 0, RATIO 1; nothing is VALUED ANEW)". */
    static void promise31_hand_whoComesSo() {
        PartnerBooks x = books(100);
        x.duty(0, 9);
        x.ratio(0, 8);
        x.buy(10, 50, 0);
        x.earn(1);
        Check.same("hand(0, 7, 10) with a RESULT", x.hand(0, 7, 10), 10);
        int[] due = {10, 0, 1, 0, 0, 0};
        for (int what = 0; what < due.length; what++) {
            Check.same("partner(7, " + what + ")", x.partner(7, what), due[what]);
        }
        Check.same("is(6)", x.is(6), 129);
        Check.same("BOOK", x.asset(0, 0), 10);
        Check.same("is(1)", x.is(1), 1);
        x.duty(7, 4);
        x.ratio(7, 3);
        x.hand(0, 7, 10);
        Check.same("who is there keeps DUTY", x.partner(7, 1), 4);
        Check.same("who is there keeps RATIO", x.partner(7, 2), 3);
        PartnerBooks y = books(0, 10);
        y.duty(0, 6);
        y.ratio(0, 7);
        y.go(0);
        y.hand(1, 0, 100);
        Check.same("who comes again: DUTY", y.partner(0, 1), 0);
        Check.same("who comes again: RATIO", y.partner(0, 2), 1);
        Check.same("who handed all over is there yet", y.partner(1, 0), 0);
    }

    static void promise31_hand_ofLargeSums() {
        PartnerBooks x = books(1000000);
        for (int k = 0; k < 49; k++) {
            x.pay(0, 1000000);
        }
        Check.same("hand(0, 1, 99)", x.hand(0, 1, 99), 49500000);
        Check.same("partner(0, 0)", x.partner(0, 0), 500000);
    }

    // ---- 34: "PARTNERS there whose CAPITAL is below FLOOR, as bits."

    static void promise34_below_atTheFloorAndAStepBeside() {
        for (int p = 0; p < 8; p++) {
            PartnerBooks x = books(0, 0, 0, 0, 0, 0, 0, 0);
            x.duty(p, 10);
            x.draw(p, 9);
            told(x, "below() a step above", 0, () -> x.below());
            x.draw(p, 1);
            told(x, "below() at the FLOOR", 0, () -> x.below());
            x.draw(p, 1);
            told(x, "below() a step below", 1 << p, () -> x.below());
        }
    }

    static void promise34_below_ofNobodyAndOfAll() {
        Check.same("nobody", new PartnerBooks().below(), 0);
        PartnerBooks x = books(0, 0, 0, 0, 0, 0, 0, 0);
        Check.same("none", x.below(), 0);
        for (int p = 0; p < 8; p++) {
            x.draw(p, 1);
        }
        Check.same("all", x.below(), 255);
        x.duty(0, 1);
        Check.same("all but a", x.below(), 254);
        x.go(7);
        Check.same("of those there", x.below() & 128, 0);
    }

    static void promise34_below_withAShare() {
        PartnerBooks x = books(0);
        x.buy(5, 5, 5);
        x.lose(0, 5);
        x.close();
        Check.same("CAPITAL -5, SHARE 5", x.below(), 0);
        x.draw(0, 1);
        Check.same("CAPITAL -6, SHARE 5", x.below(), 1);
    }
}
