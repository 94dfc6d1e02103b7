/** Boundaries of promises 32, 35, 36 and 39 to 41: what is only tried, on paper. */
final class PaperBounds extends Bounds {
    private static final int[] NOT_THERE = {MIN, -1000000000, -2, -1, 2, 7, 8, 9, 31, 32, 33, 40, 64, MAX};

    private PaperBounds() {
    }

    // ---- 32: "BREAKS (m 1 to 200). NONE: none, others, nobody is there."

    static void promise32_breaks_mOf1To200() {
        PartnerBooks x = books(0);
        for (int m : new int[] {1, 2, 199, 200}) {
            told(x, "breaks(" + m + ")", 1, () -> x.breaks(m));
        }
        for (int m : new int[] {MIN, -1, 0, 201, 202, MAX}) {
            told(x, "breaks(" + m + ")", NONE, () -> x.breaks(m));
        }
        Check.same("nobody", new PartnerBooks().breaks(1), NONE);
        Check.same("nobody", new PartnerBooks().breaks(200), NONE);
    }

    /** "the least n of 1 .. m": a step ahead of it, at it, a step behind it. */
    static void promise32_breaks_theLeast() {
        int[][] due = {{1, 2}, {2, 3}, {100, 101}, {197, 198}, {198, 199}, {199, 200}};
        for (int[] d : due) {
            PartnerBooks x = books(d[0]);
            told(x, "breaks(" + (d[1] - 1) + ") of " + d[0], NONE, () -> x.breaks(d[1] - 1));
            told(x, "breaks(" + d[1] + ") of " + d[0], d[1], () -> x.breaks(d[1]));
            Check.same("breaks(200) of " + d[0], x.breaks(200), d[1]);
        }
        Check.same("breaks(200) of 200", books(200).breaks(200), NONE);
    }

    static void promise32_breaks_withAResult() {
        PartnerBooks x = books(5);
        x.earn(-4);
        Check.same("RESULT -4", x.breaks(9), 2);
        x.earn(-1);
        Check.same("RESULT -5", x.breaks(9), 1);
        x.earn(-1);
        Check.same("RESULT -6: there is one already", x.breaks(9), 1);
        x.earn(8);
        Check.same("RESULT 2", x.breaks(9), 8);
    }

    /** "(and CASH)": SPECIALS see it. */
    static void promise32_breaks_inCashToo() {
        PartnerBooks x = books(5);
        x.earn(50);
        x.come(1, 0);
        Check.specials(x, "give a 1 when cash<50;");
        String was = picture(x);
        Check.same("breaks(60)", x.breaks(60), 56);
        Check.yes("all on paper", was.equals(picture(x)));
        PartnerBooks y = books(0, 1);
        y.duty(0, 3);
        Check.tiers(y, "first 1 to b 1;rest to a 1;");
        y.earn(2);
        Check.specials(y, "give b 1 when cash>2;");
        Check.same("breaks(20)", y.breaks(20), 7);
    }

    // ---- 35: "TRIED for PARTNER p (n -1000000 to 1000000). -1000000000 for others, he is not there."

    static void promise35_tried_sumsAtTheirBounds() {
        PartnerBooks x = books(5);
        for (int n : new int[] {-1000000, -999999, -6, -5, -1, 0, 1, 999999, 1000000}) {
            told(x, "tried(0, " + n + ")", 5 + n, () -> x.tried(0, n));
        }
        for (int n : new int[] {MIN, -1000002, -1000001, 1000001, 1000002, MAX}) {
            told(x, "tried(0, " + n + ")", OUT, () -> x.tried(0, n));
        }
    }

    static void promise35_tried_whoIsThere() {
        PartnerBooks x = books(5, 4);
        for (int p : NOT_THERE) {
            told(x, "tried(" + p + ", 1)", OUT, () -> x.tried(p, 1));
        }
        told(x, "tried(0, 1)", 5, () -> x.tried(0, 1));
        told(x, "tried(1, 1)", 5, () -> x.tried(1, 1));
        told(x, "tried(0, -1)", 4, () -> x.tried(0, -1));
        Check.same("nobody", new PartnerBooks().tried(0, 0), OUT);
    }

    static void promise35_tried_moreInResultAndCash() {
        PartnerBooks x = books(10, 10);
        Check.specials(x, "give b 4 when cash>24;");
        x.earn(3);
        // RESULT 4 with CASH 24, RESULT 5 with CASH 25.
        told(x, "tried(1, 1)", 12, () -> x.tried(1, 1));
        told(x, "tried(1, 2)", 14, () -> x.tried(1, 2));
        told(x, "tried(0, 2)", 11, () -> x.tried(0, 2));
    }

    /** A RISE is one since the YEAR was CLOSED last, on paper, too. */
    static void promise35_tried_riseSinceClosedLast() {
        PartnerBooks x = books(100, 100);
        x.ratio(1, 0);
        x.buy(0, 0, 10);
        told(x, "tried(0, -4): a RISE of 10", 96, () -> x.tried(0, -4));
        x.close();
        told(x, "tried(0, -4): a RISE of 0", 98, () -> x.tried(0, -4));
        x.borrow(0, 1);
        told(x, "tried(0, -4): a RISE of 1", 98, () -> x.tried(0, -4));
        told(x, "tried(1, -4): a RISE of 1", 98, () -> x.tried(1, -4));
        x.borrow(0, 3);
        told(x, "tried(0, -4): a RISE of 4", 96, () -> x.tried(0, -4));
        told(x, "tried(1, -4): a RISE of 4", 100, () -> x.tried(1, -4));
    }

    // ---- 36: "EVEN for PARTNER p (m 0 to 200). NONE: none, others, he is not there."

    static void promise36_even_mOf0To200() {
        PartnerBooks x = books(5);
        for (int m : new int[] {0, 1, 199, 200}) {
            told(x, "even(0, 5, " + m + ")", 0, () -> x.even(0, 5, m));
            told(x, "even(0, " + (5 + m) + ", " + m + ")", m, () -> x.even(0, 5 + m, m));
            told(x, "even(0, " + (6 + m) + ", " + m + ")", NONE, () -> x.even(0, 6 + m, m));
        }
        for (int m : new int[] {MIN, -2, -1, 201, 202, MAX}) {
            told(x, "even(0, 5, " + m + ")", NONE, () -> x.even(0, 5, m));
        }
    }

    /** "the least n of 0 .. m by which that is c or more". */
    static void promise36_even_theLeast() {
        PartnerBooks x = books(5);
        int[][] due = {{MIN, 0}, {-1, 0}, {4, 0}, {5, 0}, {6, 1}, {7, 2}, {204, 199}, {205, 200}, {206, NONE}, {MAX, NONE}};
        for (int[] d : due) {
            told(x, "even(0, " + d[0] + ", 200)", d[1], () -> x.even(0, d[0], 200));
        }
        x.earn(-3);
        Check.same("even(0, 2, 200)", x.even(0, 2, 200), 0);
        Check.same("even(0, 3, 200)", x.even(0, 3, 200), 1);
        // Once more than is asked for, then less again: the least counts.
        PartnerBooks y = books(0, 0);
        Check.specials(y, "give a 5 when result<8;");
        Check.same("even(0, 5, 20)", y.even(0, 5, 20), 5);
        Check.same("even(0, 6, 20)", y.even(0, 6, 20), 11);
    }

    static void promise36_even_whoIsThere() {
        PartnerBooks x = books(5, 4);
        for (int p : NOT_THERE) {
            told(x, "even(" + p + ", 0, 9)", NONE, () -> x.even(p, 0, 9));
        }
        told(x, "even(0, 6, 9)", 2, () -> x.even(0, 6, 9));
        told(x, "even(1, 5, 9)", 1, () -> x.even(1, 5, 9));
        Check.same("nobody", new PartnerBooks().even(0, 0, 0), NONE);
    }

    // ---- 39: "YEARS ON (n -1000000 to 1000000, many 1 to 20). -1000000000 for others, he is not there."

    static void promise39_years_sumsAtTheirBounds() {
        PartnerBooks x = books(5);
        for (int n : new int[] {-1000000, -999999, -1, 0, 1, 999999, 1000000}) {
            told(x, "years(0, " + n + ", 1)", 5 + n, () -> x.years(0, n, 1));
            told(x, "years(0, " + n + ", 20)", 5 + 20 * n, () -> x.years(0, n, 20));
        }
        for (int n : new int[] {MIN, -1000001, 1000001, MAX}) {
            told(x, "years(0, " + n + ", 1)", OUT, () -> x.years(0, n, 1));
        }
    }

    static void promise39_years_manyOf1To20() {
        PartnerBooks x = books(5);
        x.earn(100);
        for (int many : new int[] {1, 2, 19, 20}) {
            told(x, "years(0, 3, " + many + ")", 105 + 3 * many, () -> x.years(0, 3, many));
        }
        for (int many : new int[] {MIN, -1, 0, 21, 22, MAX}) {
            told(x, "years(0, 3, " + many + ")", OUT, () -> x.years(0, 3, many));
        }
    }

    static void promise39_years_whoIsThere() {
        PartnerBooks x = books(5, 4);
        for (int p : NOT_THERE) {
            told(x, "years(" + p + ", 1, 1)", OUT, () -> x.years(p, 1, 1));
        }
        told(x, "years(0, 1, 2)", 6, () -> x.years(0, 1, 2));
        told(x, "years(1, 1, 2)", 5, () -> x.years(1, 1, 2));
        Check.same("nobody", new PartnerBooks().years(0, 0, 1), OUT);
    }

    /** "one behind the other": YEAR, CASH and HELD go on. */
    static void promise39_years_oneBehindTheOther() {
        PartnerBooks x = books(10, 10);
        Check.specials(x, "give b 2 when year>1;");
        int[][] due = {{1, 11}, {2, 12}, {3, 14}, {4, 16}};
        for (int[] d : due) {
            told(x, "years(1, 2, " + d[0] + ")", d[1], () -> x.years(1, 2, d[0]));
        }
        Check.specials(x, "give b 2 when cash>25;");
        int[][] cash = {{1, 11}, {2, 12}, {3, 14}, {4, 16}};
        for (int[] d : cash) {
            told(x, "years(1, 2, " + d[0] + ") by CASH", d[1], () -> x.years(1, 2, d[0]));
        }
        PartnerBooks y = books(10);
        y.buy(0, 0, 5);
        // A RISE of 5 in the first YEAR alone: then there is none any more.
        Check.specials(y, "give a share a;");
        told(y, "years(0, -3, 2)", 4, () -> y.years(0, -3, 2));
    }

    // ---- 40: "EXIT. -1000000000: he is not there."

    static void promise40_exit_whoIsThere() {
        PartnerBooks x = books(5, 4);
        for (int p : NOT_THERE) {
            told(x, "exit(" + p + ")", OUT, () -> x.exit(p));
        }
        told(x, "exit(0)", 5, () -> x.exit(0));
        told(x, "exit(1)", 4, () -> x.exit(1));
        Check.same("nobody", new PartnerBooks().exit(0), OUT);
        Check.same("the last one, too", books(3).exit(0), 3);
    }

    /** "his CAPITAL, no less than 0 less DUTY": a step above it, at it, a step below it. */
    static void promise40_exit_noLessThanDuty() {
        int[][] due = {{0, 1, 1}, {0, 0, 0}, {0, -1, 0}, {7, -6, -6}, {7, -7, -7}, {7, -8, -7}, {100000, -99999, -99999},
            {100000, -100000, -100000}, {100000, -100001, -100000}};
        for (int[] d : due) {
            PartnerBooks x = books(1, 500000);
            if (d[1] < 1) {
                x.draw(0, 1 - d[1]);
            }
            x.duty(0, d[0]);
            told(x, "exit(0) of " + d[1] + ", DUTY " + d[0], d[2], () -> x.exit(0));
        }
    }

    /** "the YEAR being CLOSED and all VALUED ANEW": both, at RESULTS and gains around 0. */
    static void promise40_exit_closedAndValuedAnew() {
        for (int result = -1; result <= 1; result++) {
            for (int gain = -1; gain <= 1; gain++) {
                PartnerBooks x = books(10);
                x.buy(5, 5 + gain, 0);
                x.earn(result);
                int due = 10 + result + gain;
                told(x, "exit(0) of RESULT " + result + " and a gain of " + gain, due, () -> x.exit(0));
            }
        }
        PartnerBooks x = books(10, 10);
        x.buy(5, 9, 0);
        x.earn(2);
        told(x, "exit(0)", 13, () -> x.exit(0));
        told(x, "exit(1)", 13, () -> x.exit(1));
    }

    /** CLOSED ahead of being VALUED ANEW: the RISE is that of the old BOOKS. */
    static void promise40_exit_closedFirst() {
        PartnerBooks x = books(100, 100);
        x.ratio(0, 0);
        Check.tiers(x, "rest to b 1;");
        x.buy(0, 100, 10);
        x.earn(-5);
        // DEBT'S LOSS of 5 by b; then 100 more, all to b.
        told(x, "exit(0)", 100, () -> x.exit(0));
        told(x, "exit(1)", 195, () -> x.exit(1));
    }

    // ---- 41: "FIRST. NONE: nobody is there."

    static void promise41_first_nobodyAndOne() {
        PartnerBooks x = new PartnerBooks();
        told(x, "first()", NONE, () -> x.first());
        x.come(7, 0);
        told(x, "first()", 7, () -> x.first());
        x.come(2, 5);
        told(x, "first()", 2, () -> x.first());
    }

    /** "who has most of a SALE of all CAPITAL (of like ones the lowest)". */
    static void promise41_first_ofLikeOnes() {
        int[][] due = {{9, 1}, {10, 0}, {11, 0}};
        for (int[] d : due) {
            PartnerBooks x = books(0, 20);
            Check.tiers(x, "first " + d[0] + " to a 1;rest to b 1;");
            told(x, "first() of " + d[0], d[1], () -> x.first());
        }
        int[][] last = {{9, 0}, {10, 0}, {11, 1}};
        for (int[] d : last) {
            PartnerBooks x = books(20, 0);
            Check.tiers(x, "first " + d[0] + " to b 1;rest to a 1;");
            told(x, "first() of " + d[0], d[1], () -> x.first());
        }
    }

    /** "all being VALUED ANEW (RESULT aside)". */
    static void promise41_first_valuedAnew() {
        PartnerBooks x = books(10, 10);
        Check.tiers(x, "first 10 to b 1;rest to a 1;");
        x.buy(5, 5, 0);
        told(x, "first() with a gain of 0", 0, () -> x.first());
        x.market(0, 4);
        told(x, "first() with a gain of -1", 1, () -> x.first());
        x.market(0, 6);
        told(x, "first() with a gain of 1", 0, () -> x.first());
        x.earn(-1);
        told(x, "first() with a RESULT", 0, () -> x.first());
        x.market(0, 4);
        x.earn(100);
        told(x, "first() with a RESULT", 1, () -> x.first());
    }

    static void promise41_first_belowNothing() {
        PartnerBooks x = books(0, 0);
        Check.tiers(x, "rest to a 1;");
        told(x, "first() of 0", 0, () -> x.first());
        x.draw(1, 1);
        told(x, "first() of -1: a has less than nothing", 1, () -> x.first());
        x.pay(1, 2);
        told(x, "first() of 1", 0, () -> x.first());
    }
}
