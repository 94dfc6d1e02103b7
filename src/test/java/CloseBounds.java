/** Boundaries of promises 24 and 25, with Terms II: a YEAR is CLOSED, step by step, each step told. */
final class CloseBounds extends Bounds {
    private CloseBounds() {
    }

    private static void closed(PartnerBooks x) {
        int year = x.is(0);
        int net = x.is(3);
        int held = x.is(4);
        Check.same("close()", x.close(), year + 1);
        Check.same("YEAR", x.is(0), year + 1);
        Check.same("RESULT", x.is(1), 0);
        Check.same("NET", x.is(3), net);
        Check.same("HELD as CLOSED last", x.is(5), held);
        sums(x);
    }

    // ---- 24: "The YEAR is CLOSED: YEAR. NONE: nobody is there."

    static void promise24_close_nobodyAndOne() {
        PartnerBooks x = new PartnerBooks();
        refused(x, "close()", NONE, () -> x.close());
        x.earn(5);
        refused(x, "close() with a RESULT", NONE, () -> x.close());
        x.earn(-5);
        x.come(7, 0);
        Check.same("close() of one", x.close(), 1);
        Check.same("close() again", x.close(), 2);
        Check.same("is(0)", x.is(0), 2);
        Check.same("is(11)", x.is(11), 5);
    }

    static void promise24_close_withNothing() {
        PartnerBooks x = books(5, 5);
        closed(x);
        capitals(x, 5, 5);
        for (int what = 0; what <= 6; what++) {
            steps(x, what, 0, 0);
        }
        Check.same("step(NONE, 7)", x.step(NONE, 7), 0);
    }

    // ---- (1) CHARGE BACK

    /** One with CAPITAL 90 and SHARE 10, where HELD was 30 as CLOSED last. */
    private static PartnerBooks withAShare() {
        PartnerBooks x = books(100);
        x.buy(0, 0, 0);
        x.borrow(0, 30);
        x.earn(-10);
        x.close();
        return x;
    }

    /** "if there is a FALL": of -1, 0 and 1. */
    static void promise24_close_1_aFallOfNothing() {
        PartnerBooks x = withAShare();
        shares(x, 10);
        x.borrow(0, 1);
        closed(x);
        steps(x, 0, 0);
        shares(x, 10);
        owed(x, 0);
        closed(x);
        steps(x, 0, 0);
        shares(x, 10);
        owed(x, 0);
        x.repay(0, 1);
        closed(x);
        steps(x, 0, 1);
        steps(x, 1, 0);
        shares(x, 9);
        owed(x, 1);
        capitals(x, 90);
    }

    /** "the lesser of it and all SHARES". */
    static void promise24_close_1_aFallAgainstAllShares() {
        int[][] due = {{9, 9}, {10, 10}, {11, 10}, {30, 10}};
        for (int[] d : due) {
            PartnerBooks x = withAShare();
            x.repay(0, d[0]);
            closed(x);
            steps(x, 0, d[1]);
            shares(x, 10 - d[1]);
            owed(x, d[1]);
            Check.same("is(5)", x.is(5), 30 - d[0]);
        }
    }

    /** "RISE: HELD now less that as it was CLOSED last": not less what it was in between. */
    static void promise24_close_1_aFallSinceTheLastOne() {
        PartnerBooks x = withAShare();
        x.repay(0, 7);
        x.borrow(0, 6);
        closed(x);
        steps(x, 0, 1);
        x.repay(0, 9);
        x.borrow(0, 9);
        closed(x);
        steps(x, 0, 0);
    }

    /** A RISE of 3 and a loss of it: SHARES by RATIO. */
    private static PartnerBooks withShares(int... shares) {
        PartnerBooks x = books(100, 100, 100);
        int all = 0;
        for (int p = 0; p < 3; p++) {
            x.ratio(p, shares[p]);
            all += shares[p];
        }
        x.buy(all, all, all);
        x.lose(0, all);
        x.close();
        shares(x, shares);
        return x;
    }

    /** "DEALT by SHARES": what is left over goes to those with a SHARE alone. */
    static void promise24_close_1_aFallDealtByShares() {
        int[][] shares = {{2, 0, 1}, {2, 0, 1}, {2, 0, 1}, {0, 2, 1}, {0, 2, 2}, {1, 1, 1}, {1, 1, 1}};
        int[][] less = {{1, 0, 0}, {2, 0, 0}, {2, 0, 1}, {0, 1, 0}, {0, 2, 1}, {1, 0, 0}, {1, 1, 0}};
        for (int k = 0; k < shares.length; k++) {
            PartnerBooks x = withShares(shares[k]);
            x.repay(0, less[k][0] + less[k][1] + less[k][2]);
            closed(x);
            steps(x, 0, less[k]);
            owed(x, less[k]);
            shares(x, shares[k][0] - less[k][0], shares[k][1] - less[k][1], shares[k][2] - less[k][2]);
        }
    }

    /** By SHARES, and then by OWED, whatever RATIO has become. */
    static void promise24_close_1_notByRatio() {
        int[][] ratios = {{0, 0, 0}, {0, 99, 0}, {1, 1, 1}, {0, 0, 99}};
        for (int[] r : ratios) {
            PartnerBooks x = withShares(4, 0, 2);
            for (int p = 0; p < 3; p++) {
                x.ratio(p, r[p]);
            }
            x.repay(0, 3);
            closed(x);
            steps(x, 0, 2, 0, 1);
            shares(x, 2, 0, 1);
            owed(x, 2, 0, 1);
            x.earn(3);
            closed(x);
            steps(x, 1, 2, 0, 1);
            owed(x, 0, 0, 0);
        }
    }

    /** "the lesser of RESULT (0, if it is below) and all OWED". */
    static void promise24_close_1_resultAgainstAllOwed() {
        int[][] due = {{-2, 0}, {-1, 0}, {0, 0}, {1, 1}, {2, 2}, {9, 9}, {10, 10}, {11, 10}, {12, 10}};
        for (int[] d : due) {
            PartnerBooks x = withAShare();
            x.repay(0, 10);
            x.close();
            owed(x, 10);
            x.earn(d[0]);
            closed(x);
            steps(x, 0, 0);
            steps(x, 1, d[1]);
            steps(x, 5, d[0] - d[1]);
            owed(x, 10 - d[1]);
            capitals(x, 90 + d[0]);
        }
    }

    /** "Then (always)": in the YEAR of the FALL itself, and in one with a RISE. */
    static void promise24_close_1_chargedBackAlways() {
        PartnerBooks x = withAShare();
        x.repay(0, 4);
        x.earn(3);
        closed(x);
        steps(x, 0, 4);
        steps(x, 1, 3);
        owed(x, 1);
        x.borrow(0, 4);
        x.earn(1);
        closed(x);
        steps(x, 0, 0);
        steps(x, 1, 1);
        owed(x, 0);
        shares(x, 6);
    }

    static void promise24_close_1_chargedBackByOwed() {
        int[][] results = {{1, 1, 0, 0}, {2, 2, 0, 0}, {3, 2, 0, 1}};
        for (int[] d : results) {
            PartnerBooks x = withShares(2, 0, 1);
            x.repay(0, 3);
            x.close();
            owed(x, 2, 0, 1);
            x.earn(d[0]);
            closed(x);
            steps(x, 1, d[1], d[2], d[3]);
            owed(x, 2 - d[1], 0, 1 - d[3]);
            capitals(x, 98 + d[1], 100, 99 + d[3]);
        }
        PartnerBooks x = withShares(0, 2, 2);
        x.repay(0, 4);
        x.earn(1);
        closed(x);
        steps(x, 1, 0, 1, 0);
    }

    // ---- (2) DEBT'S LOSS

    /** "the lesser of RISE (0, if below) and less RESULT (0, if below)": a RISE of 10. */
    static void promise24_close_2_aLossAgainstTheRise() {
        int[][] due = {{1, 0}, {0, 0}, {-1, 1}, {-2, 2}, {-9, 9}, {-10, 10}, {-11, 10}, {-12, 10}};
        for (int[] d : due) {
            PartnerBooks x = books(100);
            x.buy(0, 0, 10);
            x.earn(d[0]);
            closed(x);
            steps(x, 2, d[1]);
            steps(x, 5, d[0] + d[1]);
            shares(x, d[1]);
            capitals(x, 100 + d[0]);
        }
    }

    static void promise24_close_2_aRiseOfNothing() {
        for (int rise = -2; rise <= 2; rise++) {
            PartnerBooks x = books(100);
            x.buy(0, 0, 10);
            closed(x);
            if (rise < 0) {
                x.repay(0, -rise);
            } else if (rise > 0) {
                x.borrow(0, rise);
            }
            x.earn(-5);
            closed(x);
            steps(x, 2, Math.max(0, rise));
            steps(x, 5, Math.max(0, rise) - 5);
            shares(x, Math.max(0, rise));
            capitals(x, 95);
        }
    }

    /** "DEALT by RATIO (of those there; if all are 0: by 1 each)". */
    static void promise24_close_2_byRatio() {
        int[][] ratios = {{1, 1, 1}, {1, 1, 1}, {1, 1, 1}, {1, 1, 1}, {0, 0, 0}, {0, 0, 0}, {0, 1, 0}, {0, 1, 1},
            {0, 1, 1}, {2, 0, 1}};
        int[][] losses = {{1, 0, 0}, {1, 1, 0}, {1, 1, 1}, {2, 1, 1}, {1, 0, 0}, {2, 1, 1}, {0, 4, 0}, {0, 1, 0},
            {0, 2, 1}, {2, 0, 1}};
        for (int k = 0; k < ratios.length; k++) {
            PartnerBooks x = books(100, 100, 100);
            for (int p = 0; p < 3; p++) {
                x.ratio(p, ratios[k][p]);
            }
            int all = losses[k][0] + losses[k][1] + losses[k][2];
            x.buy(all, 0, all);
            x.lose(0, all);
            closed(x);
            steps(x, 2, losses[k]);
            steps(x, 6, 0, 0, 0);
            shares(x, losses[k]);
            capitals(x, 100 - losses[k][0], 100 - losses[k][1], 100 - losses[k][2]);
        }
    }

    static void promise24_close_2_ofThoseThere() {
        PartnerBooks x = books(10, 10, 10);
        x.ratio(0, 9);
        x.ratio(1, 0);
        x.ratio(2, 0);
        x.go(0);
        x.buy(3, 0, 3);
        x.lose(0, 3);
        closed(x);
        steps(x, 2, 0, 2, 1);
    }

    // ---- (3) CURE

    /** "all who are below their FLOOR": a step above it, at it, a step below it. */
    static void promise24_close_3_atTheFloor() {
        int[][] due = {{-9, 0}, {-10, 0}, {-11, 1}, {-12, 2}};
        for (int[] d : due) {
            PartnerBooks x = books(0, 100);
            x.duty(0, 10);
            x.draw(0, -d[0]);
            x.earn(5);
            closed(x);
            steps(x, 3, d[1], 0);
            // What is left goes to a, too, by the gaps.
            steps(x, 5, 5 - d[1], 0);
            capitals(x, d[0] + 5, 100);
        }
    }

    /** "The lesser of RESULT (0, if below) and of what all .. miss". */
    static void promise24_close_3_resultAgainstWhatIsMissed() {
        int[][] due = {{-1, 0}, {0, 0}, {1, 1}, {2, 2}, {4, 4}, {5, 5}, {6, 5}, {7, 5}};
        for (int[] d : due) {
            PartnerBooks x = books(0, 100);
            x.draw(0, 5);
            Check.tiers(x, "rest to b 1;");
            x.earn(d[0]);
            closed(x);
            steps(x, 3, d[1], 0);
            steps(x, 5, 0, d[0] - d[1]);
            capitals(x, -5 + d[1], 100 + d[0] - d[1]);
        }
    }

    static void promise24_close_3_dealtByWhatEachMisses() {
        int[][] due = {{1, 1, 0, 0}, {2, 2, 0, 0}, {3, 2, 0, 1}, {4, 2, 0, 1}};
        for (int[] d : due) {
            PartnerBooks x = books(0, 0, 0);
            x.draw(0, 2);
            x.draw(2, 1);
            x.earn(d[0]);
            closed(x);
            steps(x, 3, d[1], d[2], d[3]);
        }
        PartnerBooks x = books(0, 0, 0);
        x.draw(1, 1);
        x.draw(2, 1);
        x.earn(1);
        closed(x);
        steps(x, 3, 0, 1, 0);
    }

    /** The FLOOR is that behind (1): a SHARE that got less lifts it. */
    static void promise24_close_3_floorBehindChargeBack() {
        PartnerBooks x = books(0);
        x.buy(10, 10, 10);
        x.lose(0, 10);
        closed(x);
        Check.same("below()", x.below(), 0);
        x.repay(0, 4);
        x.draw(0, 1);
        x.earn(6);
        closed(x);
        // OWED 4 charged back: -11 and 4 is -7, the FLOOR is -6.
        steps(x, 0, 4);
        steps(x, 1, 4);
        steps(x, 3, 1);
        steps(x, 5, 1);
        capitals(x, -5);
    }

    // ---- (4) SPECIALS

    /** "RESULT is above 0: the lesser of it and SUM (0, if below)". */
    static void promise24_close_4_resultAgainstTheSum() {
        int[][] due = {{-1, 0}, {0, 0}, {1, 1}, {4, 4}, {5, 5}, {6, 5}, {7, 5}};
        for (int[] d : due) {
            PartnerBooks x = books(100, 100);
            Check.tiers(x, "rest to b 1;");
            Check.specials(x, "give a 5;");
            x.earn(d[0]);
            closed(x);
            steps(x, 4, d[1], 0);
            Check.same("step(NONE, 5)", x.step(NONE, 5), d[0] - d[1]);
        }
        for (int sum = -1; sum <= 1; sum++) {
            PartnerBooks x = books(100, 100);
            Check.tiers(x, "rest to b 1;");
            Check.specials(x, "give a 5-" + (5 - sum) + ";");
            x.earn(9);
            closed(x);
            steps(x, 4, Math.max(0, sum), 0);
            steps(x, 5, 0, 9 - Math.max(0, sum));
        }
    }

    /** "One by one": each with what those ahead of it have left. */
    static void promise24_close_4_oneByOne() {
        int[][] due = {{2, 2, 0, 0}, {3, 3, 0, 0}, {4, 3, 1, 0}, {5, 3, 2, 0}, {6, 3, 2, 1}, {7, 3, 2, 1}};
        for (int[] d : due) {
            PartnerBooks x = books(100, 100, 100);
            Check.specials(x, "give a 3;give h 50;give b 2;give c 1;");
            x.earn(d[0]);
            closed(x);
            steps(x, 4, d[1], d[2], d[3]);
        }
        PartnerBooks x = books(10, 0);
        Check.specials(x, "give a 1;give b 5 when capital a>10;give b result when result<95;give a 1;");
        x.earn(100);
        closed(x);
        steps(x, 4, 1, 99);
        PartnerBooks y = books(10, 0);
        Check.specials(y, "give a 1;give a 2;give b result/2;give b result/2;");
        y.earn(103);
        closed(y);
        steps(y, 4, 3, 75);
    }

    static void promise24_close_4_eight() {
        PartnerBooks x = books(0, 0, 0, 0, 0, 0, 0, 0);
        Check.specials(x, "give h 1;give g 2;give f 3;give e 4;give d 5;give c 6;give b 7;give a 8;");
        x.earn(36);
        closed(x);
        steps(x, 4, 8, 7, 6, 5, 4, 3, 2, 1);
        x.earn(35);
        closed(x);
        steps(x, 4, 7, 7, 6, 5, 4, 3, 2, 1);
    }

    /** "as all is then": behind (1) and (3), ahead of the YEAR's end. */
    static void promise24_close_4_asAllIsThen() {
        PartnerBooks x = books(0, 100);
        x.draw(0, 7);
        Check.specials(x, "give b result when year<1;");
        x.earn(10);
        closed(x);
        steps(x, 3, 7, 0);
        steps(x, 4, 0, 3);
        x.earn(10);
        closed(x);
        steps(x, 4, 0, 0);
    }

    // ---- (5) TARGETS

    static void promise24_close_5_aResultOfNothing() {
        int[][] due = {{-2, -1, -1}, {-1, -1, 0}, {0, 0, 0}, {1, 0, 1}, {2, 1, 1}, {3, 1, 2}};
        for (int[] d : due) {
            PartnerBooks x = books(5, 4);
            x.earn(d[0]);
            closed(x);
            steps(x, 5, d[1], d[2]);
            steps(x, 6, d[1], d[2]);
            capitals(x, 5 + d[1], 4 + d[2]);
        }
    }

    /** "GAPS above 0 (gains)": those at 0, and those below it, have none. */
    static void promise24_close_5_gainsByGapsAbove() {
        int[][] due = {{1, 0, 1}, {9, 0, 9}, {10, 0, 10}, {11, 1, 10}, {12, 1, 11}};
        for (int[] d : due) {
            PartnerBooks x = books(10, 0);
            x.earn(d[0]);
            closed(x);
            steps(x, 5, d[1], d[2]);
            steps(x, 6, d[1], d[2]);
        }
        PartnerBooks x = books(9, 0, 0);
        x.earn(1);
        // 10: 4, 3, 3: gaps -5, 3, 3.
        closed(x);
        steps(x, 5, 0, 1, 0);
    }

    /** "by sizes of GAPS below 0 (losses)": those at 0, and those above it, have none. */
    static void promise24_close_5_lossesByGapsBelow() {
        int[][] due = {{-1, -1, 0}, {-9, -9, 0}, {-10, -10, 0}};
        for (int[] d : due) {
            PartnerBooks x = books(10, 0);
            x.earn(d[0]);
            closed(x);
            steps(x, 5, d[1], d[2]);
            steps(x, 6, d[1], d[2]);
        }
        PartnerBooks x = books(0, 9, 9);
        x.earn(-1);
        // 17: 6, 6, 5: gaps 6, -3, -4: of 1 nothing each, the one left over to b.
        closed(x);
        steps(x, 5, 0, -1, 0);
    }

    static void promise24_close_5_ofTheMost() {
        PartnerBooks x = books(1000000, 0);
        x.earn(1000000);
        closed(x);
        capitals(x, 1000000, 1000000);
        x.earn(-1000000);
        closed(x);
        capitals(x, 500000, 500000);
        x.earn(-1000000);
        closed(x);
        capitals(x, 0, 0);
        Check.same("step(NONE, 7)", x.step(NONE, 7), 0);
    }

    // ---- (6) LIMITS

    /** "a loss above his ROOM", of one alone: a step below it, at it, a step above it. */
    static void promise24_close_6_atTheRoom() {
        int[][] due = {{0, 9, 0}, {0, 10, 0}, {0, 11, 1}, {0, 12, 2}, {5, 14, 0}, {5, 15, 0}, {5, 16, 1}};
        for (int[] d : due) {
            PartnerBooks x = books(10);
            x.duty(0, d[0]);
            x.earn(-d[1]);
            closed(x);
            steps(x, 5, -d[1]);
            steps(x, 6, -d[1]);
            Check.same("LEFTOVER", x.step(NONE, 7), d[2]);
            capitals(x, 10 - d[1]);
        }
    }

    /** What is above the ROOM of a goes to b, who has ROOM for 5; beyond it there is a LEFTOVER. */
    static void promise24_close_6_whatIsAbove() {
        int[][] due = {{9, -9, 0, 0}, {10, -10, 0, 0}, {11, -10, -1, 0}, {14, -10, -4, 0}, {15, -10, -5, 0}, {16, -11, -5, 1},
            {17, -12, -5, 2}};
        for (int[] d : due) {
            PartnerBooks x = books(10, 0);
            x.duty(1, 5);
            Check.tiers(x, "rest to a 1;");
            x.earn(-d[0]);
            closed(x);
            steps(x, 5, -d[0], 0);
            steps(x, 6, d[1], d[2]);
            Check.same("LEFTOVER", x.step(NONE, 7), d[3]);
            capitals(x, 10 + d[1], d[2]);
        }
    }

    /** The same the other way: a is the one with ROOM, and has what is left over as well. */
    static void promise24_close_6_whatIsAboveForTheFirst() {
        int[][] due = {{10, 0, -10, 0}, {11, -1, -10, 0}, {14, -4, -10, 0}, {15, -5, -10, 0}, {16, -6, -10, 1}};
        for (int[] d : due) {
            PartnerBooks x = books(0, 10);
            x.duty(0, 5);
            Check.tiers(x, "rest to b 1;");
            x.earn(-d[0]);
            closed(x);
            steps(x, 5, 0, -d[0]);
            steps(x, 6, d[1], d[2]);
            Check.same("LEFTOVER", x.step(NONE, 7), d[3]);
        }
    }

    /** "it falls on the first PARTNER there (LEFTOVER)": who need not be a. */
    static void promise24_close_6_leftoverOfTheFirstThere() {
        PartnerBooks x = new PartnerBooks();
        x.come(5, 0);
        x.come(2, 10);
        Check.tiers(x, "rest to f 1;");
        x.earn(-12);
        closed(x);
        steps(x, 5, 0, 0, -10, 0, 0, -2, 0, 0);
        steps(x, 6, 0, 0, -12, 0, 0, 0, 0, 0);
        Check.same("LEFTOVER", x.step(NONE, 7), 2);
        PartnerBooks y = new PartnerBooks();
        y.come(7, 4);
        y.earn(-5);
        closed(y);
        Check.same("step(7, 6)", y.step(7, 6), -5);
        Check.same("LEFTOVER", y.step(NONE, 7), 1);
        capitals(y, OUT, OUT, OUT, OUT, OUT, OUT, OUT, -1);
    }

    /** "DEALT by RATIO of those with a loss below their ROOM (if all these are 0: by 1 each of them)": 4 above. */
    static void promise24_close_6_byRatio() {
        int[][] ratios = {{9, 3, 1, 0}, {9, 1, 1, 1}, {9, 0, 0, 0}, {9, 0, 1, 1}, {9, 0, 0, 7}, {0, 1, 0, 2}, {9, 99, 1, 1}};
        int[][] parts = {{3, 1, 0}, {2, 1, 1}, {2, 1, 1}, {0, 2, 2}, {0, 0, 4}, {2, 0, 2}, {4, 0, 0}};
        for (int k = 0; k < ratios.length; k++) {
            PartnerBooks x = books(10, 0, 0, 0);
            for (int p = 0; p < 4; p++) {
                x.ratio(p, ratios[k][p]);
                x.duty(p, p == 0 ? 0 : 50);
            }
            Check.tiers(x, "rest to a 1;");
            x.earn(-14);
            closed(x);
            steps(x, 5, -14, 0, 0, 0);
            steps(x, 6, -10, -parts[k][0], -parts[k][1], -parts[k][2]);
            Check.same("LEFTOVER", x.step(NONE, 7), 0);
        }
    }

    /** Who has no ROOM left is not among them: RATIO of his counts for nothing. */
    static void promise24_close_6_thoseBelowTheirRoomAlone() {
        for (int room = 0; room <= 1; room++) {
            PartnerBooks x = books(10, 0, 0);
            x.ratio(0, 99);
            x.ratio(1, 0);
            x.ratio(2, 9);
            x.duty(1, 50);
            x.duty(2, room);
            Check.tiers(x, "rest to a 1;");
            x.earn(-14);
            closed(x);
            steps(x, 6, -10, -4 + room, -room);
        }
    }

    /** "As long as one has a loss above his ROOM": in as many rounds as there are PARTNERS. */
    static void promise24_close_6_roundByRound() {
        PartnerBooks x = books(1, 0, 0, 0, 0, 0, 0, 0);
        int[] ratios = {0, 99, 60, 36, 22, 13, 8, 5};
        for (int p = 0; p < 8; p++) {
            x.ratio(p, ratios[p]);
            x.duty(p, p == 0 ? 0 : 1 << p);
        }
        Check.tiers(x, "rest to a 1;");
        x.earn(-255);
        // The rooms are 1, 2, 4, .. 128: 255 in all.
        closed(x);
        steps(x, 5, -255, 0, 0, 0, 0, 0, 0, 0);
        steps(x, 6, -1, -2, -4, -8, -16, -32, -64, -128);
        Check.same("LEFTOVER", x.step(NONE, 7), 0);
        x.back();
        x.earn(-1);
        closed(x);
        steps(x, 6, -2, -2, -4, -8, -16, -32, -64, -128);
        Check.same("LEFTOVER", x.step(NONE, 7), 1);
        x.back();
        x.earn(2);
        closed(x);
        steps(x, 6, -1, -2, -4, -8, -16, -32, -64, -127);
        Check.same("LEFTOVER", x.step(NONE, 7), 0);
    }

    /** "what is above, of all together": the losses of two are above at once. */
    static void promise24_close_6_ofAllTogether() {
        PartnerBooks x = books(2, 2, 0, 0);
        x.duty(2, 1);
        x.duty(3, 50);
        x.ratio(2, 1);
        x.ratio(3, 1);
        Check.tiers(x, "rest to a 1+b 1;");
        x.earn(-10);
        // -6: -3, -3: losses 5 and 5, 3 above each: 6 by 1 and 1 is 3 and 3; c has ROOM for 1: 2 more to d.
        closed(x);
        steps(x, 5, -5, -5, 0, 0);
        steps(x, 6, -2, -2, -1, -5);
    }

    /** "CAPITAL less FLOOR (0 at least)": who is below his FLOOR has no ROOM, not less than none. */
    static void promise24_close_6_roomOf0AtLeast() {
        PartnerBooks x = books(0, 10);
        x.draw(0, 5);
        Check.tiers(x, "rest to a 1;");
        x.earn(-12);
        // -7 to a: gaps -2 and -10; b has ROOM for 10 alone.
        closed(x);
        steps(x, 5, -2, -10);
        steps(x, 6, -2, -10);
        Check.same("LEFTOVER", x.step(NONE, 7), 2);
        PartnerBooks y = books(0, 10);
        y.draw(0, 5);
        y.duty(1, 2);
        Check.tiers(y, "rest to a 1;");
        y.earn(-12);
        closed(y);
        steps(y, 6, 0, -12);
        Check.same("LEFTOVER", y.step(NONE, 7), 0);
    }

    /** ROOM reaches as far as DUTY and SHARE together. */
    static void promise24_close_6_roomWithDutyAndShare() {
        int[][] due = {{8, 0}, {9, 0}, {10, 1}};
        for (int[] d : due) {
            PartnerBooks x = books(7);
            x.duty(0, 2);
            x.buy(5, 5, 5);
            x.lose(0, 5);
            closed(x);
            capitals(x, 2);
            shares(x, 5);
            x.earn(-d[0]);
            closed(x);
            Check.same("LEFTOVER of " + d[0], x.step(NONE, 7), d[1]);
            capitals(x, 2 - d[0]);
        }
    }

    /** ROOM is that "ahead of losses", but behind (2): what DEBT'S LOSS took is SHARE, and takes no ROOM. */
    static void promise24_close_6_roomBehindDebtsLoss() {
        int[][] due = {{14, 0}, {15, 0}, {16, 1}};
        for (int[] d : due) {
            PartnerBooks x = books(10);
            x.buy(5, 5, 5);
            x.lose(0, 5);
            x.earn(5 - d[0]);
            closed(x);
            steps(x, 2, 5);
            steps(x, 5, 5 - d[0]);
            Check.same("LEFTOVER of " + d[0], x.step(NONE, 7), d[1]);
        }
    }

    // ---- 25: step

    static void promise25_step_aheadOfAny() {
        PartnerBooks x = new PartnerBooks();
        x.close();
        x.come(0, -1);
        x.go(0);
        x.earn(1);
        for (int p = -1; p < 8; p++) {
            for (int what = 0; what <= 7; what++) {
                Check.same("step(" + p + ", " + what + ")", x.step(p, what), OUT);
            }
        }
    }

    static void promise25_step_others() {
        PartnerBooks x = books(5, 5);
        x.earn(-11);
        closed(x);
        for (int p = -1; p < 8; p++) {
            for (int what = 0; what <= 6; what++) {
                Check.yes("step(" + p + ", " + what + ")", x.step(p, what) != OUT);
            }
            for (int what : new int[] {MIN, -2, -1, 8, 9, MAX}) {
                int who = p;
                told(x, "step(" + p + ", " + what + ")", OUT, () -> x.step(who, what));
            }
            Check.same("step(" + p + ", 7)", x.step(p, 7), p == NONE ? 1 : OUT);
        }
        for (int p : new int[] {MIN, -3, -2, 8, 9, MAX}) {
            for (int what = -1; what <= 8; what++) {
                Check.same("step(" + p + ", " + what + ")", x.step(p, what), OUT);
            }
        }
    }

    /** "Of the latest close(), come(), go() that was done": refused ones, and others, tell nothing. */
    static void promise25_step_ofTheLatestThatWasDone() {
        PartnerBooks x = books(5, 5);
        x.earn(-11);
        closed(x);
        steps(x, 6, -6, -5);
        x.come(0, 5);
        x.come(8, 5);
        x.come(2, -1);
        x.go(2);
        x.earn(1);
        x.come(2, 5);
        x.go(1);
        x.pay(0, 9);
        x.hand(0, 3, 50);
        x.buy(5, 9, 0);
        x.sell(0);
        x.tried(0, -50);
        x.breaks(9);
        x.years(0, -50, 3);
        x.exit(0);
        x.even(0, 100, 9);
        x.keep(1);
        steps(x, 6, -6, -5, 0, 0);
        Check.same("LEFTOVER", x.step(NONE, 7), 1);
        closed(x);
        Check.same("LEFTOVER", x.step(NONE, 7), 0);
        Check.yes("step(NONE, 6)", x.step(NONE, 6) > 0);
    }

    /** "Of come(), go(): 0 to 4 are 0, 5 to 7 as all was VALUED ANEW." */
    static void promise25_step_ofComeAndGo() {
        PartnerBooks x = withShares(2, 0, 1);
        Check.specials(x, "give a 1;");
        x.repay(0, 3);
        x.draw(1, 101);
        x.earn(9);
        closed(x);
        steps(x, 0, 2, 0, 1);
        steps(x, 1, 2, 0, 1);
        steps(x, 3, 0, 1, 0);
        steps(x, 4, 1, 0, 0);
        x.market(0, 0);
        x.come(3, 7);
        for (int what = 0; what <= 6; what++) {
            steps(x, what, 0, 0, 0, 0);
        }
        x.market(0, 1);
        x.go(3);
        for (int what = 0; what <= 4; what++) {
            steps(x, what, 0, 0, 0, 0);
        }
        steps(x, 5, 0, 1, 0, 0);
        steps(x, 6, 0, 1, 0, 0);
    }

    static void promise25_step_leftoverOfComeAndGo() {
        PartnerBooks x = books(3, 3);
        x.buy(7, 0, 0);
        x.come(2, 0);
        steps(x, 5, -4, -3, 0);
        steps(x, 6, -4, -3, 0);
        Check.same("LEFTOVER", x.step(NONE, 7), 1);
        x.buy(0, 2, 0);
        x.go(2);
        Check.same("LEFTOVER", x.step(NONE, 7), 0);
        Check.same("step(NONE, 6)", x.step(NONE, 6), 2);
        x.buy(9, 0, 0);
        x.come(2, 0);
        Check.same("LEFTOVER", x.step(NONE, 7), 8);
        x.buy(5, 0, 0);
        x.go(2);
        Check.same("LEFTOVER", x.step(NONE, 7), 5);
    }

    /** "(taken back, KEPT with all)": back to what was told ahead of it, and to nothing at all. */
    static void promise25_step_takenBackAndKept() {
        PartnerBooks x = new PartnerBooks();
        x.keep(0);
        x.come(0, 5);
        Check.same("step(NONE, 7)", x.step(NONE, 7), 0);
        x.earn(-6);
        closed(x);
        Check.same("LEFTOVER", x.step(NONE, 7), 1);
        x.keep(1);
        x.earn(3);
        closed(x);
        steps(x, 3, 1);
        steps(x, 5, 2);
        x.back();
        Check.same("taken back", x.step(NONE, 7), 1);
        x.back();
        x.back();
        Check.same("taken back to come()", x.step(NONE, 7), 0);
        Check.same("taken back to come()", x.step(0, 6), 0);
        x.restore(1);
        Check.same("KEPT", x.step(NONE, 7), 1);
        steps(x, 6, -6);
        x.restore(0);
        Check.same("KEPT ahead of any", x.step(NONE, 7), OUT);
        x.back();
        Check.same("the latter taken back", x.step(0, 6), -6);
        x.back();
        x.back();
        x.back();
        Check.same("taken back to nothing", x.step(0, 6), OUT);
        Check.same("taken back to nothing", x.step(NONE, 0), OUT);
    }

    /** One who is gone is told yet; one who was not there has 0. */
    static void promise25_step_ofWhoIsGone() {
        PartnerBooks x = books(10, 10);
        x.buy(4, 0, 0);
        x.go(1);
        steps(x, 6, -2, -2, 0, 0, 0, 0, 0, 0);
    }
}
