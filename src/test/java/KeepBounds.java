/** Boundaries of promises 37 and 42 to 45: taken back, KEPT, written. */
final class KeepBounds extends Bounds {
    private static final int[] NOT_0_OR_1 = {MIN, -1000000000, -2, -1, 2, 3, 31, 32, 33, MAX};

    private KeepBounds() {
    }

    // ---- 37: "The latest DEED is taken back: how many still can be. NONE: none."

    static void promise37_back_none() {
        PartnerBooks x = new PartnerBooks();
        refused(x, "back()", NONE, () -> x.back());
        x.come(0, 5);
        Check.same("back() of one", x.back(), 0);
        refused(x, "back() behind it", NONE, () -> x.back());
        Check.same("is(6)", x.is(6), 0);
    }

    /** "the latest 12 can be taken back, the latest first". */
    static void promise37_back_theLatest12() {
        for (int many : new int[] {1, 11, 12, 13, 24, 25}) {
            PartnerBooks x = new PartnerBooks();
            for (int k = 0; k < many; k++) {
                x.earn(1);
            }
            int can = Math.min(many, 12);
            Check.same("is(11) of " + many, x.is(11), can);
            for (int k = 1; k <= can; k++) {
                Check.same("back() " + k + " of " + many, x.back(), can - k);
                Check.same("is(1)", x.is(1), many - k);
                Check.same("is(11)", x.is(11), can - k);
            }
            refused(x, "back() beyond " + can, NONE, () -> x.back());
        }
    }

    static void promise37_back_thenDoneAnew() {
        PartnerBooks x = new PartnerBooks();
        for (int k = 0; k < 20; k++) {
            x.earn(1);
        }
        for (int k = 0; k < 5; k++) {
            x.back();
        }
        Check.same("is(11)", x.is(11), 7);
        for (int k = 0; k < 5; k++) {
            x.earn(100);
        }
        Check.same("is(11)", x.is(11), 12);
        x.earn(100);
        Check.same("is(11)", x.is(11), 12);
        for (int k = 5; k >= 0; k--) {
            x.back();
            Check.same("is(1)", x.is(1), 15 + 100 * k);
        }
        for (int k = 1; k <= 6; k++) {
            x.back();
            Check.same("is(1)", x.is(1), 15 - k);
        }
        Check.same("back()", x.back(), NONE);
    }

    /** "all that was done but feed(), end(), keep()": what is refused, or only tells, is no DEED. */
    static void promise37_back_whatIsNoDeed() {
        PartnerBooks x = books(5);
        x.buy(5, 5, 5);
        x.feed(1, 2, 3, 4, 5);
        x.end(7);
        x.keep(0);
        x.keep(1);
        Check.same("is(11)", x.is(11), 2);
        x.sale(5, 0);
        x.is(0);
        x.partner(0, 6);
        x.asset(0, 0);
        x.step(0, 0);
        x.special(0, 0);
        x.tier(0, 0);
        x.fault();
        x.ended();
        x.row(0);
        x.octet(0);
        x.breaks(5);
        x.gain(0);
        x.below();
        x.tried(0, 5);
        x.even(0, 50, 5);
        x.fills(5, 0);
        x.years(0, 5, 5);
        x.exit(0);
        x.first();
        Check.same("is(11)", x.is(11), 2);
        x.come(0, 5);
        x.go(0);
        x.duty(0, -1);
        x.ratio(0, 100);
        x.pay(0, 0);
        x.draw(0, 0);
        x.buy(-1, 0, 0);
        x.sell(1);
        x.market(0, -1);
        x.lose(0, 6);
        x.borrow(0, 0);
        x.repay(0, 6);
        x.earn(1000001);
        x.hand(0, 0, 5);
        x.restore(2);
        Check.same("is(11)", x.is(11), 2);
        Check.same("the tape", x.is(12), 7);
        x.acts();
        Check.same("is(11)", x.is(11), 2);
    }

    /** Each call that was done is one DEED, and all is then as it was ahead of it. */
    static void promise37_back_eachDeed() {
        PartnerBooks x = books(100, 70);
        x.buy(50, 60, 55);
        x.keep(1);
        x.lose(0, 10);
        x.earn(-3);
        x.close();
        x.repay(0, 2);
        x.close();
        Runnable[] deeds = {() -> x.come(2, 5), () -> x.go(0), () -> x.duty(1, 6), () -> x.ratio(1, 6), () -> x.pay(1, 6),
            () -> x.draw(1, 16), () -> x.buy(1, 2, 3), () -> x.sell(0), () -> x.market(0, 4), () -> x.lose(0, 1),
            () -> x.borrow(0, 6), () -> x.repay(0, 7), () -> x.earn(-8), () -> x.earn(0), () -> x.close(),
            () -> x.hand(0, 1, 3), () -> x.hand(0, 7, 3), () -> Check.tiers(x, "rest to a 3;"), () -> Check.tiers(x, ""),
            () -> Check.specials(x, "give a 3;"), () -> Check.specials(x, ""), () -> Check.acts(x, "earn 5;"),
            () -> x.restore(1)};
        for (int k = 0; k < deeds.length; k++) {
            String was = accounts(x);
            int can = x.is(11);
            deeds[k].run();
            Check.same("is(11) behind deed " + k, x.is(11), Math.min(12, can + 1));
            Check.same("back() of deed " + k, x.back(), Math.min(12, can + 1) - 1);
            Check.yes("deed " + k + " is taken back", was.equals(accounts(x)));
        }
    }

    /** HELD as CLOSED last is taken back and KEPT with all: the next RISE starts there. */
    static void promise37_back_heldAsClosedLast() {
        PartnerBooks x = books(100);
        x.buy(0, 0, 10);
        x.keep(0);
        x.close();
        Check.same("is(5)", x.is(5), 10);
        x.keep(1);
        x.back();
        Check.same("taken back", x.is(5), 0);
        x.restore(1);
        Check.same("KEPT as 1", x.is(5), 10);
        x.restore(0);
        Check.same("KEPT as 0", x.is(5), 0);
        x.earn(-5);
        x.close();
        steps(x, 2, 5);
        x.restore(1);
        x.earn(-5);
        x.close();
        steps(x, 2, 0);
    }

    /** The tape, what was KEPT, and what was told of a text are no part of it. */
    static void promise37_back_leavesTheTapeAndWhatIsKept() {
        PartnerBooks x = books(5);
        x.pay(0, 1);
        x.keep(0);
        x.pay(0, 1);
        x.feed(1, 2, 3, 4, 5);
        x.back();
        Check.same("is(12)", x.is(12), 20);
        x.back();
        capitals(x, 5);
        Check.yes("restore(0)", x.restore(0));
        capitals(x, 6);
    }

    // ---- 42: "All is KEPT as k (0, 1): true; false for others."

    static void promise42_keep_0And1() {
        PartnerBooks x = books(5);
        refused(x, "keep(0)", 1, () -> x.keep(0) ? 1 : 0);
        refused(x, "keep(1)", 1, () -> x.keep(1) ? 1 : 0);
        for (int k : NOT_0_OR_1) {
            refused(x, "keep(" + k + ")", 0, () -> x.keep(k) ? 1 : 0);
        }
        PartnerBooks y = new PartnerBooks();
        Check.yes("keep(1) of nobody and nothing", y.keep(1));
        y.come(0, 5);
        Check.no("restore(0)", y.restore(0));
        Check.yes("restore(1)", y.restore(1));
        Check.same("is(6)", y.is(6), 0);
    }

    static void promise42_keep_eachOfItsOwnAndAnew() {
        PartnerBooks x = books(5);
        x.keep(0);
        x.pay(0, 1);
        x.keep(1);
        x.pay(0, 1);
        x.restore(0);
        capitals(x, 5);
        x.restore(1);
        capitals(x, 6);
        x.keep(0);
        x.restore(0);
        capitals(x, 6);
        x.pay(0, 50);
        x.restore(1);
        capitals(x, 6);
        x.pay(0, 9);
        x.keep(1);
        x.pay(0, 9);
        x.restore(1);
        capitals(x, 15);
        x.restore(0);
        capitals(x, 6);
    }

    // ---- 43: "All is as KEPT as k: true (a DEED); false for others, nothing is KEPT there."

    static void promise43_restore_nothingIsKept() {
        PartnerBooks x = books(5);
        refused(x, "restore(0)", 0, () -> x.restore(0) ? 1 : 0);
        refused(x, "restore(1)", 0, () -> x.restore(1) ? 1 : 0);
        x.keep(0);
        refused(x, "restore(1)", 0, () -> x.restore(1) ? 1 : 0);
        Check.yes("restore(0)", x.restore(0));
        x.keep(1);
        Check.yes("restore(1)", x.restore(1));
        for (int k : NOT_0_OR_1) {
            refused(x, "restore(" + k + ")", 0, () -> x.restore(k) ? 1 : 0);
        }
    }

    /** "KEPT 0, 1: all but the tape, DEEDS." */
    static void promise43_restore_allButTheTapeAndDeeds() {
        PartnerBooks x = books(100, 70);
        x.buy(50, 60, 55);
        Check.tiers(x, "first 7 to a 3;rest to b 2;");
        Check.specials(x, "give b 4;");
        x.lose(0, 10);
        x.earn(3);
        x.duty(1, 5);
        x.ratio(0, 4);
        x.close();
        x.repay(0, 1);
        x.close();
        x.earn(2);
        String was = accounts(x);
        x.feed(1, 2, 3, 4, 5);
        x.keep(0);
        x.end(3);
        Check.same("deeds", x.is(11), 12);
        for (int k = 0; k < 12; k++) {
            x.back();
        }
        x.earn(1);
        String then = accounts(x);
        x.end(3);
        Check.yes("restore(0)", x.restore(0));
        Check.yes("all is as KEPT", was.equals(accounts(x)));
        Check.same("the tape stays", x.is(12), 3);
        Check.same("a DEED", x.is(11), 2);
        Check.same("back()", x.back(), 1);
        Check.yes("taken back", then.equals(accounts(x)));
        Check.yes("restore(0) again", x.restore(0));
        Check.yes("all is as KEPT again", was.equals(accounts(x)));
        x.pay(0, 7);
        x.restore(0);
        Check.yes("what came behind does not touch what is KEPT", was.equals(accounts(x)));
    }

    static void promise43_restore_amongTwelveDeeds() {
        PartnerBooks x = books(5);
        x.keep(0);
        for (int k = 0; k < 13; k++) {
            x.restore(0);
            Check.same("is(11)", x.is(11), Math.min(12, k + 2));
        }
    }

    // ---- 44: "for each PARTNER there his letter, : CAPITAL , SHARE , OWED ; then = NET . (no blanks): how many bytes."

    private static void writes(PartnerBooks x, String due) {
        String was = accounts(x);
        int deeds = x.is(11);
        Check.same("write() for " + due, x.write(), due.length());
        for (int k = 0; k < due.length(); k++) {
            Check.same("octet(" + k + ") of " + due, x.octet(k), due.charAt(k));
        }
        Check.same("octet(" + due.length() + ") of " + due, x.octet(due.length()), NONE);
        Check.yes("nothing else is done", was.equals(accounts(x)) && x.is(11) == deeds);
    }

    static void promise44_write_nobodyAndAll() {
        PartnerBooks x = new PartnerBooks();
        writes(x, "=0.");
        x.come(7, 7);
        writes(x, "h:7,0,0;=7.");
        for (int p = 0; p < 7; p++) {
            x.come(p, p);
        }
        writes(x, "a:0,0,0;b:1,0,0;c:2,0,0;d:3,0,0;e:4,0,0;f:5,0,0;g:6,0,0;h:7,0,0;=28.");
        x.go(3);
        writes(x, "a:0,0,0;b:1,0,0;c:2,0,0;e:4,0,0;f:5,0,0;g:6,0,0;h:7,0,0;=25.");
    }

    static void promise44_write_numbersAtTheirPlaces() {
        int[] capitals = {0, 1, 9, 10, 11, 99, 100, 101, 999, 1000, 99999, 100000, 999999, 1000000};
        for (int n : capitals) {
            PartnerBooks x = books(n);
            writes(x, "a:" + n + ",0,0;=" + n + ".");
            if (n > 0) {
                PartnerBooks y = books(0);
                y.draw(0, n);
                writes(y, "a:-" + n + ",0,0;=-" + n + ".");
            }
        }
        PartnerBooks x = books(1000000);
        for (int k = 1; k < 110; k++) {
            x.pay(0, 1000000);
        }
        writes(x, "a:110000000,0,0;=110000000.");
        PartnerBooks y = books(0);
        for (int k = 0; k < 110; k++) {
            y.draw(0, 1000000);
        }
        writes(y, "a:-110000000,0,0;=-110000000.");
    }

    static void promise44_write_sharesOwedAndNet() {
        PartnerBooks x = books(0, 5);
        x.ratio(1, 0);
        x.buy(90, 0, 40);
        x.buy(12, 0, 12);
        x.lose(1, 12);
        x.close();
        x.repay(1, 2);
        x.close();
        writes(x, "a:-12,10,2;b:5,0,0;=-7.");
        x.earn(7);
        writes(x, "a:-12,10,2;b:5,0,0;=0.");
        x.earn(1);
        writes(x, "a:-12,10,2;b:5,0,0;=1.");
    }

    static void promise44_write_theLongest() {
        PartnerBooks x = new PartnerBooks();
        StringBuilder due = new StringBuilder();
        for (int p = 0; p < 8; p++) {
            x.come(p, 0);
            x.draw(p, 1000000);
            due.append((char) ('a' + p)).append(":-1000000,0,0;");
        }
        writes(x, due + "=-8000000.");
    }

    // ---- 45: "Byte k of what was written latest. NONE: there is none."

    static void promise45_octet_aheadOfAny() {
        PartnerBooks x = books(5);
        for (int k : new int[] {MIN, -1, 0, 1, 399, 400, MAX}) {
            Check.same("octet(" + k + ")", x.octet(k), NONE);
        }
    }

    static void promise45_octet_firstAndLast() {
        PartnerBooks x = books(5);
        Check.same("write()", x.write(), 11);
        int[][] due = {{MIN, NONE}, {-2, NONE}, {-1, NONE}, {0, 'a'}, {1, ':'}, {9, '5'}, {10, '.'}, {11, NONE}, {12, NONE},
            {399, NONE}, {400, NONE}, {401, NONE}, {MAX, NONE}};
        for (int[] d : due) {
            told(x, "octet(" + d[0] + ")", d[1], () -> x.octet(d[0]));
        }
    }

    static void promise45_octet_ofTheLatest() {
        PartnerBooks x = books(100);
        x.write();
        x.draw(0, 95);
        Check.same("octet(2): not written anew", x.octet(2), '1');
        Check.same("write()", x.write(), 11);
        Check.same("octet(2)", x.octet(2), '5');
        Check.same("octet(10)", x.octet(10), '.');
        Check.same("octet(11): of the longer one ahead of it", x.octet(11), NONE);
        x.back();
        Check.same("octet(2): not taken back", x.octet(2), '5');
    }
}
