/** Boundaries of promises 1 to 6: a new object, the tape, TIERS and their FAULTS. */
final class TapeBounds extends Bounds {
    private static final int BLANKS = 0x20202020;

    private TapeBounds() {
    }

    // ---- 1: "Nobody, nothing."

    static void promise01_newObject_hasNobodyAndNothing() {
        PartnerBooks x = new PartnerBooks();
        for (int what = 0; what <= 12; what++) {
            Check.same("is(" + what + ")", x.is(what), 0);
        }
        for (int k = -1; k <= 8; k++) {
            for (int what = -1; what <= 9; what++) {
                Check.same("partner(" + k + ", " + what + ")", x.partner(k, what), OUT);
                Check.same("asset(" + k + ", " + what + ")", x.asset(k, what), NONE);
                Check.same("step(" + k + ", " + what + ")", x.step(k, what), OUT);
                Check.same("special(" + k + ", " + what + ")", x.special(k, what), OUT);
            }
            Check.same("row(" + k + ")", x.row(k), OUT);
            Check.same("octet(" + k + ")", x.octet(k), NONE);
        }
        Check.same("fault()", x.fault(), NONE);
        Check.same("ended()", x.ended(), NONE);
        Check.same("below()", x.below(), 0);
        Check.same("gain(NONE)", x.gain(NONE), 0);
    }

    static void promise01_newObject_refusesWhatNeedsSomebody() {
        PartnerBooks x = new PartnerBooks();
        refused(x, "close()", NONE, () -> x.close());
        refused(x, "go(0)", OUT, () -> x.go(0));
        refused(x, "pay(0, 1)", OUT, () -> x.pay(0, 1));
        refused(x, "draw(0, 1)", OUT, () -> x.draw(0, 1));
        refused(x, "duty(0, 1)", NONE, () -> x.duty(0, 1));
        refused(x, "ratio(0, 1)", NONE, () -> x.ratio(0, 1));
        refused(x, "hand(0, 1, 1)", OUT, () -> x.hand(0, 1, 1));
        refused(x, "sell(0)", OUT, () -> x.sell(0));
        refused(x, "market(0, 1)", NONE, () -> x.market(0, 1));
        refused(x, "lose(0, 1)", NONE, () -> x.lose(0, 1));
        refused(x, "borrow(0, 1)", NONE, () -> x.borrow(0, 1));
        refused(x, "repay(0, 1)", NONE, () -> x.repay(0, 1));
        refused(x, "back()", NONE, () -> x.back());
        refused(x, "restore(0)", 0, () -> x.restore(0) ? 1 : 0);
        refused(x, "restore(1)", 0, () -> x.restore(1) ? 1 : 0);
    }

    static void promise01_newObject_isOneOfItsOwn() {
        PartnerBooks x = new PartnerBooks();
        String was = picture(x);
        PartnerBooks y = books(5, 6);
        y.feed(1, 2, 3, 4, 5);
        y.keep(0);
        Check.yes("the other one is new yet", was.equals(picture(x)));
        Check.no("nothing is KEPT in the other one", x.restore(0));
    }

    /** "An object is used for at most 512 calls .. what later calls answer is free": free, but none of them throws. */
    static void promise01_newObject_isUsedFor512Calls() {
        PartnerBooks x = new PartnerBooks();
        for (int k = 1; k <= 511; k++) {
            Check.same("earn(1), call " + k, x.earn(1), k);
        }
        Check.same("call 512", x.is(2), 511);
        for (int k = 0; k < 4000; k++) {
            x.earn(1000000);
        }
        x.close();
        Check.yes("later ones ended", true);
    }

    static void promise01_newObject_constantNone() {
        Check.same("NONE", PartnerBooks.NONE, -1);
    }

    // ---- 2: "Twenty bytes come behind the tape, the highest of a first: how many it has."

    static void promise02_feed_highestByteOfAFirst() {
        PartnerBooks x = new PartnerBooks();
        // "rest to a 1+b 2+c 3;" is twenty bytes.
        Check.same("feed", x.feed(0x72657374, 0x20746f20, 0x6120312b, 0x6220322b, 0x6320333b), 20);
        Check.same("tiers()", x.tiers(), 1);
        for (int p = 1; p <= 4; p++) {
            Check.same("tier(0, " + p + ")", x.tier(0, p), p % 4);
        }
    }

    static void promise02_feed_eachByteAtItsPlace() {
        for (int c : new int[] {0, 1, 31, 33, 127, 128, 255}) {
            for (int place = 0; place < 20; place++) {
                int[] words = {BLANKS, BLANKS, BLANKS, BLANKS, BLANKS};
                int shift = 24 - 8 * (place % 4);
                words[place / 4] = words[place / 4] & ~(255 << shift) | c << shift;
                PartnerBooks x = new PartnerBooks();
                x.feed(words[0], words[1], words[2], words[3], words[4]);
                Check.same("tiers() of a byte " + c + " at " + place, x.tiers(), NONE);
                Check.same("fault() of a byte " + c + " at " + place, x.fault(), place);
            }
        }
    }

    static void promise02_feed_comesBehindTheTape() {
        PartnerBooks x = new PartnerBooks();
        x.feed(BLANKS, BLANKS, BLANKS, BLANKS, BLANKS);
        x.end(5);
        Check.same("feed behind 5", x.feed(0x21212121, 0, 0, 0, 0), 25);
        Check.same("tiers()", x.tiers(), NONE);
        Check.same("fault()", x.fault(), 5);
    }

    // ---- 2: "NONE, and none come, if there would be more than 400."

    private static PartnerBooks withBytes(int many) {
        PartnerBooks x = new PartnerBooks();
        Check.tape(x, "rest to a 7;" + blanks(388));
        x.end(many);
        return x;
    }

    static void promise02_feed_upTo400Bytes() {
        Check.same("feed behind 379", withBytes(379).feed(BLANKS, BLANKS, BLANKS, BLANKS, BLANKS), 399);
        Check.same("feed behind 380", withBytes(380).feed(BLANKS, BLANKS, BLANKS, BLANKS, BLANKS), 400);
        for (int many : new int[] {381, 399, 400}) {
            PartnerBooks x = withBytes(many);
            refused(x, "feed behind " + many, NONE, () -> x.feed(1, 2, 3, 4, 5));
            Check.same("none come: is(12)", x.is(12), many);
            Check.same("none come: tiers()", x.tiers(), 1);
            Check.same("none come: tier(0, 1)", x.tier(0, 1), 7);
        }
    }

    static void promise02_feed_andEndAreNoDeeds() {
        PartnerBooks x = new PartnerBooks();
        x.feed(1, 2, 3, 4, 5);
        x.end(3);
        Check.same("is(11)", x.is(11), 0);
        Check.same("back()", x.back(), NONE);
        Check.same("is(12)", x.is(12), 3);
    }

    // ---- 3: "The tape has its first n bytes alone: n. NONE, and nothing is done, if it has not so many, or n is below 0."

    static void promise03_end_atTheLength() {
        PartnerBooks x = new PartnerBooks();
        Check.same("end(0) of an empty tape", x.end(0), 0);
        refused(x, "end(1) of an empty tape", NONE, () -> x.end(1));
        refused(x, "end(-1) of an empty tape", NONE, () -> x.end(-1));
        x.feed(BLANKS, BLANKS, BLANKS, BLANKS, BLANKS);
        refused(x, "end(21)", NONE, () -> x.end(21));
        Check.same("end(20)", x.end(20), 20);
        Check.same("is(12)", x.is(12), 20);
        Check.same("end(19)", x.end(19), 19);
        Check.same("is(12)", x.is(12), 19);
        refused(x, "end(20) of 19", NONE, () -> x.end(20));
    }

    static void promise03_end_belowNothing() {
        PartnerBooks x = new PartnerBooks();
        x.feed(BLANKS, BLANKS, BLANKS, BLANKS, BLANKS);
        refused(x, "end(-1)", NONE, () -> x.end(-1));
        refused(x, "end(MIN)", NONE, () -> x.end(MIN));
        refused(x, "end(MAX)", NONE, () -> x.end(MAX));
        Check.same("end(1)", x.end(1), 1);
        Check.same("end(0)", x.end(0), 0);
        Check.same("is(12)", x.is(12), 0);
    }

    static void promise03_end_ofAFullTape() {
        PartnerBooks x = withBytes(400);
        refused(x, "end(401)", NONE, () -> x.end(401));
        Check.same("end(400)", x.end(400), 400);
        Check.same("end(399)", x.end(399), 399);
    }

    static void promise03_end_cutsWordsAndNumbers() {
        PartnerBooks x = new PartnerBooks();
        Check.tape(x, "rest to a 12;");
        x.end(11);
        x.feed(0x3b202020, BLANKS, BLANKS, BLANKS, BLANKS);
        Check.same("tiers()", x.tiers(), 1);
        Check.same("tier(0, 1): the 2 is cut off", x.tier(0, 1), 1);
        Check.tape(x, "rest to a 1;");
        x.end(3);
        Check.same("tiers(): the t is cut off", x.tiers(), NONE);
        Check.same("fault()", x.fault(), 0);
    }

    // ---- 4 and Terms I: TIERS

    private static void tiersWell(String text, int count) {
        PartnerBooks x = new PartnerBooks();
        Check.same("tiers() of " + text, Check.tiers(x, text), count);
        Check.same("fault() of " + text, x.fault(), NONE);
        Check.same("the tape behind " + text, x.is(12), 0);
        Check.same("a deed: " + text, x.is(11), 1);
        Check.same("LAST of " + text, x.tier(Math.max(0, count - 1), 0), NONE);
        Check.same("behind LAST of " + text, x.tier(Math.max(1, count), 0), -2);
    }

    private static void tiersFault(String text, int place) {
        PartnerBooks x = new PartnerBooks();
        Check.tiers(x, "first 5 to b 2;rest to c 3;");
        Check.same("tiers() of " + text, Check.tiers(x, text), NONE);
        Check.same("fault() of " + text, x.fault(), place);
        Check.same("the tape behind " + text, x.is(12), 0);
        Check.same("no deed: " + text, x.is(11), 1);
        Check.same("tier(0, 0) stays", x.tier(0, 0), 5);
        Check.same("tier(0, 2) stays", x.tier(0, 2), 2);
        Check.same("tier(1, 3) stays", x.tier(1, 3), 3);
        Check.same("tier(2, 0) stays", x.tier(2, 0), -2);
    }

    static void promise04_tiers_sumOf1To999999() {
        for (int n : new int[] {1, 2, 999998, 999999}) {
            PartnerBooks x = new PartnerBooks();
            Check.same("first " + n, Check.tiers(x, "first " + n + " to a 1;rest to a 1;"), 2);
            Check.same("tier(0, 0)", x.tier(0, 0), n);
        }
        tiersFault("first 0 to a 1;rest to a 1;", 6);
        tiersFault("first 1000000 to a 1;rest to a 1;", 6);
        tiersFault("first 5 to a 1;first 0 to a 1;rest to a 1;", 21);
    }

    static void promise04_tiers_weightOf1To99() {
        for (int w : new int[] {1, 2, 98, 99}) {
            PartnerBooks x = new PartnerBooks();
            Check.same("W " + w, Check.tiers(x, "first 5 to b " + w + ";rest to a " + w + ";"), 2);
            Check.same("tier(0, 2)", x.tier(0, 2), w);
            Check.same("tier(1, 1)", x.tier(1, 1), w);
        }
        tiersFault("rest to a 0;", 10);
        tiersFault("rest to a 100;", 10);
        tiersFault("first 5 to a 0;rest to a 1;", 13);
        tiersFault("first 5 to a 100;rest to a 1;", 13);
        tiersFault("rest to a 1+b 0;", 14);
        tiersFault("rest to a 1+b 100;", 14);
    }

    static void promise04_tiers_partnersAToH() {
        for (int p = 0; p < 8; p++) {
            PartnerBooks x = new PartnerBooks();
            Check.same("one", Check.tiers(x, "rest to " + (char) ('a' + p) + " 6;"), 1);
            for (int what = 1; what <= 8; what++) {
                Check.same("tier(0, " + what + ")", x.tier(0, what), what == p + 1 ? 6 : 0);
            }
        }
        tiersFault("rest to i 1;", 8);
        tiersFault("rest to ` 1;", 8);
        tiersFault("rest to z 1;", 8);
        tiersFault("rest to A 1;", 8);
        tiersFault("rest to aa 1;", 8);
        tiersFault("rest to 1 1;", 8);
        tiersFault("rest to + 1;", 8);
    }

    static void promise04_tiers_aPartnerOnceInATier() {
        tiersWell("first 1 to a 1;first 1 to a 1;rest to a 1;", 3);
        tiersWell("rest to h 1+g 1+f 1+e 1+d 1+c 1+b 1;", 1);
        tiersWell("rest to h 1+g 1+f 1+e 1+d 1+c 1+b 1+a 1;", 1);
        tiersFault("rest to h 1+g 1+f 1+e 1+d 1+c 1+b 1+a 1+h 1;", 40);
        tiersFault("rest to h 1+g 1+f 1+e 1+d 1+c 1+b 1+a 1+i 1;", 40);
        tiersFault("rest to h 1+g 1+f 1+e 1+d 1+c 1+b 1+a 1+;", 40);
        tiersFault("rest to h 1+g 1+f 1+e 1+d 1+c 1+b 1+b 1;", 36);
        tiersFault("rest to a 1+a 2;", 12);
        tiersFault("first 1 to b 1+a 1+b 1;rest to a 1;", 19);
    }

    static void promise04_tiers_eightAheadOfRest() {
        String first = "first 1 to a 1;";
        tiersWell("rest to a 1;", 1);
        tiersWell(first.repeat(7) + "rest to a 1;", 8);
        tiersWell(first.repeat(8) + "rest to a 1;", 9);
        tiersFault(first.repeat(9) + "rest to a 1;", 120);
        tiersFault(first.repeat(8) + "  first", 122);
        tiersFault(first.repeat(8), 120);
        PartnerBooks x = new PartnerBooks();
        StringBuilder text = new StringBuilder();
        for (int k = 0; k < 8; k++) {
            text.append("first ").append(11 + k).append(" to ").append((char) ('a' + k)).append(' ').append(k + 1).append(';');
        }
        Check.same("eight", Check.tiers(x, text + "rest to a 9;"), 9);
        for (int k = 0; k < 8; k++) {
            Check.same("tier(" + k + ", 0)", x.tier(k, 0), 11 + k);
            Check.same("tier(" + k + ", " + (k + 1) + ")", x.tier(k, k + 1), k + 1);
        }
        Check.same("tier(8, 1)", x.tier(8, 1), 9);
        Check.same("tier(8, 2)", x.tier(8, 2), 0);
    }

    static void promise04_tiers_restEndsTheText() {
        tiersWell("rest to a 1;   ", 1);
        tiersFault("rest to a 1;;", 12);
        tiersFault("rest to a 1; +", 13);
        tiersFault("rest to a 1;rest to a 1;", 12);
        tiersFault("rest to a 1;first 1 to a 1;", 12);
        tiersFault("rest to a 1;1", 12);
        tiersFault("rest to a 1;" + (char) 0, 12);
    }

    static void promise04_tiers_emptyText() {
        for (String text : new String[] {"", " ", "  ", blanks(400)}) {
            PartnerBooks x = new PartnerBooks();
            Check.tiers(x, "first 5 to b 2;rest to c 3;");
            Check.same("tiers() of " + text.length() + " blanks", Check.tiers(x, text), 0);
            Check.same("fault()", x.fault(), NONE);
            Check.same("tier(0, 0)", x.tier(0, 0), NONE);
            for (int what = 1; what <= 8; what++) {
                Check.same("tier(0, " + what + ")", x.tier(0, what), 1);
            }
            Check.same("tier(1, 0)", x.tier(1, 0), -2);
            Check.same("a deed", x.is(11), 2);
        }
        tiersFault(" ;", 1);
        tiersFault(blanks(399) + "x", 399);
    }

    /** "the length, if it ends too early": of each start of a text. */
    static void promise04_tiers_endsTooEarly() {
        String text = "rest to a 1;";
        int[] places = {0, 0, 0, 0, 4, 5, 5, 7, 8, 9, 10, 11};
        for (int length = 1; length < text.length(); length++) {
            tiersFault(text.substring(0, length), places[length]);
        }
        tiersFault("first", 5);
        tiersFault("first 1", 7);
        tiersFault("first 1 to", 10);
        tiersFault("first 1 to a", 12);
        tiersFault("first 1 to a 1", 14);
        tiersFault("first 1 to a 1+", 15);
        tiersFault("first 1 to a 1;", 15);
        tiersFault("first 1 to a 1;   ", 18);
        tiersFault("first 1 to a 1;rest to a 1  ", 28);
    }

    static void promise04_tiers_onAFullTape() {
        String full = "first 1 to a 1;" + blanks(373) + "rest to a 1;";
        Check.same("the text is as long as the tape", full.length(), 400);
        tiersWell(full, 2);
        tiersFault(full.substring(0, 399) + " ", 400);
        tiersFault(full.substring(0, 399) + "1", 400);
        tiersFault(full.substring(0, 399) + "x", 399);
        tiersFault(full.substring(0, 399), 399);
        tiersFault("first 1 to a 1;rest to a " + "0".repeat(375), 25);
        tiersFault("x".repeat(400), 0);
        tiersFault("9".repeat(400), 0);
    }

    /** "WORDS (a .. z, the longest row), NUMBERS (digits, the longest row)": each row is one TOKEN. */
    static void promise04_tiers_longestRows() {
        tiersWell("rest to a1+b2;", 1);
        tiersWell("first1to a1;rest to a1;", 2);
        tiersWell("rest   to   a   1   +   b   1   ;", 1);
        tiersFault("restto a 1;", 0);
        tiersFault("rest toa 1;", 5);
        tiersFault("rest tob 1;", 5);
        tiersFault("rest t o a 1;", 5);
        tiersFault("res t to a 1;", 0);
        tiersFault("rest to a 1 1;", 12);
        tiersFault("rest to a 1a;", 11);
        tiersFault("firsts 1 to a 1;", 0);
        tiersFault("firs 1 to a 1;", 0);
        tiersFault("first 1 too a 1;", 8);
        tiersFault("zest to a 1;", 0);
        tiersFault("rezt to a 1;", 0);
        tiersFault("resz to a 1;", 0);
    }

    static void promise04_tiers_numbersOfAnyLength() {
        tiersWell("rest to a 0099;", 1);
        tiersWell("rest to a " + "0".repeat(300) + "1;", 1);
        tiersWell("first 000999999 to a 1;rest to a 1;", 2);
        tiersFault("rest to a 00100;", 10);
        tiersFault("rest to a 4294967297;", 10);
        tiersFault("rest to a 18446744073709551617;", 10);
        tiersFault("first 10000000 to a 1;", 6);
        tiersFault("first 99999999 to a 1;", 6);
        tiersFault("first 100000000 to a 1;", 6);
        tiersFault("first 2147483648 to a 1;", 6);
        tiersFault("first 4294967297 to a 1;", 6);
        tiersFault("first 1" + "0".repeat(300) + " to a 1;", 6);
    }

    /** "what is no TOKEN, too": the bytes a step ahead of and behind those that are. */
    static void promise04_tiers_whatIsNoToken() {
        tiersFault("rest to a 1" + (char) 31 + ";", 11);
        tiersFault("rest to a 1" + (char) 33 + ";", 11);
        tiersFault("rest to a 1" + (char) 9 + ";", 11);
        tiersFault("rest to a 1" + (char) 10 + ";", 11);
        tiersFault("rest to a 1*b 1;", 11);
        tiersFault("rest to a 1,b 1;", 11);
        tiersFault("rest to a 1-b 1;", 11);
        tiersFault("rest to a 1:", 11);
        tiersFault("rest to a 1<", 11);
        tiersFault("rest to a /;", 10);
        tiersFault("rest to a :;", 10);
        tiersFault("{est to a 1;", 0);
        tiersFault("res{ to a 1;", 0);
        tiersFault("rest{to a 1;", 4);
        tiersFault("rest`to a 1;", 4);
        tiersFault("Rest to a 1;", 0);
        tiersFault("rest to a 1" + (char) 160 + ";", 11);
        tiersFault("rest to " + (char) 225 + " 1;", 8);
        tiersFault("rest to a 1;" + (char) 255, 12);
    }

    static void promise04_tiers_digits0To9() {
        PartnerBooks x = new PartnerBooks();
        Check.same("tiers()", Check.tiers(x, "first 102938 to a 47;first 56 to a 90;rest to a 9;"), 3);
        Check.same("tier(0, 0)", x.tier(0, 0), 102938);
        Check.same("tier(0, 1)", x.tier(0, 1), 47);
        Check.same("tier(1, 0)", x.tier(1, 0), 56);
        Check.same("tier(1, 1)", x.tier(1, 1), 90);
        Check.same("tier(2, 1)", x.tier(2, 1), 9);
    }

    /** "the first TOKEN that can't stand there": an earlier one goes ahead of what is wrong later. */
    static void promise04_tiers_theFirstFaultOfMore() {
        tiersFault("rest to i 0;", 8);
        tiersFault("rest of a 0;!", 5);
        tiersFault("first 0 to i 0", 6);
        tiersFault("first 1 to a 1;rest to a 1+a 0;x", 27);
    }

    static void promise04_tiers_nothingIsReadTwice() {
        PartnerBooks x = new PartnerBooks();
        Check.same("tiers()", Check.tiers(x, "rest to c 4;"), 1);
        Check.same("tiers() again: the tape is empty", x.tiers(), 0);
        Check.same("tier(0, 3)", x.tier(0, 3), 1);
        Check.same("tiers() with a FAULT", Check.tiers(x, "rest to c 4"), NONE);
        Check.same("tiers() behind it: the tape is empty", x.tiers(), 0);
        Check.same("fault()", x.fault(), NONE);
    }

    // ---- 5: "The FAULT's place of the latest tiers(), specials(), acts(); NONE, if that was well, ahead of any."

    static void promise05_fault_aheadOfAny() {
        PartnerBooks x = new PartnerBooks();
        Check.same("fault()", x.fault(), NONE);
        x.feed(1, 2, 3, 4, 5);
        Check.same("fault() of a tape that was not read", x.fault(), NONE);
    }

    static void promise05_fault_atTheFirstByteAndAtTheLength() {
        PartnerBooks x = new PartnerBooks();
        Check.tiers(x, "x");
        Check.same("at the first byte", x.fault(), 0);
        Check.tiers(x, " x");
        Check.same("at the second byte", x.fault(), 1);
        Check.tiers(x, "rest" + blanks(395));
        Check.same("the length", x.fault(), 399);
        Check.tiers(x, "rest" + blanks(396));
        Check.same("the length of a full tape", x.fault(), 400);
    }

    static void promise05_fault_ofTheLatestOne() {
        PartnerBooks x = books(1);
        Check.tiers(x, "rest to x 1;");
        told(x, "fault()", 8, () -> x.fault());
        Check.specials(x, "give a x;");
        Check.same("fault() of specials()", x.fault(), 7);
        Check.acts(x, "earn x;");
        Check.same("fault() of acts()", x.fault(), 5);
        x.earn(1);
        x.back();
        x.feed(0, 0, 0, 0, 0);
        x.end(0);
        Check.same("fault() behind other calls", x.fault(), 5);
        Check.acts(x, "go a;");
        Check.same("fault() of acts() that were well, and refused", x.fault(), NONE);
        Check.tiers(x, "x");
        Check.specials(x, "");
        Check.same("fault() of specials() that were well", x.fault(), NONE);
        Check.acts(x, "x");
        Check.tiers(x, "rest to a 1;");
        Check.same("fault() of tiers() that were well", x.fault(), NONE);
    }

    // ---- 6: "Of TIER k (0 on): N (what 0; of LAST NONE), W of PARTNER a .. h (1 .. 8; 0: none). -2 for others."

    static void promise06_tier_ofEachPlace() {
        PartnerBooks x = new PartnerBooks();
        Check.tiers(x, "first 10 to a 2+h 3;first 20 to b 4;rest to h 5;");
        int[][] due = {{10, 2, 0, 0, 0, 0, 0, 0, 3}, {20, 0, 4, 0, 0, 0, 0, 0, 0}, {NONE, 0, 0, 0, 0, 0, 0, 0, 5}};
        for (int k = 0; k < due.length; k++) {
            for (int what = 0; what <= 8; what++) {
                int place = k;
                int asked = what;
                told(x, "tier(" + k + ", " + what + ")", due[k][what], () -> x.tier(place, asked));
            }
        }
    }

    static void promise06_tier_ofOthers() {
        PartnerBooks x = new PartnerBooks();
        Check.tiers(x, "first 10 to a 2+h 3;first 20 to b 4;rest to h 5;");
        for (int k : new int[] {MIN, -2, -1, 3, 4, 8, 9, MAX}) {
            Check.same("tier(" + k + ", 0)", x.tier(k, 0), -2);
            Check.same("tier(" + k + ", 1)", x.tier(k, 1), -2);
        }
        for (int what : new int[] {MIN, -2, -1, 9, 10, MAX}) {
            Check.same("tier(0, " + what + ")", x.tier(0, what), -2);
            Check.same("tier(2, " + what + ")", x.tier(2, what), -2);
        }
    }

    static void promise06_tier_atFirst() {
        PartnerBooks x = new PartnerBooks();
        Check.same("tier(0, 0)", x.tier(0, 0), NONE);
        for (int what = 1; what <= 8; what++) {
            Check.same("tier(0, " + what + ")", x.tier(0, what), 1);
        }
        Check.same("tier(0, 9)", x.tier(0, 9), -2);
        Check.same("tier(-1, 0)", x.tier(-1, 0), -2);
        Check.same("tier(1, 0)", x.tier(1, 0), -2);
        Check.same("tier(1, 1)", x.tier(1, 1), -2);
    }
}
