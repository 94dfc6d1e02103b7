/** Counts answers that are as due and prints those that are not. */
final class Check {
    private static int passed;
    private static int failed;
    private static String part = "";

    private Check() {
    }

    static void part(String name) {
        part = name;
    }

    static void same(String call, long got, long due) {
        if (got == due) {
            passed++;
        } else {
            failed++;
            System.out.println(part + ": " + call + " answered " + got + ", due is " + due);
        }
    }

    static void yes(String what, boolean holds) {
        same(what, holds ? 1 : 0, 1);
    }

    static void no(String what, boolean holds) {
        same(what, holds ? 1 : 0, 0);
    }

    static void finish(String name) {
        System.out.println(name + ": " + passed + " answers as due, " + failed + " not");
        if (failed != 0 || passed == 0) {
            System.exit(1);
        }
    }

    /** Puts a text on the tape, and nothing else. */
    static void tape(PartnerBooks x, String text) {
        x.end(0);
        for (int at = 0; at < text.length(); at += 20) {
            int[] words = new int[5];
            for (int k = 0; k < 20; k++) {
                int c = at + k < text.length() ? text.charAt(at + k) & 255 : 0;
                words[k / 4] |= c << (24 - 8 * (k % 4));
            }
            x.feed(words[0], words[1], words[2], words[3], words[4]);
        }
        x.end(text.length());
    }

    static int tiers(PartnerBooks x, String text) {
        tape(x, text);
        return x.tiers();
    }

    static int specials(PartnerBooks x, String text) {
        tape(x, text);
        return x.specials();
    }

    static int acts(PartnerBooks x, String text) {
        tape(x, text);
        return x.acts();
    }

    static String written(PartnerBooks x) {
        int length = x.write();
        StringBuilder text = new StringBuilder();
        for (int k = 0; k < length; k++) {
            text.append((char) x.octet(k));
        }
        return text.toString();
    }
}
