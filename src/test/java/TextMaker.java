import java.util.Random;

/** Makes texts for the tape: most of them well, some with a fault. */
final class TextMaker {
    private static final String BYTES = " ;+-*/<>az09(\t\u0000\u00ff";
    private static final String[] WORDS = {"first", "rest", "to", "give", "when", "capital", "share", "result", "close",
        "earn", "go", "come", "a", "h", "i", "ab", "0", "1", "99", "100", "999999", "1000000", "1000001", "00000001",
        "4294967297", "99999999999999999999", "+", "-", ";", "<", ">", "*", "/"};

    private final Random random;
    private final int scale;
    private final StringBuilder text = new StringBuilder();

    TextMaker(Random random, int scale) {
        this.random = random;
        this.scale = scale;
    }

    String tiers() {
        if (random.nextInt(8) != 0) {
            int firsts = random.nextInt(10) == 0 ? random.nextInt(11) : random.nextInt(4);
            for (int k = 0; k < firsts; k++) {
                put("first", number(1, scale), "to");
                gives();
            }
            put("rest", "to");
            gives();
        }
        return finished();
    }

    private void gives() {
        int bits = 1 + random.nextInt(255);
        if (random.nextInt(2) == 0) {
            bits = 1 << random.nextInt(8) | 1 << random.nextInt(8);
        }
        boolean isFirst = true;
        for (int p = 0; p < 8; p++) {
            int q = (p * 3 + bits) % 8;
            if ((bits >> q & 1) != 0) {
                put(isFirst ? "" : "+", letter(q), number(1, random.nextInt(3) == 0 ? 99 : 5));
                isFirst = false;
            }
        }
        put(";");
    }

    String specials() {
        int count = random.nextInt(10) == 0 ? random.nextInt(11) : random.nextInt(4);
        boolean isLong = random.nextInt(10) == 0;
        for (int k = 0; k < count; k++) {
            put("give", letter(random.nextInt(8)));
            sum(isLong);
            if (random.nextInt(2) == 0) {
                put("when");
                sum(isLong);
                put(random.nextBoolean() ? "<" : ">");
                sum(false);
            }
            put(";");
        }
        return finished();
    }

    private void sum(boolean isLong) {
        int things = isLong ? 1 + random.nextInt(18) : 1 + random.nextInt(3);
        for (int k = 0; k < things; k++) {
            if (k > 0) {
                put(String.valueOf("+-*/".charAt(random.nextInt(4))));
            }
            thing();
        }
    }

    private void thing() {
        switch (random.nextInt(10)) {
            case 0 -> put("result");
            case 1 -> put("cash");
            case 2 -> put("held");
            case 3 -> put("year");
            case 4 -> put("net");
            case 5 -> put("capital", letter(random.nextInt(8)));
            case 6 -> put("share", letter(random.nextInt(8)));
            default -> put(number(0, random.nextInt(4) == 0 ? 999999 : 20));
        }
    }

    String acts() {
        int count = random.nextInt(10) == 0 ? random.nextInt(40) : random.nextInt(8);
        for (int k = 0; k < count; k++) {
            act();
            put(";");
        }
        return finished();
    }

    private void act() {
        String asset = number(0, random.nextInt(30) == 0 ? 8 : 7);
        String partner = letter(random.nextInt(random.nextInt(30) == 0 ? 9 : 8));
        String sum = number(0, random.nextInt(40) == 0 ? 2000000 : scale);
        switch (random.nextInt(14)) {
            case 0, 1 -> put("close");
            case 2 -> put("earn", sum);
            case 3 -> put("earn", "-", sum);
            case 4 -> put("lose", asset, sum);
            case 5 -> put("borrow", asset, sum);
            case 6 -> put("repay", asset, sum);
            case 7 -> put("market", asset, sum);
            case 8 -> put("pay", partner, sum);
            case 9 -> put("draw", partner, sum);
            case 10, 11 -> put("come", partner, sum);
            case 12 -> put("go", partner);
            default -> put("pay", "a", number(1, scale));
        }
    }

    private String number(int least, int most) {
        String digits = String.valueOf(least + random.nextInt(Math.max(1, most - least + 1)));
        return random.nextInt(20) == 0 ? "000" + digits : digits;
    }

    private static String letter(int p) {
        return String.valueOf((char) ('a' + p));
    }

    private void put(String... tokens) {
        for (String token : tokens) {
            boolean joins = text.length() > 0 && !token.isEmpty() && isRow(text.charAt(text.length() - 1))
                && isRow(token.charAt(0))
                && Character.isDigit(token.charAt(0)) == Character.isDigit(text.charAt(text.length() - 1));
            if (joins && random.nextInt(300) != 0 || random.nextInt(6) == 0) {
                text.append(random.nextInt(8) == 0 ? "  " : " ");
            }
            text.append(token);
        }
    }

    private static boolean isRow(char c) {
        return c >= 'a' && c <= 'z' || c >= '0' && c <= '9';
    }

    private String finished() {
        if (random.nextInt(4) == 0) {
            spoil();
        }
        if (random.nextInt(10) == 0) {
            text.append("  ");
        }
        if (text.length() > 400) {
            text.setLength(400);
        }
        return text.toString();
    }

    private void spoil() {
        int at = random.nextInt(text.length() + 1);
        switch (random.nextInt(4)) {
            case 0 -> text.setLength(at);
            case 1 -> text.insert(at, BYTES.charAt(random.nextInt(BYTES.length())));
            case 2 -> text.insert(at, " " + WORDS[random.nextInt(WORDS.length)] + " ");
            default -> {
                if (at < text.length()) {
                    text.deleteCharAt(at);
                }
            }
        }
    }
}
