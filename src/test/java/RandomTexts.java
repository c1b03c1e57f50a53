import java.util.Random;

/** Texts of timbers that grew in one wood, so that they can be dated; and texts with faults. */
final class RandomTexts {
    private RandomTexts() {
    }

    static String yard(Random random) {
        int[] climate = new int[60];
        for (int i = 0; i < climate.length; i++) {
            climate[i] = 2 + random.nextInt(random.nextBoolean() ? 97 : 9);
        }
        StringBuilder text = new StringBuilder();
        settings(text, random);
        int timbers = random.nextInt(9);
        int longest = random.nextBoolean() ? 24 : 8;
        for (int t = 0; t < timbers; t++) {
            timber(text, random, climate, 3 + random.nextInt(longest - 2));
        }
        int base = random.nextInt(8) == 0 ? random.nextInt(10) : random.nextInt(8) == 0 ? 870 + random.nextInt(31) : 100;
        for (int t = 0; t < timbers; t++) {
            if (random.nextInt(3) == 0) {
                text.append("known ").append(t).append(' ').append(Math.min(900, base + random.nextInt(30))).append(";");
            }
            if (random.nextInt(3) == 0) {
                text.append("house ").append(t).append(' ').append(random.nextInt(4)).append(";\n");
            }
        }
        return text.length() > 900 ? yard(random) : text.toString();
    }

    private static void settings(StringBuilder text, Random random) {
        if (random.nextInt(4) != 0) {
            text.append("lap ").append(3 + random.nextInt(random.nextInt(4) == 0 ? 22 : 5)).append(';');
        }
        if (random.nextInt(4) != 0) {
            text.append("bound ").append(50 + random.nextInt(random.nextInt(3) == 0 ? 51 : 20)).append(" ;");
        }
        if (random.nextInt(4) != 0) {
            text.append("margin ").append(random.nextInt(random.nextInt(4) == 0 ? 51 : 7)).append(';');
        }
    }

    private static void timber(StringBuilder text, Random random, int[] climate, int rings) {
        int least = random.nextInt(12);
        text.append("timber ").append(least).append(' ').append(least + random.nextInt(6));
        int from = random.nextInt(climate.length - rings - 2);
        int noise = random.nextInt(4);
        for (int r = 0; r < rings; r++) {
            if (random.nextInt(15) == 0) {
                from++;
            }
            int width = climate[from + r >= climate.length ? climate.length - 1 : from + r];
            width += noise == 0 ? 0 : random.nextInt(noise * 2 + 1) - noise;
            text.append(' ').append(Math.max(1, Math.min(99, width)));
            if (random.nextInt(12) == 0) {
                text.append('?');
            }
        }
        text.append(';');
    }

    /** A text with one thing or two put wrong, perhaps. */
    static String spoilt(Random random) {
        StringBuilder text = new StringBuilder(yard(random));
        String[] bits = {"timber", "bound 60;", "lap 4;", "margin 0;", "known 0 5;", "house 1 2;", "known 8 1;", "house 0 4;",
            "?", ";", " ", "\n", "0", "1000", "0001", "99", "100", "x", "A", "\t", "timber 3 2 5 5 5;", "timber 0 31",
            "timber 0 0 1 2;", "timber 0 0 1 1 1;", "known 0 901;", "\u00ff", "\u0000", "lap", "bound", "known", "house"};
        for (int k = random.nextInt(3); k >= 0; k--) {
            int at = random.nextInt(text.length() + 1);
            switch (random.nextInt(4)) {
                case 0 -> text.setLength(at);
                case 1 -> text.delete(at, Math.min(text.length(), at + 1 + random.nextInt(3)));
                case 2 -> {
                    int clause = text.indexOf(";", at) + 1;
                    text.insert(clause, bits[random.nextInt(bits.length)]);
                }
                default -> text.insert(at, bits[random.nextInt(bits.length)]);
            }
        }
        if (text.length() > 900) {
            text.setLength(900);
        }
        return text.toString();
    }
}
