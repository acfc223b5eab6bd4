import java.util.Random;

/** Random texts of ledges, right ones and others. */
final class Ledges {
    private final Random random;

    Ledges(Random random) {
        this.random = random;
    }

    /** A right one most times, of 100 bytes at most. */
    String ledge() {
        int clauses = 1 + random.nextInt(5);
        StringBuilder text = new StringBuilder();
        for (int i = 0; i < clauses; i++) {
            String clause = clause();
            if (text.length() + clause.length() < 99) {
                text.append(text.length() == 0 ? "" : ";").append(clause);
            }
        }
        return text.toString();
    }

    /** One that may be wrong in a place or two, or cut off. */
    String any() {
        StringBuilder text = new StringBuilder(random.nextInt(6) == 0 ? many() : ledge());
        int wrongs = random.nextInt(3);
        for (int i = 0; i < wrongs && text.length() > 0; i++) {
            int at = random.nextInt(text.length());
            char sign = "klpd;|&!()pkvfct<=>0123456789 ".charAt(random.nextInt(30));
            switch (random.nextInt(4)) {
                case 0: text.setCharAt(at, sign); break;
                case 1: text.insert(at, sign); break;
                case 2: text.deleteCharAt(at); break;
                default: text.setLength(at + 1); break;
            }
        }
        return text.toString();
    }

    private String many() {
        StringBuilder text = new StringBuilder();
        int clauses = 8 + random.nextInt(5);
        for (int i = 0; i < clauses; i++) {
            text.append(i == 0 ? "" : ";").append(random.nextBoolean() ? "keep " : "pass ").append(random.nextInt(12));
        }
        return text.toString();
    }

    private String clause() {
        int kind = random.nextInt(6);
        if (kind == 0) {
            return "keep " + random.nextInt(random.nextInt(4) == 0 ? 100 : 9);
        }
        if (kind == 1) {
            return "pass " + random.nextInt(random.nextInt(4) == 0 ? 100 : 12);
        }
        return (kind < 4 ? "loud " : "dull ") + random.nextInt(random.nextInt(8) == 0 ? 100 : 12) + " " + either(0);
    }

    private String either(int open) {
        return random.nextInt(3) == 0 ? both(open) + "|" + either(open) : both(open);
    }

    private String both(int open) {
        return random.nextInt(3) == 0 ? part(open) + "&" + both(open) : part(open);
    }

    private String part(int open) {
        int kind = random.nextInt(open > 5 ? 1 : 8);
        if (kind == 1) {
            return "!" + part(open + 1);
        }
        if (kind == 2) {
            return "(" + either(open + 1) + ")";
        }
        char letter = "pkvfct".charAt(random.nextInt(6));
        return "" + letter + "<=>".charAt(random.nextInt(3)) + random.nextInt(random.nextInt(9) == 0 ? 100 : 10);
    }
}
