import java.util.Random;
import java.util.function.ToLongFunction;

/** A random TEST or SUM: its text, and its worth by facts, reckoned without a parser. */
final class Phrase {
    static final String[] OF_CASE = {"gets", "gives", "wants", "salt", "met", "purse", "night"};
    static final String[] OF_QUESTION = {"number", "gives", "wants", "salt", "purse", "night"};

    /** What a word is worth, and in questions what met is worth of a number. */
    interface Facts {
        long of(String word);

        long metWith(long number);
    }

    final String text;
    final ToLongFunction<Facts> worth;

    private Phrase(String text, ToLongFunction<Facts> worth) {
        this.text = text;
        this.worth = worth;
    }

    private static long limited(long number) {
        return Math.max(-1000000, Math.min(1000000, number));
    }

    private static String gap(Random r) {
        return r.nextInt(4) > 0 ? "" : r.nextBoolean() ? " " : "\n ";
    }

    static Phrase test(Random r, boolean question, int open) {
        Phrase all = both(r, question, open);
        for (int k = r.nextInt(5); k > 3; k--) {
            Phrase left = all;
            Phrase right = both(r, question, open);
            all = new Phrase(left.text + " or " + right.text,
                    f -> left.worth.applyAsLong(f) + right.worth.applyAsLong(f) > 0 ? 1 : 0);
        }
        return all;
    }

    private static Phrase both(Random r, boolean question, int open) {
        Phrase all = fact(r, question, open);
        for (int k = r.nextInt(4); k > 2; k--) {
            Phrase left = all;
            Phrase right = fact(r, question, open);
            all = new Phrase(left.text + " and " + right.text,
                    f -> left.worth.applyAsLong(f) * right.worth.applyAsLong(f));
        }
        return all;
    }

    private static Phrase fact(Random r, boolean question, int open) {
        int kind = r.nextInt(8);
        if (kind == 0 && open < 6) {
            Phrase in = fact(r, question, open + 1);
            return new Phrase("not " + in.text, f -> in.worth.applyAsLong(f) == 0 ? 1 : 0);
        }
        if (kind == 1 && open < 6) {
            Phrase in = test(r, question, open + 1);
            return new Phrase("[" + gap(r) + in.text + gap(r) + "]", in.worth);
        }
        if (kind == 2) {
            return new Phrase("all", f -> 1);
        }
        Phrase a = sum(r, question, open);
        Phrase b = sum(r, question, open);
        char sign = "<>=".charAt(r.nextInt(3));
        return new Phrase(a.text + gap(r) + sign + gap(r) + b.text, f -> {
            int order = Long.compare(a.worth.applyAsLong(f), b.worth.applyAsLong(f));
            return order == (sign == '<' ? -1 : sign == '>' ? 1 : 0) ? 1 : 0;
        });
    }

    static Phrase sum(Random r, boolean question, int open) {
        Phrase all = product(r, question, open);
        for (int k = r.nextInt(5); k > 2; k--) {
            Phrase left = all;
            Phrase right = product(r, question, open);
            boolean plus = r.nextBoolean();
            all = new Phrase(left.text + gap(r) + (plus ? "+" : "-") + gap(r) + right.text,
                    f -> limited(left.worth.applyAsLong(f) + (plus ? 1 : -1) * right.worth.applyAsLong(f)));
        }
        return all;
    }

    private static Phrase product(Random r, boolean question, int open) {
        Phrase all = part(r, question, open);
        for (int k = r.nextInt(5); k > 2; k--) {
            Phrase left = all;
            Phrase right = part(r, question, open);
            boolean times = r.nextBoolean();
            all = new Phrase(left.text + gap(r) + (times ? "*" : "/") + gap(r) + right.text, f -> {
                long a = left.worth.applyAsLong(f);
                long b = right.worth.applyAsLong(f);
                if (times) {
                    return limited(a * b);
                }
                return b == 0 ? 0 : (long) Math.floor((double) a / b);
            });
        }
        return all;
    }

    private static Phrase part(Random r, boolean question, int open) {
        int kind = r.nextInt(7);
        if (kind == 0 && open < 6) {
            Phrase in = sum(r, question, open + 1);
            return new Phrase("(" + gap(r) + in.text + gap(r) + ")", in.worth);
        }
        if (kind == 1 && open < 6) {
            Phrase a = sum(r, question, open + 1);
            Phrase b = sum(r, question, open + 1);
            boolean min = r.nextBoolean();
            return new Phrase((min ? "min" : "max") + gap(r) + "(" + a.text + gap(r) + "," + b.text + ")", f -> {
                long x = a.worth.applyAsLong(f);
                long y = b.worth.applyAsLong(f);
                return min == x < y ? x : y;
            });
        }
        if (kind == 2 && question && open < 6) {
            Phrase in = part(r, true, open + 1);
            return new Phrase("met " + in.text, f -> f.metWith(in.worth.applyAsLong(f)));
        }
        if (kind < 5) {
            String[] words = question ? OF_QUESTION : OF_CASE;
            String word = words[r.nextInt(words.length)];
            return new Phrase(word, f -> f.of(word));
        }
        int number = r.nextInt(3) == 0 ? r.nextInt(10000) : r.nextInt(8);
        return new Phrase(String.valueOf(number), f -> number);
    }
}
