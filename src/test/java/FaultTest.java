import java.util.Random;

/** Promises 4, 5 and 30: random texts with faults, each beside a plain second reading. */
final class FaultTest {
    private static final String[] NAMES = {"a", "b", "c", "d", "e", "f", "g", "p", "q", "r", "s", "t", "u", "v", "abcdef",
        "abcdefg", "first", "held", "number", "mets"};
    private static final String[] NUMBERS = {"0", "1", "7", "99", "100", "101", "999", "1000", "9999", "10000", "0099", "00000"};
    private static final String[] BITS = {"held", "salt", "holder", "has", "wants", "purse", "values", "feud", "sister",
        "swaps", "pays", "fog", "gets", "gives", "met", "night", "number", "or", "and", "not", "all", "min", "max", "first",
        "last", "often", "total", "most", "least", "(", ")", "[", "]", "<", ">", "=", "+", "-", "*", "/", ",", ";", "#", "\u00e9",
        "\t", "A"};
    private static final String[] ASKS = {"first", "last", "often", "total", "most", "least"};

    private final Check c;
    private final Random r;
    private final int[] seen = new int[6];

    private FaultTest(Check c, int run) {
        this.c = c;
        r = new Random(run);
    }

    public static void main(String[] args) {
        Check c = new Check();
        FaultTest test = new FaultTest(c, 5);
        for (int run = 0; run < 12000; run++) {
            test.open(test.statements());
            test.open(test.marred(test.people()));
            test.ask(test.marred(test.question()));
        }
        for (int fault = 0; fault < test.seen.length; fault++) {
            c.due("often enough: fault " + fault, test.seen[fault] > 300, true);
        }
        c.finish();
    }

    private String one(String... all) {
        return all[r.nextInt(all.length)];
    }

    private boolean rarely() {
        return r.nextInt(40) == 0;
    }

    private String name(int from, int many) {
        return rarely() ? one(NAMES) : NAMES[from + r.nextInt(many)];
    }

    private String number(String most) {
        return r.nextInt(12) == 0 ? one(NUMBERS) : most;
    }

    private String gap() {
        return rarely() && r.nextInt(4) == 0 ? "" : one(" ", " ", "\n", "  ");
    }

    /** Statements whose names and numbers are now and then what they can't be. */
    private String statements() {
        StringBuilder text = new StringBuilder();
        int held = r.nextInt(5);
        int holders = r.nextInt(5);
        for (int k = 0; k < held; k++) {
            text.append(words("held", rarely() ? one(NAMES) : NAMES[k], "salt", number("99")));
        }
        for (int k = 0; k < holders && held > 0; k++) {
            text.append(words("holder", rarely() ? one(NAMES) : NAMES[7 + k], "has", rarely() ? one(NAMES) : NAMES[k % held],
                    "wants", name(0, held), "purse", number("999")));
        }
        for (int k = r.nextInt(r.nextInt(6) == 0 ? 90 : 9); k > 0; k--) {
            text.append(statement(Math.max(1, held), Math.max(1, holders)));
        }
        return cut(text.toString());
    }

    private String statement(int held, int holders) {
        int kind = r.nextInt(7);
        switch (kind) {
            case 0: return words("values", name(7, holders), name(0, held), number("99"));
            case 1: return words("feud", name(7, holders), name(7, holders));
            case 2: return words("sister", name(0, held), name(0, held));
            case 3: return words("swaps", Phrase.test(r, false, r.nextInt(3) - 2).text);
            case 4: return words("pays", Phrase.sum(r, false, r.nextInt(3) - 2).text);
            case 5: return words("held", one(NAMES), "salt", number("5"));
            default: return words("fog", number("100"));
        }
    }

    private String words(String... all) {
        StringBuilder text = new StringBuilder();
        for (String word : all) {
            text.append(rarely() && rarely() ? one(BITS) : word).append(gap());
        }
        return text.append(rarely() ? one(BITS) : ";").toString();
    }

    /** Six of each, many feuds: nearly too many of all kinds. */
    private String people() {
        int holders = 4 + r.nextInt(3);
        StringBuilder text = new StringBuilder(Told.people("abcdef".substring(0, holders)));
        text.append(Told.feuds(holders, 7 + r.nextInt(4)));
        for (int k = r.nextInt(3); k > 0; k--) {
            text.append(words("held", NAMES[r.nextInt(7)], "salt", "5"));
            text.append(words("holder", NAMES[7 + r.nextInt(7)], "has", NAMES[r.nextInt(7)], "wants", "a", "purse", "5"));
            text.append(words("feud", NAMES[7 + r.nextInt(holders)], NAMES[7 + r.nextInt(holders)]));
        }
        return text.toString();
    }

    private String question() {
        int open = r.nextInt(4) - 3;
        int word = r.nextInt(6);
        return ASKS[word] + " " + (word < 3 ? Phrase.test(r, true, open) : Phrase.sum(r, true, open)).text;
    }

    /** With a byte or a bit put in, taken out or put in its place; mostly. */
    private String marred(String text) {
        String marred = text;
        for (int k = r.nextInt(3); k > 0 && !marred.isEmpty(); k--) {
            int from = r.nextInt(marred.length());
            int to = Math.min(marred.length(), from + r.nextInt(3));
            String bit = r.nextInt(3) == 0 ? "" : r.nextInt(3) == 0 ? one(NUMBERS) : r.nextBoolean() ? one(BITS) : one(NAMES);
            marred = marred.substring(0, from) + bit + marred.substring(to);
        }
        return cut(r.nextInt(8) == 0 ? marred.substring(0, r.nextInt(marred.length() + 1)) : marred);
    }

    private static String cut(String text) {
        return text.substring(0, Math.min(1600, text.length()));
    }

    private void open(String text) {
        int due = -1;
        FaultModel.Fault fault = null;
        try {
            due = FaultModel.ofCase(text);
        } catch (FaultModel.Fault thrown) {
            fault = thrown;
        }
        WrongCook x = new WrongCook();
        c.due("open " + text, Check.open(x, text), due);
        told(x, text, fault);
    }

    private void ask(String text) {
        FaultModel.Fault fault = null;
        try {
            FaultModel.ofQuestion(text);
        } catch (FaultModel.Fault thrown) {
            fault = thrown;
        }
        WrongCook x = new WrongCook();
        c.due("ask " + text, Check.ask(x, text) == WrongCook.NOTHING, fault != null);
        told(x, text, fault);
    }

    private void told(WrongCook x, String text, FaultModel.Fault fault) {
        c.due("fault of " + text, x.fault(0), fault == null ? 0 : fault.kind);
        c.due("place of " + text, x.fault(1), fault == null ? -1 : fault.place);
        seen[fault == null ? 0 : fault.kind]++;
    }
}
