import java.util.ArrayList;
import java.util.HashMap;
import java.util.HashSet;
import java.util.List;
import java.util.Map;
import java.util.Set;

/** A second, plain reading of the FAULTS: statements by their patterns, the first fault thrown. */
final class FaultModel {
    private static final Set<String> OWN = Set.of("held", "salt", "holder", "has", "wants", "purse", "values", "feud",
            "sister", "swaps", "pays", "fog", "gets", "gives", "met", "night", "number", "or", "and", "not", "all", "min", "max");
    private static final Set<String> OF_CASE = Set.of("gets", "gives", "wants", "salt", "met", "purse", "night");
    private static final Set<String> OF_QUESTION = Set.of("number", "gives", "wants", "salt", "purse", "night");
    // A name: + a new one, h a held, u a held that nobody has yet, s a held without a sister, t another held than
    // the name ahead, o a holder, f another holder who has no feud with the name ahead. A number: its limit.
    private static final Map<String, String> PATTERNS = Map.of("held", "+ salt 99", "holder", "+ has u wants h purse 999",
            "values", "o h 99", "feud", "o f", "sister", "s t", "fog", "100");
    private static final Map<String, Integer> MOST = Map.of("held", 6, "holder", 6, "feud", 10, "swaps", 1, "pays", 1);

    static final class Fault extends RuntimeException {
        private static final long serialVersionUID = 1L;
        final int kind;
        final int place;

        Fault(int kind, int place) {
            this.kind = kind;
            this.place = place;
        }
    }

    private final String text;
    private final boolean question;
    private int from = 0;
    private int to = 0;
    private String token = "";
    private int open = 0;
    private final List<String> helds = new ArrayList<>();
    private final List<String> holders = new ArrayList<>();
    private final Set<String> had = new HashSet<>();
    private final Set<String> sistered = new HashSet<>();
    private final Set<String> feuds = new HashSet<>();
    private final Map<String, Integer> told = new HashMap<>();

    private FaultModel(String text, boolean question) {
        this.text = text;
        this.question = question;
        go();
    }

    /** How many statements. */
    static int ofCase(String text) {
        FaultModel m = new FaultModel(text, false);
        int many = 0;
        for (; !m.token.isEmpty(); many++) {
            if (many == 80) {
                throw new Fault(5, m.from);
            }
            m.statement();
            m.need(";");
        }
        return many;
    }

    static void ofQuestion(String text) {
        FaultModel m = new FaultModel(text, true);
        if (m.isOneOf("first", "last", "often")) {
            m.go();
            m.test();
        } else if (m.isOneOf("total", "most", "least")) {
            m.go();
            m.sum();
        } else {
            throw new Fault(1, m.from);
        }
        if (!m.token.isEmpty()) {
            throw new Fault(1, m.from);
        }
    }

    private static boolean isWord(String token) {
        return token.matches("[a-z]+");
    }

    private static boolean isNumber(String token) {
        return token.matches("[0-9]+");
    }

    /** On to the next token; one that lacks its blank is made one that fits nowhere. */
    private void go() {
        boolean needsBlank = isWord(token) || isNumber(token);
        int end = to;
        from = to;
        while (from < text.length() && (text.charAt(from) == 32 || text.charAt(from) == 10)) {
            from++;
        }
        to = from;
        while (to < text.length() && text.substring(from, to + 1).matches("[a-z]+|[0-9]+|.|\n")) {
            to++;
        }
        to = from < text.length() ? Math.max(to, from + 1) : from;
        token = text.substring(from, to);
        if (needsBlank && from == end && (isWord(token) || isNumber(token))) {
            token = "?" + token;
        }
    }

    private boolean isOneOf(String... all) {
        return List.of(all).contains(token);
    }

    private void need(String wanted) {
        if (!token.equals(wanted)) {
            throw new Fault(1, from);
        }
        go();
    }

    private void statement() {
        String kind = token;
        if (!PATTERNS.containsKey(kind) && !MOST.containsKey(kind)) {
            throw new Fault(1, from);
        }
        if (told.merge(kind, 1, Integer::sum) > MOST.getOrDefault(kind, 80)) {
            throw new Fault(5, from);
        }
        go();
        if (kind.equals("swaps")) {
            test();
        } else if (kind.equals("pays")) {
            sum();
        } else {
            pattern(kind);
        }
    }

    private void pattern(String kind) {
        List<String> names = new ArrayList<>();
        for (String part : PATTERNS.get(kind).split(" ")) {
            if (isNumber(part)) {
                number(Integer.parseInt(part));
            } else if (part.length() > 1) {
                need(part);
            } else {
                names.add(name(part, names.isEmpty() ? "" : names.get(names.size() - 1)));
            }
        }
        switch (kind) {
            case "held": helds.add(names.get(0)); break;
            case "holder": holders.add(names.get(0)); had.add(names.get(1)); break;
            case "sister": sistered.add(names.get(0)); break;
            case "feud": feuds.add(names.get(0) + " " + names.get(1)); feuds.add(names.get(1) + " " + names.get(0)); break;
            default: break;
        }
    }

    private String name(String sort, String ahead) {
        if (!isWord(token) || OWN.contains(token)) {
            throw new Fault(1, from);
        }
        if (token.length() > 6) {
            throw new Fault(1, from + 6);
        }
        boolean held = helds.contains(token);
        boolean holder = holders.contains(token);
        boolean good;
        switch (sort) {
            case "+": good = !held && !holder; break;
            case "u": good = held && !had.contains(token); break;
            case "s": good = held && !sistered.contains(token); break;
            case "t": good = held && !token.equals(ahead); break;
            case "o": good = holder; break;
            case "f": good = holder && !token.equals(ahead) && !feuds.contains(ahead + " " + token); break;
            default: good = held; break;
        }
        if (!good) {
            throw new Fault(3, from);
        }
        String name = token;
        go();
        return name;
    }

    private void number(int most) {
        if (!isNumber(token)) {
            throw new Fault(1, from);
        }
        if (token.length() > 4) {
            throw new Fault(1, from + 4);
        }
        if (Integer.parseInt(token) > most) {
            throw new Fault(2, from);
        }
        go();
    }

    private void opened() {
        open++;
        if (open == 7) {
            throw new Fault(4, from);
        }
        go();
    }

    private void test() {
        do {
            both();
        } while (also("or"));
    }

    private void both() {
        do {
            fact();
        } while (also("and"));
    }

    private void sum() {
        do {
            product();
        } while (also("+", "-"));
    }

    private void product() {
        do {
            part();
        } while (also("*", "/"));
    }

    private boolean also(String... all) {
        boolean so = isOneOf(all);
        if (so) {
            go();
        }
        return so;
    }

    private void fact() {
        if (isOneOf("all")) {
            go();
        } else if (isOneOf("not")) {
            opened();
            fact();
            open--;
        } else if (isOneOf("[")) {
            opened();
            test();
            need("]");
            open--;
        } else {
            sum();
            if (!also("<", ">", "=")) {
                throw new Fault(1, from);
            }
            sum();
        }
    }

    private void part() {
        if (isNumber(token)) {
            number(9999);
        } else if (isOneOf("(")) {
            opened();
            sum();
            need(")");
            open--;
        } else if (also("min", "max")) {
            if (!isOneOf("(")) {
                throw new Fault(1, from);
            }
            opened();
            sum();
            need(",");
            sum();
            need(")");
            open--;
        } else if (question && isOneOf("met")) {
            opened();
            part();
            open--;
        } else if ((question ? OF_QUESTION : OF_CASE).contains(token)) {
            go();
        } else {
            throw new Fault(1, from);
        }
    }
}
