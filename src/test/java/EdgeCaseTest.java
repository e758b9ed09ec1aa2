/** At the boundaries of a CASE's statements, names, blanks and faults (section I, promise 4). A ^ marks a fault's place. */
final class EdgeCaseTest {
    private static final String AB = "held a salt 1;held b salt 2;";
    private static final String PQ = AB + "holder p has a wants b purse 5;holder q has b wants a purse 6;";
    private static final String FOGS = "fog 5;".repeat(80);
    private static final String[] OWN = {"held", "salt", "holder", "has", "wants", "purse", "values", "feud", "sister",
        "swaps", "pays", "fog", "gets", "gives", "met", "night", "number", "or", "and", "not", "all", "min", "max"};

    public static void main(String[] args) {
        Check c = new Check();
        statements(c);
        statementTooMany(c);
        salts(c);
        sixHeld(c);
        purses(c);
        hasAndWants(c);
        sixHolders(c);
        valuesBounds(c);
        valuesLast(c);
        feudsBounds(c);
        feudsTen(c);
        sisters(c);
        oneEach(c);
        fogs(c);
        nameLengths(c);
        ownWords(c);
        unlikeNames(c);
        toldAhead(c);
        blanks(c);
        sideBySide(c);
        wholeWords(c);
        nameAsked(c);
        numberAsked(c);
        endsTooSoon(c);
        semicolonsTooSoon(c);
        numberThatCannotBe(c);
        nameThatCannotBe(c);
        firstAlong(c);
        longest(c);
        staying(c);
        asAtFirst(c);
        c.finish();
    }

    static void fine(Check c, String text, int statements) {
        WrongCook x = new WrongCook();
        c.due("open " + text, Check.open(x, text), statements);
        c.due("no fault of " + text, x.fault(0), 0);
        c.due("no place of " + text, x.fault(1), -1);
        c.due("not refused: " + text, x.status(1), 0);
    }

    /** The fault, its place, the refusal, and that all else stays. */
    static void fault(Check c, int fault, String marked) {
        WrongCook x = Told.used();
        String before = Told.state(x);
        c.due("open " + marked, Check.open(x, Told.unmarked(marked)), -1);
        c.due("fault of " + marked, x.fault(0), fault);
        c.due("place of " + marked, x.fault(1), marked.indexOf('^'));
        c.due("all stays behind " + marked, Told.state(x), before);
        c.due("refusals behind " + marked, Told.refusals(x), "0 1 0 0 0 0 ");
    }

    private static void statements(Check c) {
        c.by("A CASE is a text: { STATEMENT ; } (80 at most)");
        fine(c, "", 0);
        fine(c, " ", 0);
        fine(c, "fog 5;", 1);
        fine(c, "fog 5;fog 6;", 2);
        fine(c, "fog 5;".repeat(79), 79);
        fine(c, FOGS, 80);
        fine(c, FOGS + " \n \n", 80);
        fault(c, 5, FOGS + "^fog 5;");
        fault(c, 1, "^;");
        fault(c, 1, "fog 5;^;");
        fault(c, 1, "fog 5^");
        fault(c, 1, "fog 5 ^fog 5;");
        fault(c, 1, "fog 5^,fog 5;");
    }

    private static void statementTooMany(Check c) {
        c.by("an 81st STATEMENT (whatever stands there), at its first byte.");
        fault(c, 5, FOGS + "^fog");
        fault(c, 5, FOGS + "\n  ^fog 5;");
        fault(c, 5, FOGS + "^;");
        fault(c, 5, FOGS + " ^#");
        fault(c, 5, FOGS + "^5");
        fault(c, 5, FOGS + "^abcdefgh");
        fault(c, 5, FOGS + "^\u00ff");
        fault(c, 5, FOGS + "^held held");
        fault(c, 5, FOGS + "^fog 5;fog 5;");
        fault(c, 1, "fog 5;".repeat(79) + "^#");
        fault(c, 1, "fog 5;".repeat(79) + "fog 5^");
    }

    private static void salts(Check c) {
        c.by("held NAME salt N (0 .. 99; 6 HELD)");
        int[] good = {0, 1, 98, 99};
        for (int salt : good) {
            c.due("salt " + salt, Check.opened("held a salt " + salt + ";").held(0, 0), salt);
        }
        c.due("salt 0099", Check.opened("held a salt 0099;").held(0, 0), 99);
        c.due("salt 0000", Check.opened("held a salt 0000;").held(0, 0), 0);
        fault(c, 2, "held a salt ^100;");
        fault(c, 2, "held a salt ^101;");
        fault(c, 2, "held a salt ^0100;");
        fault(c, 2, "held a salt ^9999;");
        fault(c, 1, "held a salt ^-1;");
    }

    private static void sixHeld(Check c) {
        c.by("held NAME salt N (0 .. 99; 6 HELD)");
        for (int many = 0; many <= 6; many++) {
            fine(c, Told.helds(many), many);
            c.due("so many held", Check.opened(Told.helds(many)).has(0), many);
        }
        fault(c, 5, Told.helds(6) + "^held g salt 1;");
        fault(c, 5, Told.helds(6) + "fog 5; ^held a");
        fault(c, 5, Told.helds(6) + "^held");
        fault(c, 5, Told.helds(6) + "^held ; held g salt 1;");
    }

    private static void purses(Check c) {
        c.by("0 .. 999 coins; 6 HOLDERS)");
        int[] good = {0, 1, 998, 999};
        for (int purse : good) {
            c.due("purse " + purse, Check.opened(Told.helds(1) + Told.holders("a", purse)).holder(0, 2), purse);
        }
        fault(c, 2, AB + "holder p has a wants b purse ^1000;");
        fault(c, 2, AB + "holder p has a wants b purse ^9999;");
        fault(c, 1, AB + "holder p has a wants b purse 1000^0;");
        fault(c, 1, AB + "holder p has a wants b purse ^-1;");
    }

    private static void hasAndWants(Check c) {
        c.by("two HELD, the first one held by nobody yet;");
        WrongCook x = Check.opened(AB + "held c salt 3;holder p has b wants b purse 5;holder q has a wants b purse 5;");
        c.due("the same one twice", x.holder(0, 0) * 10 + x.holder(0, 1), 11);
        c.due("one that is wanted and held already is wanted", x.holder(1, 0) * 10 + x.holder(1, 1), 1);
        c.due("whom nobody has is wanted", Check.opened(AB + "holder p has b wants a purse 5;").holder(0, 1), 0);
        fault(c, 3, PQ + "holder r has ^a wants b purse 5;");
        fault(c, 3, PQ + "holder r has ^b wants b purse 5;");
        fault(c, 3, AB + "holder p has a wants b purse 5;holder q has ^a");
        fault(c, 3, AB + "holder p has ^c wants a purse 5;");
        fault(c, 3, AB + "holder p has a wants ^c purse 5;");
        fault(c, 3, AB + "holder p has ^p wants a purse 5;");
        fault(c, 3, AB + "holder p has a wants ^p purse 5;");
        fault(c, 3, AB + "holder p has a wants b purse 5;holder q has ^p wants a purse 5;");
        fault(c, 3, AB + "holder p has a wants b purse 5;holder q has b wants ^p purse 5;");
    }

    private static void sixHolders(Check c) {
        c.by("0 .. 999 coins; 6 HOLDERS)");
        for (int many = 0; many <= 6; many++) {
            String text = Told.helds(6) + Told.holders("abcdef".substring(0, many), 5);
            fine(c, text, 6 + many);
            c.due("so many holders", Check.opened(text).has(1), many);
        }
        fault(c, 5, Told.people("abcdef") + "^holder v has a wants a purse 5;");
        fault(c, 5, Told.people("abcdef") + " ^holder p");
        fault(c, 5, Told.people("abcdef") + "^holder");
    }

    private static void valuesBounds(Check c) {
        c.by("values NAME NAME N (a HOLDER, a HELD, 0 .. 99; the last one of these two counts; 0 without)");
        int[] good = {0, 1, 98, 99};
        for (int value : good) {
            c.due("value " + value, Check.opened(PQ + "values q a " + value + ";").values(1, 0), value);
        }
        fault(c, 2, PQ + "values q a ^100;");
        fault(c, 2, PQ + "values q a ^0100;");
        fault(c, 2, PQ + "values q a ^9999;");
        fault(c, 1, PQ + "values q a 1000^0;");
        fault(c, 3, PQ + "values ^a q 5;");
        fault(c, 3, PQ + "values ^a a 5;");
        fault(c, 3, PQ + "values q ^q 5;");
        fault(c, 3, PQ + "values q ^c 5;");
        fault(c, 3, PQ + "values ^r a 5;");
    }

    private static void valuesLast(Check c) {
        c.by("the last one of these two counts; 0 without");
        WrongCook x = Check.opened(PQ + "values p a 7;values p b 8;values q a 9;values p a 99;values p a 3;values q a 0;");
        c.due("the last one", x.values(0, 0), 3);
        c.due("the only one", x.values(0, 1), 8);
        c.due("the last one, 0", x.values(1, 0), 0);
        c.due("without", x.values(1, 1), 0);
    }

    private static void feudsBounds(Check c) {
        c.by("feud NAME NAME (two unlike HOLDERS, not told already, either way round; 10 FEUDS)");
        WrongCook x = Check.opened(PQ + "feud q p;");
        c.due("of the one", x.holder(0, 4), 2);
        c.due("of the other", x.holder(1, 4), 1);
        fault(c, 3, PQ + "feud p ^p;");
        fault(c, 3, PQ + "feud q ^q;");
        fault(c, 3, PQ + "feud p q;feud p ^q;");
        fault(c, 3, PQ + "feud p q;feud q ^p;");
        fault(c, 3, PQ + "feud p q;feud p ^p;");
        fault(c, 3, PQ + "feud ^a q;");
        fault(c, 3, PQ + "feud p ^a;");
        fault(c, 3, PQ + "feud ^r q;");
        fault(c, 3, PQ + "feud p ^r;");
        String three = Told.people("abc");
        fine(c, three + "feud p q;feud q r;feud r p;", 9);
    }

    private static void feudsTen(Check c) {
        c.by("not told already, either way round; 10 FEUDS)");
        String six = Told.people("abcdef");
        fine(c, six + Told.feuds(6, 9), 21);
        fine(c, six + Told.feuds(6, 10), 22);
        c.due("ten of them", Check.opened(six + Told.feuds(6, 10)).has(2), 10);
        fault(c, 5, six + Told.feuds(6, 10) + "^feud s t;");
        fault(c, 5, six + Told.feuds(6, 10) + "^feud p q;");
        fault(c, 5, six + Told.feuds(6, 10) + " ^feud x");
        fault(c, 3, six + Told.feuds(6, 9) + "feud p ^q;");
    }

    private static void sisters(Check c) {
        c.by("sister NAME NAME (a HELD, another one: she would be with; the first one has none so far)");
        WrongCook x = Check.opened(Told.people("abc") + "sister a c;sister b c;sister c a;");
        c.due("a's", x.held(0, 2), 2);
        c.due("b's, the same one", x.held(1, 2), 2);
        c.due("c's, either way round", x.held(2, 2), 0);
        c.due("only of the first one", Check.opened(AB + "sister a b;").held(1, 2), -1);
        fault(c, 3, AB + "sister a ^a;");
        fault(c, 3, AB + "sister a b;sister ^a b;");
        fault(c, 3, AB + "held c salt 1;sister a b;sister ^a c;");
        fault(c, 3, AB + "sister a b;sister ^a ;");
        fault(c, 3, AB + "sister ^c a;");
        fault(c, 3, AB + "sister a ^c;");
        fault(c, 3, PQ + "sister ^p a;");
        fault(c, 3, PQ + "sister a ^p;");
    }

    private static void oneEach(Check c) {
        c.by("swaps TEST, pays SUM (one each)");
        fine(c, "swaps all;pays 1;", 2);
        fine(c, "pays 1;fog 1;swaps all;", 3);
        fault(c, 5, "swaps all;^swaps all;");
        fault(c, 5, "pays 1;^pays 1;");
        fault(c, 5, "swaps all;pays 1; ^swaps");
        fault(c, 5, "swaps all;pays 1;^pays ;");
        c.by("5 one too many of a kind (a second swaps, pays, too)");
        fault(c, 5, "pays 1;swaps all;fog 1;^pays x");
    }

    private static void fogs(Check c) {
        c.by("fog N (0 .. 100; the last one counts, 0 without).");
        int[] good = {0, 1, 99, 100};
        for (int fog : good) {
            c.due("fog " + fog, Check.opened("fog " + fog + ";").has(3), fog);
        }
        fault(c, 2, "fog ^101;");
        fault(c, 2, "fog ^0101;");
        fault(c, 2, "fog ^9999;");
        c.due("the last one", Check.opened("fog 100;fog 7;fog 30;").has(3), 30);
        c.due("the last one, 0", Check.opened("fog 100;fog 0;").has(3), 0);
        c.due("without", Check.opened("swaps all;").has(3), 0);
    }

    private static void nameLengths(Check c) {
        c.by("NAMES: 1 to 6 letters");
        fine(c, "held x salt 1;", 1);
        fine(c, "held abcde salt 1;", 1);
        fine(c, "held abcdef salt 1;", 1);
        fault(c, 1, "held abcdef^g salt 1;");
        fault(c, 1, "held abcdef^gh salt 1;");
        fault(c, 1, "held ^; salt 1;");
        fault(c, 1, "held ^Abc salt 1;");
        fault(c, 1, "held a^Bc salt 1;");
        fault(c, 1, "held ^_ salt 1;");
        fault(c, 1, "held ^{ salt 1;");
        fault(c, 1, "held ^` salt 1;");
        fault(c, 1, "held ^\u00e9 salt 1;");
        fine(c, "held z salt 1;held az salt 1;", 2);
    }

    private static void ownWords(Check c) {
        c.by("no OWN WORD, unlike ones (of all sorts)");
        for (String word : OWN) {
            fault(c, 1, "held ^" + word + " salt 1;");
            fault(c, 1, AB + "holder ^" + word + " has a wants b purse 1;");
            fault(c, 1, AB + "holder p has ^" + word + " wants b purse 1;");
            fault(c, 1, AB + "sister a ^" + word + ";");
            String longer = word + "x";
            if (longer.length() <= 6) {
                fine(c, "held " + longer + " salt 1;", 1);
            } else {
                fault(c, 1, "held " + longer.substring(0, 6) + "^x salt 1;");
            }
            String shorter = word.substring(0, word.length() - 1);
            boolean own = java.util.Arrays.asList(OWN).contains(shorter);
            if (!own) {
                fine(c, "held " + shorter + " salt 1;", 1);
            }
        }
        String[] none = {"first", "last", "often", "total", "most", "least", "fault", "open"};
        for (String word : none) {
            fine(c, "held " + word + " salt 1;held a salt 1;sister a " + word + ";", 3);
        }
    }

    private static void unlikeNames(Check c) {
        c.by("unlike ones (of all sorts)");
        fault(c, 3, "held a salt 1;held ^a salt 2;");
        fault(c, 3, "held abcdef salt 1;held ^abcdef salt 2;");
        fault(c, 3, AB + "holder ^a has b wants b purse 5;");
        fault(c, 3, AB + "holder ^b has b wants b purse 5;");
        fault(c, 3, AB + "holder p has a wants b purse 5;holder ^p has b wants b purse 5;");
        fault(c, 3, AB + "holder p has a wants b purse 5;held ^p salt 1;");
        fine(c, "held a salt 1;held aa salt 1;held ab salt 1;held aaa salt 1;held ba salt 1;held aaaaaa salt 1;", 6);
        fine(c, "held abcdef salt 1;held abcdeg salt 1;held bbcdef salt 1;held abcde salt 1;held abddef salt 1;", 5);
    }

    private static void toldAhead(Check c) {
        c.by("told ahead of where they are asked.");
        fault(c, 3, "holder p has ^a wants a purse 1;held a salt 1;");
        fault(c, 3, "held a salt 1;holder p has a wants ^b purse 1;held b salt 1;");
        fault(c, 3, AB + "values ^p a 1;holder p has a wants b purse 1;");
        fault(c, 3, AB + "holder p has a wants b purse 1;feud p ^q;holder q has b wants b purse 1;");
        fault(c, 3, "held a salt 1;sister a ^b;held b salt 1;");
        fault(c, 3, "held a salt 1;sister ^b a;held b salt 1;");
    }

    private static void blanks(Check c) {
        c.by("Blanks (10, 32) are where one likes");
        fine(c, "\n held\n\na   salt \n 1 \n;\n\n fog  7 ; ", 2);
        fine(c, "swaps[ gets<1 or\nnot[all ] ] ;pays ( 1 ) * min ( 2 , 3 ) ;", 2);
        int[] none = {0, 1, 8, 9, 11, 12, 13, 14, 31, 33, 127, 128, 133, 138, 160, 255};
        for (int octet : none) {
            fault(c, 1, "^" + (char) octet + "fog 5;");
            fault(c, 1, "fog^" + (char) octet + "5;");
            fault(c, 1, "fog 5;^" + (char) octet);
        }
    }

    private static void sideBySide(Check c) {
        c.by("(words and numbers side by side need one)");
        fine(c, "swaps[all]or(1)=1;pays(1)+min(2,3)*gets;", 2);
        fault(c, 1, "fog^5;");
        fault(c, 1, "held a salt^5;");
        fault(c, 1, "held a^5 salt 1;");
        fault(c, 1, "swaps 1=1^or all;");
        fault(c, 1, "swaps all and^1=1;");
        fault(c, 1, "swaps not^1=1;");
        fault(c, 1, "swaps gets^1=1;");
        fault(c, 1, "swaps 1^gets=1;");
        fault(c, 1, "pays 1234^5;");
        fault(c, 1, "^fogfog 5;");
        fault(c, 1, "swaps all ^orall;");
        fine(c, "swaps 1=1 or all;", 1);
        fine(c, "swaps[1=1]and[1=1];", 1);
    }

    private static void wholeWords(Check c) {
        c.by("1 the first byte with which no such text goes on (words and numbers whole, at their first byte;");
        fault(c, 1, "^x;");
        fault(c, 1, "^hel");
        fault(c, 1, "^heldx a salt 1;");
        fault(c, 1, "^number;");
        fault(c, 1, "^first all;");
        fault(c, 1, "^all;");
        fault(c, 1, "^5;");
        fault(c, 1, "^12345;");
        fault(c, 1, "^abcdefg;");
        fault(c, 1, "held a ^salts 1;");
        fault(c, 1, "held a ^sal 1;");
        fault(c, 1, "held a ^saltsalt 1;");
        fault(c, 1, "held a ^12345");
        fault(c, 1, "held a salt 5 ^12345;");
        fault(c, 1, "held a salt ^abcdefg;");
        fault(c, 1, "held a salt ^salt;");
        fault(c, 1, AB + "holder p ^hass a wants b purse 1;");
        fault(c, 1, AB + "holder p has a ^want b purse 1;");
        fault(c, 1, AB + "holder p has a wants b ^purses 1;");
        fault(c, 1, "fog 5^#");
        fault(c, 1, "fog ^#");
        fault(c, 1, "^\u0000");
    }

    private static void nameAsked(Check c) {
        c.by("where a NAME is asked, an OWN WORD so, a 7th letter at itself;");
        fault(c, 1, "held ^salt 1;");
        fault(c, 1, "held ^held");
        fault(c, 1, "held salts^;");
        fault(c, 1, "held abcdef^g");
        fault(c, 1, "held holder^s salt 1;");
        fault(c, 1, "held number^number salt 1;");
        fault(c, 1, AB + "holder pppppp^p has a wants b purse 1;");
        fault(c, 1, AB + "holder p has aaaaaa^a wants b purse 1;");
        fault(c, 1, AB + "holder p has a wants aaaaaa^a purse 1;");
        fault(c, 1, PQ + "values pppppp^p a 1;");
        fault(c, 1, PQ + "values p aaaaaa^a 1;");
        fault(c, 1, PQ + "feud pppppp^p q;");
        fault(c, 1, PQ + "feud p qqqqqq^q;");
        fault(c, 1, PQ + "sister aaaaaa^a b;");
        fault(c, 1, PQ + "sister a bbbbbb^b;");
        fault(c, 1, "held ^5 salt 1;");
        fault(c, 1, "held ^12345 salt 1;");
        fault(c, 1, "held ^; salt 1;");
    }

    private static void numberAsked(Check c) {
        c.by("where a number is asked, a 5th digit at itself;");
        fault(c, 1, "held a salt 0000^0;");
        fault(c, 1, "held a salt 1234^5;");
        fault(c, 1, "held a salt 0012^345678901234567890;");
        fault(c, 1, AB + "holder p has a wants b purse 0000^1;");
        fault(c, 1, PQ + "values p a 0000^1;");
        fault(c, 1, "fog 0001^0;");
        fault(c, 1, "pays 9999^9;");
        fault(c, 1, "pays 1+0000^0;");
        fault(c, 1, "swaps 1234^5<1;");
        fault(c, 1, "swaps 1<1234^5;");
        fine(c, "pays 9999;", 1);
        fine(c, "pays 0000;", 1);
        fine(c, "held a salt 0001;", 1);
    }

    /** Beginnings of statements that can't end yet. */
    private static String[] begun() {
        String whole = "held a salt 1;held b salt 2;holder p has a wants b purse 5;";
        return new String[] {"held", "held a", "held a salt", whole + "holder", whole + "holder q",
            whole + "holder q has", whole + "holder q has b", whole + "holder q has b wants",
            whole + "holder q has b wants a", whole + "holder q has b wants a purse", whole + "values",
            whole + "values p", whole + "values p a", whole + "feud", whole + "feud p", whole + "sister",
            whole + "sister a", "swaps", "swaps not", "swaps all or", "swaps all and", "swaps [", "swaps [all",
            "swaps 1", "swaps 1<", "swaps 1=", "swaps 1>", "pays", "pays (", "pays (1", "pays 1+", "pays 1-",
            "pays 1*", "pays 1/", "pays min", "pays min(", "pays min(1", "pays min(1,", "pays max(1,2", "fog"};
    }

    private static void semicolonsTooSoon(Check c) {
        c.by("1 the first byte with which no such text goes on");
        for (String part : begun()) {
            fault(c, 1, part + "^;");
            fault(c, 1, part + "\n ^;fog 5;");
        }
    }

    private static void endsTooSoon(Check c) {
        c.by("at the text's length, if it ends too soon)");
        for (String part : begun()) {
            fault(c, 1, part + "^");
            fault(c, 1, part + " \n^");
        }
        String[] whole = {"held a salt 1", AB + "holder q has b wants a purse 1", PQ + "values p a 1", PQ + "feud p q",
            PQ + "sister a b", "swaps all", "swaps [all]", "swaps 1<1", "pays 1", "pays (1)", "pays max(1,2)", "fog 5"};
        for (String text : whole) {
            fault(c, 1, text + "^");
            fault(c, 1, text + " \n^");
            c.due("with a semicolon: " + text, Check.open(new WrongCook(), text + ";") > 0, true);
        }
        WrongCook x = new WrongCook();
        Check.tape(x, "fog 5;held a salt 1;");
        x.end(12);
        c.due("cut off by end", x.open(), -1);
        c.due("at its length", x.fault(1), 12);
    }

    private static void numberThatCannotBe(Check c) {
        c.by("2 a number that can't be, at it;");
        fault(c, 2, "held a salt ^100");
        fault(c, 2, "held a salt ^100#");
        fault(c, 2, "held a salt \n ^100;");
        fault(c, 2, "fog ^101 fog");
        fault(c, 2, AB + "holder p has a wants b purse ^1000");
        fault(c, 2, PQ + "values p a ^100");
        fine(c, "pays 9999;swaps 9999<9999;", 2);
    }

    private static void nameThatCannotBe(Check c) {
        c.by("3 a NAME to be given that is there already, one that is none of what is asked, or can't be"
                + " (one held already, the same one at its second place, a FEUD told already at its second NAME,"
                + " one who has a sister), at it;");
        fault(c, 3, AB + "held ^b");
        fault(c, 3, AB + "holder ^a");
        fault(c, 3, AB + "holder p has ^x");
        fault(c, 3, AB + "holder p has a wants ^x");
        fault(c, 3, PQ + "holder r has ^a");
        fault(c, 3, PQ + "values ^x");
        fault(c, 3, PQ + "values p ^x");
        fault(c, 3, PQ + "feud p ^p");
        fault(c, 3, PQ + "feud p q;feud p ^q");
        fault(c, 3, PQ + "feud p q;feud q ^p");
        fault(c, 3, PQ + "sister a b;sister ^a");
        fault(c, 3, PQ + "sister a ^a");
    }

    private static void firstAlong(Check c) {
        c.by("FAULTS, the first along the text:");
        fault(c, 1, "^x a salt 100;held a salt 100;");
        fault(c, 2, "held a salt ^100;held a salt 100;#");
        fault(c, 3, "held a salt 1;held ^a salt 100;");
        fault(c, 3, "held a salt 1;held ^a sal");
        fault(c, 3, "held a salt 1;sister ^b 5;");
        fault(c, 4, "pays ((((((^((1))))))#;");
        fault(c, 1, "pays ((((((^#");
        fault(c, 5, "swaps all;^swaps #;");
        fault(c, 1, "swaps all;^#swaps");
        fault(c, 2, "held a salt ^100#;");
    }

    private static void longest(Check c) {
        c.by("NONE, refused (0), if there would be more than 1600.");
        String blanks = " ".repeat(1594);
        fine(c, "fog 5;" + blanks, 1);
        fine(c, blanks + "fog 5;", 1);
        fault(c, 1, "fog 5" + blanks + " ^");
        fault(c, 1, blanks + "fog 5^#");
        // 5 bytes and 797 times 2 and 1 more are 1600: there is no room for its semicolon.
        fault(c, 1, "pays " + "1+".repeat(797) + "1^");
        fine(c, "pays " + "1+".repeat(796) + "11;", 1);
    }

    private static void staying(Check c) {
        c.by("NONE, refused (1), with a FAULT (all stays).");
        WrongCook x = Told.used();
        x.seed(77);
        String before = Told.state(x);
        c.due("at the very end", Check.open(x, "held x salt 1;held y salt 2;fog 30;pays 5;swaps not all"), -1);
        c.due("all stays", Told.state(x), before);
        c.due("refused", Told.refusals(x), "0 1 0 0 0 0 ");
        x.nights(1);
        WrongCook y = Told.used();
        y.seed(77);
        y.nights(1);
        c.due("formulas, fog and the seed, too", Told.state(x), Told.state(y));
        c.due("acts, too", x.undo() && x.undo() && x.undo() && x.undo(), true);
        c.due("as many as were", x.undo(), false);
    }

    private static void asAtFirst(Check c) {
        c.by("Without one all is as at first, nothing is KEPT, NOTED or can be undone; the seed stays.");
        WrongCook x = Told.used();
        x.seed(5);
        String text = Told.people("ba") + "fog 3;";
        c.due("statements", Check.open(x, text), 5);
        c.due("nothing can be undone", x.undo(), false);
        x.image();
        WrongCook y = Check.opened(text);
        y.image();
        c.due("as at first", Told.state(x), Told.state(y));
        y.seed(5);
        x.nights(30);
        y.nights(30);
        c.due("the seed stays", Told.state(x), Told.state(y));
        c.due("the same text again", Check.open(x, text), 5);
        x.image();
        WrongCook z = Check.opened(text);
        z.image();
        c.due("as at first again", Told.state(x), Told.state(z));
        x.open();
        x.image();
        WrongCook none = new WrongCook();
        none.image();
        c.due("an empty one", Told.state(x), Told.state(none));
    }
}
