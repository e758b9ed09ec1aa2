/** At the boundaries of questions (section IV, promise 30). A ^ marks a fault's place. */
final class EdgeAskTest {
    private static final String CASE = "held a salt 10;held b salt 20;held c salt 99;held d salt 0;"
            + "holder p has b wants b purse 9;holder q has a wants b purse 0;holder r has d wants a purse 999;"
            + "values p b 3;values p a 50;values q a 4;values r c 99;values r d 98;";

    public static void main(String[] args) {
        Check c = new Check();
        first(c);
        last(c);
        often(c);
        total(c);
        mostAndLeast(c);
        withoutHolders(c);
        parts(c);
        metOfNumber(c);
        answersOnly(c);
        unknownWords(c);
        behind(c);
        asInCases(c);
        longest(c);
        c.finish();
    }

    /** The fault, its place, that nothing is refused and all else stays. */
    static void fault(Check c, int fault, String marked) {
        WrongCook x = Told.used();
        String before = Told.state(x);
        c.due(marked, Check.ask(x, Told.unmarked(marked)), -1000000000000000L);
        c.due("fault of " + marked, x.fault(0), fault);
        c.due("place of " + marked, x.fault(1), marked.indexOf('^'));
        c.due("all stays behind " + marked, Told.state(x), before);
        c.due("nothing refused: " + marked, Told.refusals(x), "0 0 0 0 0 0 ");
    }

    private static void answer(Check c, WrongCook x, String text, long due) {
        c.due(text, Check.ask(x, text), due);
        c.due("no fault of " + text, x.fault(0), 0);
        c.due("no place of " + text, x.fault(1), -1);
    }

    private static void first(Check c) {
        c.by("first TEST, last TEST (the first, the last HOLDER for whom it holds)");
        WrongCook x = Check.opened(CASE);
        answer(c, x, "first all", 0);
        answer(c, x, "first not wants=1", 1);
        answer(c, x, "first purse>9", 2);
        c.by("NONE of first, last, when its TEST holds for none;");
        answer(c, x, "first purse>999", -1);
        answer(c, x, "first not all", -1);
    }

    private static void last(Check c) {
        c.by("first TEST, last TEST (the first, the last HOLDER for whom it holds)");
        WrongCook x = Check.opened(CASE);
        answer(c, x, "last all", 2);
        answer(c, x, "last purse<999", 1);
        answer(c, x, "last wants=1", 0);
        c.by("NONE of first, last, when its TEST holds for none;");
        answer(c, x, "last purse>999", -1);
        answer(c, x, "last not all", -1);
    }

    private static void often(Check c) {
        c.by("often TEST (for how many)");
        WrongCook x = Check.opened(CASE);
        answer(c, x, "often not all", 0);
        answer(c, x, "often wants=1", 1);
        answer(c, x, "often purse<10", 2);
        answer(c, x, "often all", 3);
        answer(c, Check.opened(Told.people("abcdef")), "often all", 6);
    }

    private static void total(Check c) {
        c.by("total SUM (of all together, not held)");
        WrongCook six = Check.opened(Told.people("abcdef"));
        answer(c, six, "total 1000*1000", 6000000);
        answer(c, six, "total 9999*9999", 6000000);
        answer(c, six, "total 0-9999*9999", -6000000);
        answer(c, six, "total 0", 0);
        answer(c, six, "total number", 15);
        answer(c, six, "total number-1", 9);
        WrongCook two = Check.opened(Told.people("ab"));
        answer(c, two, "total 1000*999+999", 1999998);
        answer(c, two, "total number*(9999*9999)", 1000000);
    }

    private static void mostAndLeast(Check c) {
        c.by("most SUM, least SUM (the greatest, the least of all; 0 without HOLDERS).");
        WrongCook x = Check.opened(CASE);
        answer(c, x, "most purse", 999);
        answer(c, x, "least purse", 0);
        answer(c, x, "most salt", 20);
        answer(c, x, "least salt+5", 5);
        answer(c, x, "most 0-purse-1", -1);
        answer(c, x, "least 0-purse", -999);
        answer(c, x, "most 0-salt-7", -7);
        answer(c, x, "least 7", 7);
        answer(c, x, "most 0-7", -7);
        answer(c, x, "most 9999*9999", 1000000);
        answer(c, x, "least 0-9999*9999", -1000000);
        WrongCook one = Check.opened(Told.people("a"));
        answer(c, one, "most 0-3", -3);
        answer(c, one, "least 3", 3);
    }

    private static void withoutHolders(Check c) {
        c.by("(the greatest, the least of all; 0 without HOLDERS).");
        WrongCook[] both = {new WrongCook(), Check.opened(Told.helds(3))};
        for (WrongCook x : both) {
            answer(c, x, "most 5", 0);
            answer(c, x, "least 5", 0);
            answer(c, x, "most 0-5", 0);
            answer(c, x, "least 0-5", 0);
            answer(c, x, "total 5", 0);
            answer(c, x, "often all", 0);
            answer(c, x, "first all", -1);
            answer(c, x, "last all", -1);
        }
    }

    private static void parts(Check c) {
        c.by("(His number, what he values whom he has, 1 if he wants her, else 0, her salt;"
                + " how often he MET the HOLDER of that number, 0 of those that there are not.)");
        WrongCook x = Check.opened(CASE);
        x.nights(100);
        Check.open(x, CASE);
        String[] words = {"number", "gives", "wants", "salt", "purse", "night"};
        int[][] due = {{0, 1, 2}, {3, 4, 98}, {1, 0, 0}, {20, 10, 0}, {9, 0, 999}, {0, 0, 0}};
        for (int k = 0; k < words.length; k++) {
            for (int holder = 0; holder < 3; holder++) {
                answer(c, x, "total max(0,1-(number-" + holder + ")*(number-" + holder + "))*" + words[k], due[k][holder]);
            }
        }
        Check.resume(x, Told.sealed(39, 15, 0, 0, 39, 15, 0, 0, 0, 1, 1, 0, 0, 0, 0, 0, 2, 2, 0, 0, 0, 0, 0, 0));
        answer(c, x, "most night", 9999);
        answer(c, x, "most purse", 9999);
    }

    private static void metOfNumber(Check c) {
        c.by("how often he MET the HOLDER of that number, 0 of those that there are not.)");
        WrongCook x = Check.opened(Told.people("abc"));
        Check.resume(x, Told.sealed(0, 0, 0, 0, 0, 5, 0, 1, 2, 1, 1, 0, 5, 30, 0, 40, 2, 2, 0, 5, 50, 99, 0, 0));
        answer(c, x, "total met 0", 80);
        answer(c, x, "total met 1", 100);
        answer(c, x, "total met 2", 42);
        answer(c, x, "total met 3", 0);
        answer(c, x, "total met 4", 0);
        answer(c, x, "total met 5", 0);
        answer(c, x, "total met 6", 0);
        answer(c, x, "total met 7", 0);
        answer(c, x, "total met 9999", 0);
        answer(c, x, "total met (0-1)", 0);
        answer(c, x, "total met (0-9999*9999)", 0);
        answer(c, x, "total met (9999*9999)", 0);
        answer(c, x, "total met number", 0);
        answer(c, x, "most met 1", 99);
        answer(c, x, "first met 0=30", 1);
        answer(c, x, "total met met 1", 1 + 30 + 0);
        answer(c, x, "total met 1*met 2", 2);
        answer(c, x, "total met (1)+1", 103);
        WrongCook six = Check.opened(Told.people("abcdef"));
        Check.ring(six, 5, 0);
        Check.ring(six, 5, 0);
        answer(c, six, "total met 5", 2);
        answer(c, six, "total met 6", 0);
        answer(c, six, "last met 0>1", 5);
        Check.open(six, Told.people("abc"));
        answer(c, six, "total met 5+met 0", 0);
    }

    private static void answersOnly(Check c) {
        c.by("its answer; NONE of first, last, when its TEST holds for none; NOTHING with a FAULT.");
        WrongCook x = Told.used();
        String before = Told.state(x);
        answer(c, x, "often all", 3);
        answer(c, x, " \n often\nall \n", 3);
        c.due("all stays", Told.state(x), before);
        c.due("nothing refused", Told.refusals(x), "0 0 0 0 0 0 ");
        fault(c, 1, "^");
        fault(c, 1, " \n^");
    }

    private static void unknownWords(Check c) {
        c.by("1 as in I (an unknown word at its first byte; what stands behind it, too)");
        fault(c, 1, "^frst all");
        fault(c, 1, "^firsts all");
        fault(c, 1, "^abcdefgh all");
        fault(c, 1, "^held a salt 1;");
        fault(c, 1, "^5");
        fault(c, 1, "^all");
        fault(c, 1, "often ^foo=1");
        fault(c, 1, "often ^abcdefgh=1");
        fault(c, 1, "often ^p=1");
        fault(c, 1, "often ^first=1");
        fault(c, 1, "often ^numbers=1");
        fault(c, 1, "often ^al");
        fault(c, 1, "often 1=night^2");
        fault(c, 1, "often 1=^nigh");
        fault(c, 1, "total ^totals");
    }

    private static void behind(Check c) {
        c.by("1 as in I (an unknown word at its first byte; what stands behind it, too)");
        fault(c, 1, "often all^;");
        fault(c, 1, "often all ^all");
        fault(c, 1, "often all ^often all");
        fault(c, 1, "often all \n ^5");
        fault(c, 1, "often all^]");
        fault(c, 1, "often all ^foo");
        fault(c, 1, "total 5^;");
        fault(c, 1, "total 5 ^5");
        fault(c, 1, "total 5^<6");
        fault(c, 1, "total 5^)");
        fault(c, 1, "total 5 ^and 6");
        fault(c, 1, "total 5^x");
        fault(c, 1, "total number^5");
        fault(c, 1, "total 5^#");
        fault(c, 1, "total (5)^(6)");
    }

    private static void asInCases(Check c) {
        c.by("Its FAULTS: 1 as in I");
        fault(c, 1, "total 1234^5");
        fault(c, 1, "often 1=0000^0");
        fault(c, 1, "first^");
        fault(c, 1, "first not^");
        fault(c, 1, "first 5^");
        fault(c, 1, "first 5=^");
        fault(c, 1, "first all or^");
        fault(c, 1, "total (5^");
        fault(c, 1, "total min(5,^");
        fault(c, 1, "total met (5^");
        fault(c, 1, "total^5");
        fault(c, 1, "^firstall");
        fault(c, 1, "^\tfirst all");
        fault(c, 1, "first^\u00a0all");
        fault(c, 1, "total ^all");
        fault(c, 1, "often 5=^all");
        fault(c, 1, "^First all");
    }

    private static void longest(Check c) {
        c.by("NONE, refused (0), if there would be more than 1600.");
        WrongCook x = Check.opened(Told.people("a"));
        answer(c, x, "total " + "1+".repeat(796) + "11", 807);
        answer(c, x, "total " + "1*".repeat(796) + "77", 77);
        answer(c, x, "often" + " ".repeat(1592) + "all", 1);
        answer(c, x, "often all" + "\n".repeat(1591), 1);
        answer(c, x, "often all" + " and all".repeat(198), 1);
        fault(c, 1, "total " + "1+".repeat(797) + "^");
    }
}
