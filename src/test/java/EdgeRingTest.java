/** At the boundaries of rings that are judged and tried (section II, promises 13, 14, 25). */
final class EdgeRingTest {
    public static void main(String[] args) {
        Check c = new Check();
        atFirst(c);
        sizes(c);
        unlike(c);
        gives(c);
        nextToEachOther(c);
        firstThatIsSo(c);
        swapsByTheRow(c);
        paysUpTo(c);
        morePay(c);
        aheadOfIt(c);
        coinsAtMost(c);
        metAtMost(c);
        judgeAnswers(c);
        judgedLatest(c);
        judgedOther(c);
        ringIsAct(c);
        ringRefused(c);
        c.finish();
    }

    private static void atFirst(Check c) {
        c.by("It is NIGHT 0 at first; nobody has MET anyone.");
        WrongCook x = Check.opened(Told.people("abcdef"));
        c.due("night", x.has(4), 0);
        for (int one = 0; one < 6; one++) {
            for (int other = 0; other < 6; other++) {
                c.due("met " + one + " " + other, one == other || x.met(one, other) == 0, true);
            }
        }
    }

    private static void sizes(Check c) {
        c.by("A RING is a row of 2 to 6 HOLDERS, unlike ones:");
        WrongCook x = Check.opened(Told.people("abcdef"));
        int[][] rows = {{}, {0}, {0, 1}, {0, 1, 2}, {5, 4, 3, 2}, {0, 2, 4, 1, 3}, {5, 0, 4, 1, 3, 2}, {0, 1, 2, 3, 4, 5, 0},
            {0, 1, 2, 3, 4, 5, 6}};
        for (int[] row : rows) {
            boolean good = row.length >= 2 && row.length <= 6;
            c.due("judge " + row.length, Check.judge(x, row), good ? 0 : -1);
            c.due("ring " + row.length, Check.ring(x, row), good ? 0 : -1);
        }
        c.due("kept", x.has(8), 5);
        for (int k = 0; k < 5; k++) {
            c.due("its holders " + k, x.kept(k, 2), k + 2);
        }
        c.due("refused", Told.refusals(x), "0 4 4 0 0 0 ");
        WrongCook one = Check.opened(Told.people("a"));
        c.due("of one holder alone", Check.judge(one, 0), -1);
        c.due("with nobody", Check.judge(one, 0, 1), -1);
        WrongCook two = Check.opened(Told.people("ab"));
        c.due("the last holder", Check.judge(two, 1, 0), 0);
        c.due("one more", Check.judge(two, 1, 2), -1);
        c.due("one more ahead", Check.judge(two, 2, 1), -1);
        c.due("far more", Check.judge(two, 0, 255), -1);
        c.due("far more ahead", Check.judge(two, 128, 0), -1);
        c.due("six of two", Check.judge(two, 0, 1, 2, 3, 4, 5), -1);
    }

    private static void unlike(Check c) {
        c.by("A RING is a row of 2 to 6 HOLDERS, unlike ones:");
        WrongCook x = Check.opened(Told.people("abcdef"));
        int[][] rows = {{0, 0}, {5, 5}, {0, 1, 0}, {0, 1, 1}, {1, 1, 0}, {0, 1, 2, 3, 4, 0}, {0, 1, 2, 3, 4, 4}, {3, 4, 5, 3}};
        for (int[] row : rows) {
            c.due("judge", Check.judge(x, row), -1);
            c.due("ring", Check.ring(x, row), -1);
        }
        c.due("no act", x.has(10), 0);
        c.due("none kept", x.has(8), 0);
    }

    private static void gives(Check c) {
        c.by("each gives whom he has to the next one of the row, the last one to the first; each one MEETS who gives to him.");
        WrongCook x = Check.opened(Told.people("abcdef"));
        Check.ring(x, 4, 0, 2);
        int[] has = {4, 1, 0, 3, 2, 5};
        for (int holder = 0; holder < 6; holder++) {
            c.due("has " + holder, x.holder(holder, 0), has[holder]);
            for (int other = 0; other < 6; other++) {
                boolean met = holder == 0 && other == 4 || holder == 2 && other == 0 || holder == 4 && other == 2;
                c.due("met " + holder + " " + other, x.met(holder, other), met ? 1 : 0);
            }
        }
        WrongCook y = Check.opened(Told.people("abcdef"));
        Check.ring(y, 0, 1, 2, 3, 4, 5);
        for (int holder = 0; holder < 6; holder++) {
            int giver = (holder + 5) % 6;
            c.due("of six has " + holder, y.holder(holder, 0), giver);
            c.due("of six met " + holder, y.met(holder, giver), 1);
            c.due("who has whom " + holder, y.held(giver, 1), holder);
        }
        WrongCook two = Check.opened(Told.people("ab"));
        Check.ring(two, 1, 0);
        c.due("two", two.holder(0, 0) * 10 + two.holder(1, 0), 10);
        c.due("both met", two.met(0, 1) * 10 + two.met(1, 0), 11);
    }

    private static void nextToEachOther(Check c) {
        c.by("two HOLDERS next to each other in it (the last and the first, too) have a FEUD (1)");
        WrongCook x = Check.opened(Told.people("abcd") + "feud r p;");
        int[][] rows = {{0, 2}, {2, 0}, {0, 2, 1}, {1, 0, 2}, {2, 1, 0}, {0, 1, 2}, {0, 1, 3, 2}, {2, 3, 1, 0}, {1, 2, 0, 3}};
        int[] gives = {0, 2, 0, 0, 0, 2, 2, 0, 2};
        for (int k = 0; k < rows.length; k++) {
            c.due("feud " + k, Check.judge(x, rows[k]), 1);
            c.due("who would give " + k, x.judged(0), gives[k]);
        }
        c.due("not next to each other", Check.judge(x, 0, 1, 2, 3), 0);
        c.due("nor the other way round", Check.judge(x, 3, 2, 1, 0), 0);
        c.due("by nobody", x.judged(0), -1);
        c.due("not in it", Check.judge(x, 0, 1, 3), 0);
        WrongCook two = Check.opened(Told.people("abcd") + "feud p q;feud r s;");
        c.due("two feuds", Check.judge(two, 1, 2, 3, 0), 1);
        c.due("the first of them by the row", two.judged(0), 2);
        Check.judge(two, 3, 0, 1, 2);
        c.due("another row", two.judged(0), 0);
    }

    private static void firstThatIsSo(Check c) {
        c.by("It COMES ABOUT, unless (the first that is so tells why)");
        // The last of the row has the feud, the middle one does not swap, the first can't pay.
        String people = "held a salt 1;held b salt 2;held c salt 3;holder p has a wants a purse 0;holder q has b wants b purse 9;"
                + "holder r has c wants c purse 9;";
        String swaps = "swaps not salt=1;";
        String pays = "pays 1;";
        c.due("feud ahead of all", Check.judge(Check.opened(people + swaps + pays + "feud r p;"), 0, 1, 2), 1);
        c.due("feud ahead of swap", Check.judge(Check.opened(people + swaps + "feud r p;"), 0, 1, 2), 1);
        c.due("feud ahead of pay", Check.judge(Check.opened(people + pays + "feud r p;"), 0, 1, 2), 1);
        WrongCook x = Check.opened(people + swaps + pays);
        c.due("swap ahead of pay", Check.judge(x, 0, 1, 2), 2);
        c.due("who does not", x.judged(0), 1);
        WrongCook y = Check.opened(people + pays);
        c.due("pay", Check.judge(y, 0, 1, 2), 3);
        c.due("who can't", y.judged(0), 0);
        c.due("tried: feud", Check.ring(Check.opened(people + swaps + pays + "feud r p;"), 0, 1, 2), 1);
        c.due("tried: swap", Check.ring(x, 0, 1, 2), 2);
        c.due("tried: pay", Check.ring(y, 0, 1, 2), 3);
        c.due("tried: it comes about", Check.ring(Check.opened(people), 0, 1, 2), 0);
    }

    private static void swapsByTheRow(Check c) {
        c.by("a HOLDER, by the row, does not SWAP (2): the TEST of swaps does not hold (without it all do);");
        WrongCook none = Check.opened(Told.people("abc") + "swaps not all;");
        c.due("nobody swaps", Check.judge(none, 2, 0, 1), 2);
        c.due("the first of the row", none.judged(0), 2);
        WrongCook one = Check.opened(Told.people("bab") + "swaps wants=1;");
        c.due("who wants", Check.judge(one, 0, 1), 0);
        c.due("the third does not", Check.judge(one, 0, 1, 2), 2);
        c.due("the first one then, who gets c", one.judged(0), 0);
        Check.judge(one, 1, 0, 2);
        c.due("the second gets c", one.judged(0), 1);
        WrongCook last = Check.opened(Told.people("cab") + "swaps wants=1;");
        c.due("all want", Check.judge(last, 0, 1, 2), 0);
        last.want(2, 0);
        c.due("but the last", Check.judge(last, 0, 1, 2), 2);
        c.due("of the row", last.judged(0), 2);
        WrongCook without = Check.opened(Told.people("abc"));
        c.due("without it all do", Check.judge(without, 0, 1, 2), 0);
    }

    private static void paysUpTo(Check c) {
        c.by("what he PAYS, the SUM of pays, 0 .. 999 (below is 0, above 999; 0 without), is more than his purse;");
        String[] sums = {"0-1", "0-9999*9999", "0", "1", "998", "999", "1000", "9999", "9999*9999"};
        int[] due = {0, 0, 0, 1, 998, 999, 999, 999, 999};
        for (int k = 0; k < sums.length; k++) {
            WrongCook x = Check.opened(Told.helds(2) + Told.holders("ab", 999) + "pays " + sums[k] + ";");
            c.due("judge " + sums[k], Check.judge(x, 0, 1), 0);
            c.due("both pay " + sums[k], x.judged(1), 2 * due[k]);
            c.due("ring " + sums[k], Check.ring(x, 0, 1), 0);
            c.due("coins " + sums[k], x.holder(0, 2) + x.holder(1, 2), 1998);
        }
        WrongCook six = Check.opened(Told.helds(6) + Told.holders("abcdef", 999) + "pays 1000;");
        c.due("six", Check.judge(six, 0, 1, 2, 3, 4, 5), 0);
        c.due("all six", six.judged(1), 5994);
        WrongCook without = Check.opened(Told.helds(2) + Told.holders("ab", 0));
        c.due("without", Check.judge(without, 0, 1), 0);
        c.due("0 without", without.judged(1), 0);
        WrongCook each = Check.opened(Told.helds(2) + Told.holders("ab", 999) + "values p b 1;pays gets*2000-500;");
        Check.judge(each, 0, 1);
        c.due("each is held to it by himself", each.judged(1), 999);
    }

    private static void morePay(Check c) {
        c.by("a HOLDER can't PAY (3): what he PAYS, the SUM of pays, 0 .. 999 (below is 0, above 999; 0 without), is more than his purse;");
        int[] purses = {0, 1, 7, 998, 999};
        for (int purse : purses) {
            String people = Told.helds(2) + Told.holders("ab", purse);
            c.due("all of his coins", Check.judge(Check.opened(people + "pays " + purse + ";"), 0, 1), 0);
            WrongCook x = Check.opened(people + "pays " + (purse + 1) + ";");
            c.due("one more than " + purse, Check.judge(x, 1, 0), purse == 999 ? 0 : 3);
            c.due("by whom", x.judged(0), purse == 999 ? -1 : 1);
        }
        WrongCook last = Check.opened(Told.people("abc") + "values r b 6;pays gets;");
        c.due("the last of the row can't", Check.judge(last, 0, 1, 2), 3);
        c.due("he", last.judged(0), 2);
        WrongCook two = Check.opened(Told.people("abc") + "values r b 6;values q a 6;pays gets;");
        Check.judge(two, 0, 1, 2);
        c.due("the first of two who can't", two.judged(0), 1);
        Check.judge(two, 2, 0, 1);
        c.due("by the row", two.judged(0), 2);
    }

    private static void aheadOfIt(Check c) {
        c.by("all by what is ahead of it.");
        // q has no coins, and would get five from p: that does not help him.
        WrongCook x = Check.opened("held a salt 1;held b salt 1;holder p has a wants b purse 5;holder q has b wants a purse 0;pays 1;");
        c.due("not by what he gets", Check.ring(x, 0, 1), 3);
        c.due("nothing changed", x.holder(0, 2) * 10 + x.holder(1, 2), 50);
        c.due("nobody met", x.met(0, 1) + x.met(1, 0), 0);
        c.due("whom he has", x.holder(0, 0), 0);
        WrongCook y = Check.opened(Told.people("ba") + "swaps met<1;pays purse-4+met;");
        c.due("met is 0, purse 5", Check.ring(y, 0, 1), 0);
        c.due("each paid 1 and got 1", y.holder(0, 2) * 10 + y.holder(1, 2), 55);
        c.due("now they have met", Check.ring(y, 0, 1), 2);
        Check.judge(y, 0, 1);
        c.due("each would pay 2", y.judged(1), 4);
    }

    /** Two who have 9000-odd coins each, and pay ten times what they value whom they have. */
    private static WrongCook rich(int one, int other, int pays, int otherPays) {
        WrongCook x = Check.opened(Told.people("ba") + "values p a " + pays + ";values q b " + otherPays + ";pays gives*10;");
        Check.resume(x, Told.sealed(0, 0, 0, 1, one / 256, one % 256, 0, 0, 1, 0, other / 256, other % 256, 0, 0, 0));
        return x;
    }

    private static void coinsAtMost(Check c) {
        c.by("Then each has whom he gets, PAYS who gives her (all at once; 9999 coins at most in a purse)");
        // His coins, the other one's, tens that he pays, tens that he gets, what he has then.
        int[][] rows = {{9988, 500, 0, 1, 9998}, {9989, 500, 0, 1, 9999}, {9990, 500, 0, 1, 9999}, {9999, 500, 0, 0, 9999},
            {9999, 500, 1, 1, 9999}, {9999, 500, 1, 2, 9999}, {9999, 500, 2, 1, 9989}, {9999, 990, 0, 99, 9999},
            {9999, 990, 99, 99, 9999}, {9999, 0, 99, 0, 9009}, {9989, 500, 1, 2, 9999}, {9990, 500, 1, 2, 9999},
            {9998, 500, 3, 2, 9988}};
        for (int[] row : rows) {
            WrongCook x = rich(row[0], row[1], row[2], row[3]);
            c.due("ring", Check.ring(x, 0, 1), 0);
            c.due("his coins", x.holder(0, 2), row[4]);
            c.due("the other one's", x.holder(1, 2), row[1] + 10 * row[2] - 10 * row[3]);
        }
        WrongCook both = rich(9999, 9999, 5, 4);
        Check.ring(both, 1, 0);
        c.due("the one who paid more", both.holder(0, 2), 9989);
        c.due("the other one", both.holder(1, 2), 9999);
        c.due("coins of all", both.has(6), 19988);
        WrongCook three = Check.opened(Told.people("abc") + "values p a 2;values q b 3;values r c 5;pays gives;");
        // p gives to q, q to r, r to p: q pays p 3, r pays q 5, p pays r 2.
        c.due("three", Check.ring(three, 0, 1, 2), 0);
        c.due("p", three.holder(0, 2), 5 - 2 + 3);
        c.due("q", three.holder(1, 2), 5 - 3 + 5);
        c.due("r", three.holder(2, 2), 5 - 5 + 2);
    }

    private static void metAtMost(Check c) {
        c.by("and has MET that one once more (99 at most).");
        WrongCook x = Check.opened(Told.people("ba"));
        Check.resume(x, Told.sealed(0, 0, 0, 1, 0, 5, 0, 97, 1, 0, 0, 5, 98, 0, 0));
        int[][] due = {{98, 99}, {99, 99}, {99, 99}};
        for (int[] met : due) {
            Check.ring(x, 0, 1);
            c.due("p met q", x.met(0, 1), met[0]);
            c.due("q met p", x.met(1, 0), met[1]);
        }
        c.due("himself not", x.image() > 0 && x.octet(6) == 0 && x.octet(13) == 0, true);
    }

    private static void judgeAnswers(Check c) {
        c.by("why it would not COME ABOUT (0 it would); NONE, refused (1), when it is none such.");
        WrongCook x = Told.used();
        String before = Told.state(x);
        c.due("it is none such", Check.judge(x, 0, 3), -1);
        c.due("all stays", Told.state(x), before);
        c.due("refused", Told.refusals(x), "0 1 0 0 0 0 ");
        c.due("an empty tape", x.judge(), -1);
        c.due("refused", Told.refusals(x), "0 2 0 0 0 0 ");
        c.due("it would", Check.judge(x, 1, 2), 0);
        c.due("nothing comes about", x.has(8) * 100 + x.has(10), 303);
        c.due("nobody refuses that", Told.refusals(x), "0 2 0 0 0 0 ");
        c.due("no fog in it", Check.judge(Check.opened(Told.people("ab") + "fog 100;"), 0, 1), 0);
        c.due("a try knows no fog, too", Check.ring(Check.opened(Told.people("ab") + "fog 100;"), 0, 1), 0);
    }

    private static void judgedLatest(Check c) {
        c.by("Of the latest judge() of this CASE that was not refused: 0 the HOLDER by whom it would not (by the row;"
                + " of a FEUD who would give; NONE when it would), 1 what all HOLDERS of it would PAY together"
                + " (also when it would not).");
        String text = Told.people("abc") + "feud q r;pays 2*gives+salt;values p a 1;values q b 9;";
        WrongCook x = Check.opened(text);
        c.due("ahead of any", x.judged(0), -1);
        c.due("ahead of any, coins", x.judged(1), -1);
        c.due("refused", Check.judge(x, 0, 0), -1);
        c.due("ahead of any yet", x.judged(1), -1);
        c.due("can't pay", Check.judge(x, 0, 1), 3);
        c.due("q", x.judged(0), 1);
        c.due("coins though", x.judged(1), 3 + 19);
        c.due("feud", Check.judge(x, 0, 1, 2), 1);
        c.due("q gives", x.judged(0), 1);
        c.due("coins of three", x.judged(1), 3 + 19 + 1);
        c.due("it would", Check.judge(x, 2, 0), 0);
        c.due("by nobody", x.judged(0), -1);
        c.due("coins", x.judged(1), 4);
        c.due("refused", Check.judge(x, 1, 1), -1);
        c.due("the latest that was not", x.judged(1), 4);
        Check.ring(x, 0, 1);
        c.due("a ring that is tried is not judged", x.judged(0) * 100 + x.judged(1), -96);
        x.nights(5);
        x.undo();
        Check.resume(x, Check.image(x));
        c.due("acts and images do not matter", x.judged(1), 4);
        Check.open(x, "held");
        c.due("it is this case yet", x.judged(1), 4);
        Check.open(x, text);
        c.due("of this case none", x.judged(1), -1);
        c.due("of this case none", x.judged(0), -1);
    }

    private static void judgedOther(Check c) {
        c.by("NONE ahead of any, or for others.");
        WrongCook x = Check.opened(Told.people("abc") + "feud q r;pays 2;");
        Check.judge(x, 1, 2);
        c.due("0", x.judged(0), 1);
        c.due("1", x.judged(1), 4);
        int[] others = {-1, 2, 3, Integer.MIN_VALUE, Integer.MAX_VALUE};
        for (int what : others) {
            c.due("what " + what, x.judged(what), -1);
        }
    }

    private static void ringIsAct(Check c) {
        c.by("why it did not COME ABOUT (0 it did); NONE, refused (2), when it is none such. (It is an ACT either way.)");
        String people = Told.people("abc");
        String[] rules = {"", "feud p q;", "swaps not all;", "pays 6;"};
        for (int why = 0; why < 4; why++) {
            WrongCook x = Check.opened(people + rules[why]);
            x.image();
            String before = Told.state(x);
            c.due("why", Check.ring(x, 0, 1), why);
            c.due("an act", x.has(10), 1);
            c.due("kept", x.has(8), 1);
            c.due("why, kept", x.kept(0, 1), why);
            c.due("has", x.holder(0, 0), why == 0 ? 1 : 0);
            c.due("met", x.met(0, 1) + x.met(1, 0), why == 0 ? 2 : 0);
            c.due("no night is over", x.has(4), 0);
            c.due("coins", x.has(6), 15);
            c.due("undone", x.undo(), true);
            c.due("as it was", Told.state(x), before);
            c.due("not refused", Told.refusals(x), "0 0 0 0 0 0 ");
        }
    }

    private static void ringRefused(Check c) {
        c.by("why it did not COME ABOUT (0 it did); NONE, refused (2), when it is none such. (It is an ACT either way.)");
        int[][] rows = {{}, {0}, {1, 1}, {0, 3}, {3, 0}, {0, 1, 2, 0}, {0, 1, 2, 0, 1, 2, 0}};
        for (int[] row : rows) {
            WrongCook x = Told.used();
            String before = Told.state(x);
            c.due("ring", Check.ring(x, row), -1);
            c.due("all stays", Told.state(x), before);
            c.due("refused", Told.refusals(x), "0 0 1 0 0 0 ");
        }
    }
}
