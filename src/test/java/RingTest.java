/** Promises 12, 13, 14 and 25: rings that are judged, tried, kept. */
final class RingTest {
    private static final String THREE =
            "held a salt 10;held b salt 20;held c salt 30;"
            + "holder p has a wants b purse 100;holder q has b wants c purse 50;holder r has c wants a purse 0;"
            + "values p a 1;values p b 2;values p c 3;values q a 4;values q b 5;values q c 6;"
            + "values r a 7;values r b 8;values r c 9;";

    public static void main(String[] args) {
        Check c = new Check();
        rows(c);
        reasons(c);
        parts(c);
        arithmetic(c);
        paying(c);
        limits(c);
        keeping(c);
        c.finish();
    }

    private static void rows(Check c) {
        WrongCook x = Check.opened(THREE);
        int[][] wrong = {{}, {0}, {0, 0}, {0, 1, 0}, {0, 3}, {255, 0}, {0, 1, 2, 3}, {0, 1, 2, 0, 1, 2, 0}};
        for (int[] row : wrong) {
            c.due("judge a wrong row", Check.judge(x, row), -1);
            c.due("the tape goes", x.end(1), false);
            c.due("try a wrong row", Check.ring(x, row), -1);
            c.due("the tape goes", x.end(1), false);
        }
        c.due("refused judge", x.status(1), wrong.length);
        c.due("refused ring", x.status(2), wrong.length);
        c.due("none judged", x.judged(0), -1);
        c.due("no act", x.has(10), 0);
        c.due("none kept", x.has(8), 0);
        c.due("two", Check.judge(x, 2, 0), 0);
        c.due("three", Check.judge(x, 1, 0, 2), 0);
        c.due("judging is no act", x.has(10), 0);
        c.due("judged 2", x.judged(2), -1);
        c.due("judged -1", x.judged(-1), -1);
        c.due("by nobody", x.judged(0), -1);
        c.due("nothing to pay", x.judged(1), 0);
    }

    private static void reasons(Check c) {
        String four = "held a salt 1;held b salt 1;held c salt 1;held d salt 1;"
                + "holder p has a wants b purse 3;holder q has b wants c purse 3;"
                + "holder r has c wants d purse 0;holder s has d wants a purse 3;";
        WrongCook feud = Check.opened(four + "feud r p;feud s q;swaps not all;");
        c.due("feud", Check.judge(feud, 0, 2), 1);
        c.due("who gives", feud.judged(0), 0);
        c.due("feud at the end", Check.judge(feud, 0, 1, 2), 1);
        c.due("the last gives", feud.judged(0), 2);
        c.due("feud within", Check.judge(feud, 2, 3, 1, 0), 1);
        c.due("who gives within", feud.judged(0), 3);
        c.due("not next to each other: no swap", Check.judge(feud, 3, 2, 1, 0), 2);
        c.due("the first of the row", feud.judged(0), 3);
        WrongCook swap = Check.opened(four + "swaps wants=1;pays 1;");
        c.due("all want", Check.judge(swap, 3, 2, 1, 0), 3);
        c.due("the poor one", swap.judged(0), 2);
        c.due("all pay", swap.judged(1), 4);
        c.due("swap is ahead of pay", Check.judge(swap, 2, 1, 0), 2);
        c.due("who does not swap", swap.judged(0), 2);
        c.due("pays told though", swap.judged(1), 3);
        c.due("refused", Check.judge(swap, 0), -1);
        c.due("the latest that was not", swap.judged(1), 3);
        c.due("ring tells it, too", Check.ring(swap, 2, 1, 0), 2);
        c.due("it is an act", swap.has(10), 1);
        c.due("nothing changed", swap.holder(0, 0), 0);
        c.due("nobody met", swap.met(0, 1), 0);
        WrongCook poor = Check.opened(four + "pays 3;");
        c.due("all of his coins", Check.judge(poor, 0, 1), 0);
        c.due("no night by a ring", Check.ring(poor, 0, 1), 0);
        c.due("night", poor.has(4), 0);
    }

    /** What the holder p pays, who gets b from q, tells the worth of a sum. */
    private static void sum(Check c, String sum, int due) {
        WrongCook x = Check.opened(THREE + "pays " + sum + ";");
        Check.judge(x, 0, 1);
        int both = x.judged(1);
        WrongCook y = Check.opened(THREE + "pays (" + sum + ")*(1-wants);");
        Check.judge(y, 0, 1);
        c.due("p pays " + sum, both - y.judged(1), due);
    }

    private static void parts(Check c) {
        sum(c, "gets", 2);
        sum(c, "gives", 1);
        sum(c, "wants", 1);
        sum(c, "salt", 20);
        sum(c, "purse", 100);
        sum(c, "met", 0);
        sum(c, "night", 0);
        sum(c, "0007", 7);
        WrongCook x = Check.opened(THREE + "pays met*100+night;fog 100;");
        Check.ring(x, 1, 0, 2);
        x.nights(9);
        Check.judge(x, 2, 0);
        c.due("r has met p, not p r", x.judged(1), 118);
        Check.judge(x, 0, 2);
        c.due("either way round", x.judged(1), 118);
        Check.judge(x, 1, 0, 2);
        c.due("all have met who gives", x.judged(1), 327);
        Check.judge(x, 2, 0, 1);
        c.due("another way round", x.judged(1), 27);
    }

    private static void arithmetic(Check c) {
        sum(c, "1+2*3", 7);
        sum(c, "(1+2)*3", 9);
        sum(c, "10-3-2", 5);
        sum(c, "100/10/5", 2);
        sum(c, "7/2*2", 6);
        sum(c, "2*7/2", 7);
        sum(c, "(0-7)/2+10", 6);
        sum(c, "7/(0-2)+10", 6);
        sum(c, "(0-7)/(0-2)", 3);
        sum(c, "5/0+3", 3);
        sum(c, "min(3,2)*10+max(3,2)", 23);
        sum(c, "min(0-3,2)+5", 2);
        sum(c, "9999*9999-9999*100-5", 95);
        sum(c, "9999*9999/9999", 100);
        sum(c, "(0-9999)*9999/9999+200", 99);
        sum(c, "9999*100+9999-9999*100", 100);
        sum(c, "0-9999*100-9999-9999+9999*100+107", 7);
        sum(c, "5-6", 0);
        sum(c, "1000", 999);
        sum(c, "9999*9999", 999);
        test(c, "1<2", true);
        test(c, "2<2", false);
        test(c, "3>2", true);
        test(c, "2>2", false);
        test(c, "2=2", true);
        test(c, "0-1<0", true);
        test(c, "all", true);
        test(c, "not all", false);
        test(c, "not 1=2", true);
        test(c, "not not 1=2", false);
        test(c, "all or not all and not all", true);
        test(c, "[all or all] and not all", false);
        test(c, "not all and not all or all", true);
        test(c, "not all or all", true);
        test(c, "not [all or all]", false);
        test(c, "not 1=1 or 1=1 and 2=2", true);
        test(c, "1+1=2 and 2*2=4 and (3)>2", true);
    }

    private static void test(Check c, String test, boolean due) {
        WrongCook x = Check.opened(THREE + "swaps " + test + ";");
        c.due("swaps " + test, Check.judge(x, 0, 1), due ? 0 : 2);
    }

    private static void paying(Check c) {
        WrongCook x = Check.opened(THREE + "pays gets*3;");
        // p gives to q, q to r, r to p: p gets c (9 coins), q gets a (12), r gets b (24).
        c.due("r can't", Check.ring(x, 0, 1, 2), 3);
        WrongCook y = Check.opened(THREE.replace("purse 0", "purse 24") + "pays gets*3;");
        c.due("all at once", Check.ring(y, 0, 1, 2), 0);
        c.due("p has", y.holder(0, 0), 2);
        c.due("q has", y.holder(1, 0), 0);
        c.due("r has", y.holder(2, 0), 1);
        c.due("p's purse", y.holder(0, 2), 100 - 9 + 12);
        c.due("q's purse", y.holder(1, 2), 50 - 12 + 24);
        c.due("r's purse", y.holder(2, 2), 24 - 24 + 9);
        c.due("p met r", y.met(0, 2), 1);
        c.due("q met p", y.met(1, 0), 1);
        c.due("r met q", y.met(2, 1), 1);
        c.due("r did not meet p", y.met(2, 0), 0);
        c.due("coins stay", y.has(6), 174);
    }

    private static void limits(Check c) {
        WrongCook x = Check.opened("held a salt 0;held b salt 0;holder p has a wants b purse 999;"
                + "holder q has b wants a purse 999;values p a 1;values p b 1;");
        for (int k = 0; k < 120; k++) {
            Check.ring(x, 0, 1);
        }
        c.due("met 99 at most", x.met(0, 1), 99);
        c.due("met 99 at most", x.met(1, 0), 99);
        WrongCook rich = Check.opened("held a salt 0;held b salt 0;holder p has a wants b purse 0;"
                + "holder q has b wants a purse 0;values q a 1;values q b 1;pays gets*500;");
        // An image tells purses that a text can't: 9700 and 600 coins.
        int[] image = {0, 0, 0, 1, 9700 / 256, 9700 % 256, 0, 0, 1, 0, 600 / 256, 600 % 256, 0, 0, 0};
        int check = 17;
        for (int k = 0; k < 14; k++) {
            check = (3 * check + image[k]) % 251;
        }
        image[14] = check;
        c.due("resumed", Check.resume(rich, image), true);
        c.due("q pays 500", Check.ring(rich, 0, 1), 0);
        c.due("9999 coins at most", rich.holder(0, 2), 9999);
        c.due("the other one paid all", rich.holder(1, 2), 100);
    }

    private static void keeping(Check c) {
        WrongCook x = Check.opened(THREE + "feud p q;pays salt/30*999;fog 100;");
        c.due("feud", Check.ring(x, 1, 0), 1);
        c.due("can't pay", Check.ring(x, 2, 0), 3);
        x.nights(1);
        int[][] due = {{0, 1, 2, 1}, {0, 3, 2, 2}};
        for (int k = 0; k < due.length; k++) {
            for (int what = 0; what < 4; what++) {
                c.due("kept " + k + " " + what, x.kept(k, what), due[k][what]);
            }
        }
        c.due("by fog", x.kept(2, 1), 4);
        c.due("kept 3", x.kept(3, 0), -1);
        c.due("kept -1", x.kept(-1, 0), -1);
        c.due("what 4", x.kept(0, 4), -1);
        Check.ring(x, 0, 2, 1);
        c.due("its night", x.kept(3, 0), 1);
        c.due("three", x.kept(3, 2), 3);
        x.nights(27);
        c.due("thirty", x.has(8), 30);
        c.due("the second is the oldest", x.kept(0, 1), 3);
        c.due("the latest night", x.kept(29, 0), 27);
        c.due("undone", x.undo(), true);
        c.due("the first is back", x.kept(0, 1), 1);
        c.due("four again", x.has(8), 4);
    }
}
