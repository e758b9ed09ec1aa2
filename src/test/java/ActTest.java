/** Promises 26 to 29: wishes, nights by the seed, undoing. */
final class ActTest {
    private static final String CASE =
            "held a salt 10;held b salt 20;held c salt 30;held d salt 5;"
            + "holder p has a wants b purse 9;holder q has b wants c purse 5;holder r has c wants a purse 7;";

    private static long x = 1;

    private static int draw(int many) {
        x = (1103515245L * x + 12345) % (1L << 31);
        return (int) (x / 64 % many);
    }

    public static void main(String[] args) {
        Check c = new Check();
        wishes(c);
        nights(c);
        fewHolders(c);
        lateNights(c);
        undoing(c);
        seeds(c);
        c.finish();
    }

    private static void wishes(Check c) {
        WrongCook w = Check.opened(CASE);
        c.due("wants already", w.want(0, 1), false);
        c.due("no such holder", w.want(3, 1), false);
        c.due("no such holder", w.want(-1, 1), false);
        c.due("no such held", w.want(0, 4), false);
        c.due("no such held", w.want(0, -1), false);
        c.due("refused", w.status(2), 5);
        c.due("no acts", w.has(10), 0);
        c.due("wants whom nobody holds", w.want(0, 3), true);
        c.due("wants her", w.holder(0, 1), 3);
        c.due("wants whom he has", w.want(0, 0), true);
        c.due("settled", w.has(5), 1);
        c.due("wanted", w.held(0, 3), 2);
        c.due("acts", w.has(10), 2);
        c.due("kept", w.has(8), 0);
    }

    private static void nights(Check c) {
        WrongCook w = Check.opened(CASE + "swaps salt+night>14;pays 1;feud q r;fog 30;");
        x = 1;
        int[] has = {0, 1, 2};
        int[] salts = {10, 20, 30, 5};
        int[] purse = {9, 5, 7};
        int came = 0;
        int[][] kept = new int[20][];
        for (int night = 0; night < 20; night++) {
            int one = draw(3);
            int k = draw(2);
            int other = k < one ? k : k + 1;
            boolean fog = draw(100) < 30;
            int why = 0;
            if (fog) {
                why = 4;
            } else if (one + other == 3) {
                why = 1;
            } else if (salts[has[one]] + night <= 14 || salts[has[other]] + night <= 14) {
                why = 2;
            } else if (purse[one] < 1 || purse[other] < 1) {
                why = 3;
            } else {
                int held = has[one];
                has[one] = has[other];
                has[other] = held;
                came++;
            }
            kept[night] = new int[] {night, why, 2, one};
        }
        c.due("came about", w.nights(20), came);
        c.due("some came, some did not", came > 2 && came < 18, true);
        c.due("night", w.has(4), 20);
        for (int k = 0; k < 20; k++) {
            for (int what = 0; what < 4; what++) {
                c.due("kept " + k + " " + what, w.kept(k, what), kept[k][what]);
            }
        }
        for (int k = 0; k < 3; k++) {
            c.due("has " + k, w.holder(k, 0), has[k]);
        }
        c.due("one act", w.has(10), 1);
        c.due("nights 0", w.nights(0), -1);
        c.due("nights -1", w.nights(-1), -1);
        c.due("nights 101", w.nights(101), -1);
        c.due("refused", w.status(3), 3);
        c.due("nights 100", w.nights(100) >= 0, true);
        c.due("night", w.has(4), 120);
        WrongCook dark = Check.opened(CASE + "fog 100;feud p q;");
        c.due("none by fog", dark.nights(30), 0);
        for (int k = 0; k < 30; k++) {
            c.due("fog, whatever else is so", dark.kept(k, 1), 4);
        }
    }

    private static void fewHolders(Check c) {
        WrongCook w = Check.opened("held a salt 1;holder p has a wants a purse 1;");
        c.due("nobody to meet", w.nights(10), 0);
        c.due("none kept", w.has(8), 0);
        c.due("night", w.has(4), 10);
        c.due("an act", w.has(10), 1);
        Check.open(w, CASE);
        w.nights(1);
        x = 1;
        c.due("no draws", w.kept(0, 3), draw(3));
    }

    private static void lateNights(Check c) {
        WrongCook w = new WrongCook();
        for (int k = 0; k < 99; k++) {
            w.nights(100);
        }
        c.due("night", w.has(4), 9900);
        c.due("beyond 9999", w.nights(100), -1);
        c.due("just 9999", w.nights(99), 0);
        c.due("night", w.has(4), 9999);
        c.due("one more", w.nights(1), -1);
        c.due("refused", w.status(3), 2);
        c.due("stays", w.has(4), 9999);
    }

    private static void undoing(Check c) {
        WrongCook w = Check.opened(CASE + "pays 1;");
        c.due("nothing yet", w.undo(), false);
        c.due("refused", w.status(4), 1);
        Check.ring(w, 0, 1, 2);
        w.want(0, 3);
        int[] before = Check.image(w);
        w.nights(50);
        c.due("undo nights", w.undo(), true);
        int[] behind = Check.image(w);
        c.due("as long", behind.length, before.length);
        for (int k = 0; k < before.length; k++) {
            c.due("as ahead of it " + k, behind[k], before[k]);
        }
        c.due("kept, too", w.has(8), 1);
        c.due("undo the wish", w.undo(), true);
        c.due("wants again", w.holder(0, 1), 1);
        c.due("undo the ring", w.undo(), true);
        c.due("has again", w.holder(0, 0), 0);
        c.due("not met", w.met(0, 2), 0);
        c.due("purse", w.holder(0, 2), 9);
        c.due("none kept", w.has(8), 0);
        c.due("no more", w.undo(), false);
        for (int k = 0; k < 25; k++) {
            w.want(0, k % 2 == 0 ? 2 : 1);
        }
        c.due("twenty", w.has(10), 20);
        for (int k = 0; k < 20; k++) {
            c.due("undo " + k, w.undo(), true);
        }
        c.due("not the first five", w.undo(), false);
        c.due("the fifth wish", w.holder(0, 1), 2);
        w.want(0, 3);
        w.undo();
        w.want(0, 0);
        c.due("an act behind an undone one", w.undo(), true);
        c.due("the wish is back", w.holder(0, 1), 2);
        c.due("a ring that failed is an act", Check.ring(Check.opened(CASE + "feud p q;"), 0, 1), 1);
    }

    private static void seeds(Check c) {
        WrongCook w = Check.opened(CASE);
        c.due("below 0", w.seed(-1), false);
        c.due("lowest", w.seed(Integer.MIN_VALUE), false);
        c.due("refused", w.status(5), 2);
        int[] seeds = {0, 1, 12345, Integer.MAX_VALUE, 987654321};
        for (int seed : seeds) {
            c.due("seed", w.seed(seed), true);
            w.nights(1);
            x = seed;
            c.due("by seed " + seed, w.kept(w.has(8) - 1, 3), draw(3));
            draw(2);
            draw(100);
            w.undo();
            w.nights(1);
            c.due("the seed stays, undone", w.kept(w.has(8) - 1, 3), draw(3));
        }
    }
}
