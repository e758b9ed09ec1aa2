import java.math.BigInteger;

/** At the boundaries of wishes, nights, undoing and seeds (section II, promises 26 to 29). */
final class EdgeActTest {
    private static final String THREE = Told.people("bca");

    public static void main(String[] args) {
        Check c = new Check();
        wishes(c);
        wishesRefused(c);
        draws(c);
        othersByNumbers(c);
        belowFog(c);
        whateverElse(c);
        nightIsOver(c);
        fewHolders(c);
        howManyNights(c);
        beyondNights(c);
        cameAbout(c);
        twentyUndone(c);
        undone(c);
        undoRefused(c);
        actsAlone(c);
        lastThirty(c);
        seeds(c);
        c.finish();
    }

    /** The DRAWs of a seed, reckoned with numbers that have no end. */
    private static final class Draws {
        private BigInteger x;

        Draws(int seed) {
            x = BigInteger.valueOf(seed);
        }

        int draw(int many) {
            x = x.multiply(BigInteger.valueOf(1103515245)).add(BigInteger.valueOf(12345)).mod(BigInteger.TWO.pow(31));
            return x.divide(BigInteger.valueOf(64)).mod(BigInteger.valueOf(many)).intValue();
        }
    }

    /** The third draw of a night of so many holders. */
    private static int fogDraw(int seed, int holders) {
        Draws d = new Draws(seed);
        d.draw(holders);
        d.draw(holders - 1);
        return d.draw(100);
    }

    private static int seedOf(int fogDraw, int holders) {
        for (int seed = 0; seed < 100000; seed++) {
            if (fogDraw(seed, holders) == fogDraw) {
                return seed;
            }
        }
        return -1;
    }

    private static void wishes(Check c) {
        c.by("A HOLDER wants somebody else: true;");
        WrongCook x = Check.opened(Told.helds(6) + Told.holders("abcdef", 5));
        c.due("the first wants the last", x.want(0, 5), true);
        c.due("the last wants the first", x.want(5, 0), true);
        c.due("the first's", x.holder(0, 1), 5);
        c.due("the last's", x.holder(5, 1), 0);
        c.due("the others' stay", x.holder(1, 1), 1);
        c.due("whom he has stays", x.holder(0, 0), 0);
        c.due("acts", x.has(10), 2);
        c.due("no ring", x.has(8), 0);
        c.due("no night", x.has(4), 0);
        c.due("whom he has", x.want(0, 0), true);
        c.due("settled", x.holder(0, 3), 1);
    }

    private static void wishesRefused(Check c) {
        c.by("false, refused (2), when there are none such, or he wants her already.");
        int[][] pairs = {{-1, 0}, {3, 0}, {0, -1}, {0, 3}, {0, 1}, {1, 1}, {2, 1}, {3, 3}, {-1, -1}, {Integer.MIN_VALUE, 0},
            {Integer.MAX_VALUE, 0}, {0, Integer.MIN_VALUE}, {0, Integer.MAX_VALUE}};
        for (int[] pair : pairs) {
            WrongCook x = Told.used();
            boolean already = pair[0] >= 0 && pair[0] < 3 && x.holder(pair[0], 1) == pair[1];
            boolean good = pair[0] >= 0 && pair[0] < 3 && pair[1] >= 0 && pair[1] < 3 && !already;
            String before = Told.state(x);
            c.due("want " + pair[0] + " " + pair[1], x.want(pair[0], pair[1]), good);
            c.due("refused", Told.refusals(x), good ? "0 0 0 0 0 0 " : "0 0 1 0 0 0 ");
            c.due("all stays", Told.state(x).equals(before), !good);
        }
        WrongCook six = Check.opened(Told.people("abcdef"));
        c.due("holder 6", six.want(6, 0), false);
        c.due("held 6", six.want(0, 6), false);
        c.due("holder 5", six.want(5, 4), true);
        c.due("he wants her already", six.want(5, 4), false);
        c.due("no held is none", Check.opened("").want(0, 0), false);
    }

    private static void draws(Check c) {
        c.by("A DRAW of m: x (the seed) becomes (1103515245 x + 12345) mod 2 to the 31; floor(x / 64) mod m.");
        int[] seeds = {0, 1, 2, 63, 64, 12345, 1 << 30, Integer.MAX_VALUE - 1, Integer.MAX_VALUE};
        for (int seed : seeds) {
            for (int holders = 2; holders <= 6; holders++) {
                WrongCook x = Check.opened(Told.people("abcdef".substring(0, holders)) + "fog 50;");
                x.seed(seed);
                int came = x.nights(12);
                Draws d = new Draws(seed);
                int due = 0;
                for (int night = 0; night < 12; night++) {
                    c.due("the first one", x.kept(night, 3), d.draw(holders));
                    d.draw(holders - 1);
                    int why = d.draw(100) < 50 ? 4 : 0;
                    due += why == 0 ? 1 : 0;
                    c.due("by fog or not", x.kept(night, 1), why);
                    c.due("its night", x.kept(night, 0), night);
                    c.due("two", x.kept(night, 2), 2);
                }
                c.due("came about", came, due);
            }
        }
    }

    private static void othersByNumbers(Check c) {
        c.by("a DRAW of the others (the k-th of those, by numbers): a RING of these two;");
        for (int seed = 0; seed < 60; seed++) {
            WrongCook x = Check.opened(Told.people("abcd"));
            x.seed(seed);
            x.nights(1);
            Draws d = new Draws(seed);
            int one = d.draw(4);
            int k = d.draw(3);
            int[][] others = {{1, 2, 3}, {0, 2, 3}, {0, 1, 3}, {0, 1, 2}};
            int other = others[one][k];
            c.due("the one has whom the other had", x.holder(one, 0), other);
            c.due("the other has whom he had", x.holder(other, 0), one);
            c.due("they met", x.met(one, other) + x.met(other, one), 2);
            c.due("the one is told", x.kept(0, 3), one);
        }
    }

    private static void belowFog(Check c) {
        c.by("a DRAW of 100: below fog it does not COME ABOUT (4, whatever else is so)");
        int[] drawn = {0, 1, 50, 98, 99};
        for (int draw : drawn) {
            int seed = seedOf(draw, 3);
            c.due("such a seed", seed >= 0, true);
            for (int fog = draw; fog <= draw + 1; fog++) {
                WrongCook x = Check.opened(THREE + "fog " + fog + ";");
                x.seed(seed);
                boolean foggy = fog == draw + 1;
                c.due("draw " + draw + " fog " + fog, x.nights(1), foggy ? 0 : 1);
                c.due("why", x.kept(0, 1), foggy ? 4 : 0);
                c.due("met", x.met(0, 1) + x.met(1, 0) + x.met(0, 2) + x.met(2, 0) + x.met(1, 2) + x.met(2, 1), foggy ? 0 : 2);
                c.due("coins", x.has(6), 15);
            }
        }
        WrongCook none = Check.opened(THREE);
        c.due("without fog all come about", none.nights(100), 100);
        WrongCook all = Check.opened(THREE + "fog 100;");
        c.due("in all fog none does", all.nights(100), 0);
    }

    private static void whateverElse(Check c) {
        c.by("below fog it does not COME ABOUT (4, whatever else is so)");
        String[] rules = {"feud p q;", "swaps not all;", "pays 6;"};
        for (int why = 1; why <= 3; why++) {
            WrongCook x = Check.opened(Told.people("ba") + rules[why - 1] + "fog 100;");
            c.due("none", x.nights(1), 0);
            c.due("by fog", x.kept(0, 1), 4);
            WrongCook y = Check.opened(Told.people("ba") + rules[why - 1]);
            c.due("none", y.nights(1), 0);
            c.due("why else", y.kept(0, 1), why);
        }
    }

    private static void nightIsOver(Check c) {
        c.by("then a NIGHT is over (9999 at most; with fewer than two HOLDERS no DRAWS).");
        WrongCook x = Check.opened(THREE);
        x.nights(3);
        c.due("three nights", x.has(4), 3);
        c.due("the first ring at night 0", x.kept(0, 0), 0);
        c.due("the third at night 2", x.kept(2, 0), 2);
        Check.ring(x, 0, 1);
        c.due("a ring at night 3", x.kept(3, 0), 3);
        c.due("is none over", x.has(4), 3);
        WrongCook foggy = Check.opened(THREE + "fog 100;");
        foggy.nights(1);
        c.due("over by fog, too", foggy.has(4), 1);
        WrongCook later = Check.opened(THREE + "swaps night>1;");
        c.due("two nights none", later.nights(2), 0);
        c.due("then all", later.nights(2), 2);
    }

    private static void fewHolders(Check c) {
        c.by("with fewer than two HOLDERS no DRAWS");
        String[] texts = {"", Told.people("a"), Told.people("ab")};
        for (int holders = 0; holders < 3; holders++) {
            WrongCook x = Check.opened(texts[holders]);
            x.seed(1);
            boolean some = holders == 2;
            c.due("rings that came about", x.nights(7), some ? 7 : 0);
            c.due("kept", x.has(8), some ? 7 : 0);
            c.due("nights", x.has(4), 7);
            c.due("an act", x.has(10), 1);
            Draws d = new Draws(1);
            for (int k = 0; some && k < 7; k++) {
                d.draw(2);
                d.draw(1);
                d.draw(100);
            }
            Check.open(x, Told.people("abcdef"));
            x.nights(1);
            c.due("the next draw", x.kept(0, 3), d.draw(6));
        }
    }

    private static void howManyNights(Check c) {
        c.by("n NIGHTS by the seed (1 .. 100), one ACT: how many RINGS came about; NONE, refused (3), when it can't be");
        int[] wrong = {0, -1, 101, 1000, Integer.MIN_VALUE, Integer.MAX_VALUE};
        for (int n : wrong) {
            WrongCook x = Told.used();
            x.seed(9);
            String before = Told.state(x);
            c.due("nights " + n, x.nights(n), -1);
            c.due("all stays", Told.state(x), before);
            c.due("refused", Told.refusals(x), "0 0 0 1 0 0 ");
            x.nights(1);
            c.due("the seed stays", x.kept(x.has(8) - 1, 3), new Draws(9).draw(3));
        }
        int[] good = {1, 2, 99, 100};
        for (int n : good) {
            WrongCook x = Check.opened(THREE);
            c.due("nights " + n, x.nights(n), n);
            c.due("one act", x.has(10), 1);
            c.due("so many over", x.has(4), n);
            c.due("kept", x.has(8), Math.min(30, n));
        }
    }

    private static void beyondNights(Check c) {
        c.by("NONE, refused (3), when it can't be (beyond NIGHT 9999).");
        int[][] rows = {{9899, 100}, {9900, 99}, {9998, 1}, {9997, 2}};
        for (int[] row : rows) {
            WrongCook x = Check.opened("");
            c.due("resume", Check.resume(x, Told.sealed(row[0] / 256, row[0] % 256, 0)), true);
            c.due("one too many", x.nights(row[1] + 1), -1);
            c.due("night stays", x.has(4), row[0]);
            c.due("no act", x.has(10), 0);
            c.due("refused", x.status(3), 1);
            c.due("just so many", x.nights(row[1]), 0);
            c.due("night", x.has(4), 9999);
            c.due("one more", x.nights(1), -1);
            c.due("refused", x.status(3), 2);
            c.due("undone", x.undo(), true);
            c.due("night again", x.has(4), row[0]);
        }
    }

    private static void cameAbout(Check c) {
        c.by("n NIGHTS by the seed (1 .. 100), one ACT: how many RINGS came about;");
        WrongCook x = Check.opened(Told.people("ba") + "swaps met<3;");
        c.due("three of ten", x.nights(10), 3);
        c.due("none of ten", x.nights(10), 0);
        c.due("acts", x.has(10), 2);
        for (int k = 0; k < 20; k++) {
            c.due("why", x.kept(k, 1), k < 3 ? 0 : 2);
        }
    }

    private static void twentyUndone(Check c) {
        c.by("The last 20 can be undone.");
        for (int acts = 19; acts <= 22; acts++) {
            WrongCook x = Check.opened(THREE);
            for (int k = 0; k < acts; k++) {
                x.nights(1 + k % 3);
                c.due("so many can be", x.has(10), Math.min(20, k + 1));
            }
            int nights = x.has(4);
            for (int k = acts - 1; k >= Math.max(0, acts - 20); k--) {
                c.due("undo act " + k, x.undo(), true);
                nights -= 1 + k % 3;
                c.due("night", x.has(4), nights);
                c.due("can be yet", x.has(10), k - Math.max(0, acts - 20));
            }
            c.due("no more", x.undo(), false);
            c.due("night stays", x.has(4), nights);
        }
    }

    private static void undone(Check c) {
        c.by("The latest ACT is undone (the seed stays): true;");
        WrongCook x = Check.opened(THREE + "pays 1;fog 20;");
        x.image();
        String[] states = new String[6];
        x.seed(4);
        Draws d = new Draws(4);
        for (int k = 0; k < 6; k++) {
            states[k] = Told.state(x);
            if (k % 3 == 0) {
                Check.ring(x, 2, 1, 0);
            } else if (k % 3 == 1) {
                x.want(0, x.holder(0, 1) == 0 ? 1 : 0);
            } else {
                x.nights(4);
                for (int i = 0; i < 4; i++) {
                    d.draw(3);
                    d.draw(2);
                    d.draw(100);
                }
            }
        }
        for (int k = 5; k >= 0; k--) {
            c.due("undo " + k, x.undo(), true);
            c.due("as it was " + k, Told.state(x), states[k]);
        }
        x.nights(1);
        c.due("the seed stays", x.kept(0, 3), d.draw(3));
        c.due("and another act", x.has(10), 1);
    }

    private static void undoRefused(Check c) {
        c.by("false, refused (4), when none can be.");
        WrongCook x = Check.opened(THREE);
        c.due("none yet", x.undo(), false);
        c.due("refused", Told.refusals(x), "0 0 0 0 1 0 ");
        x.want(0, 0);
        c.due("one", x.undo(), true);
        c.due("not refused", Told.refusals(x), "0 0 0 0 1 0 ");
        x.image();
        String before = Told.state(x);
        c.due("none", x.undo(), false);
        c.due("refused", Told.refusals(x), "0 0 0 0 2 0 ");
        c.due("all stays", Told.state(x), before);
        c.due("of no case", new WrongCook().undo(), false);
    }

    private static void actsAlone(Check c) {
        c.by("ACTS: a RING is tried; a HOLDER wants somebody else; NIGHTS by the seed:");
        WrongCook x = Check.opened(THREE);
        Check.judge(x, 0, 1);
        Check.note(x, 0, 0, 1);
        x.seed(3);
        x.image();
        Check.ask(x, "often all");
        Check.ring(x, 0, 0);
        x.want(0, 1);
        x.nights(0);
        Check.open(x, "held");
        c.due("none of these", x.has(10), 0);
        Check.ring(x, 0, 1);
        c.due("a ring", x.has(10), 1);
        x.want(0, 0);
        c.due("a wish", x.has(10), 2);
        x.nights(5);
        c.due("nights", x.has(10), 3);
        c.due("back to two", x.undo(), true);
        c.due("two", x.has(10), 2);
    }

    private static void lastThirty(Check c) {
        c.by("how many HOLDERS, the first one; the last 30 are told.");
        for (int nights = 29; nights <= 32; nights++) {
            WrongCook x = Check.opened(THREE);
            x.nights(nights);
            int told = Math.min(30, nights);
            c.due("told", x.has(8), told);
            c.due("the oldest", x.kept(0, 0), nights - told);
            c.due("the latest", x.kept(told - 1, 0), nights - 1);
            c.due("one more", x.kept(told, 0), -1);
        }
        WrongCook x = Check.opened(THREE);
        x.nights(30);
        x.nights(1);
        c.due("the first is gone", x.kept(0, 0), 1);
        x.undo();
        c.due("the first is back", x.kept(0, 0), 0);
        c.due("the thirtieth, too", x.kept(29, 0), 29);
        x.nights(100);
        c.due("the latest of a hundred", x.kept(29, 0), 129);
        x.undo();
        c.due("undone", x.kept(29, 0), 29);
        x.undo();
        c.due("none", x.has(8), 0);
    }

    private static void seeds(Check c) {
        c.by("The seed: true; false, refused (5), when it is below 0. (It is 1 at first.)");
        WrongCook x = Check.opened(Told.people("abcdef"));
        x.nights(1);
        Draws first = new Draws(1);
        c.due("it is 1 at first", x.kept(0, 3), first.draw(6));
        first.draw(5);
        first.draw(100);
        c.due("-1", x.seed(-1), false);
        c.due("lowest", x.seed(Integer.MIN_VALUE), false);
        c.due("refused", Told.refusals(x), "0 0 0 0 0 2 ");
        x.nights(1);
        c.due("the seed stays", x.kept(1, 3), first.draw(6));
        int[] good = {0, 1, 2, Integer.MAX_VALUE};
        for (int seed : good) {
            c.due("seed " + seed, x.seed(seed), true);
            x.nights(1);
            c.due("by seed " + seed, x.kept(x.has(8) - 1, 3), new Draws(seed).draw(6));
        }
        c.due("not refused", Told.refusals(x), "0 0 0 0 0 2 ");
        c.due("a seed is no act", x.has(10), 6);
    }
}
