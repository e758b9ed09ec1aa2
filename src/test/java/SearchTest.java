/** Promises 15 to 21: what could be. */
final class SearchTest {
    private static final String SIX =
            "held a salt 1;held b salt 1;held c salt 1;held d salt 1;held e salt 1;held f salt 1;";

    public static void main(String[] args) {
        Check c = new Check();
        needed(c);
        meetings(c);
        gain(c);
        trade(c);
        together(c);
        clear(c);
        on(c);
        c.finish();
    }

    /** Holders p, q, r, ... who have a, b, c, ... and want the letters of the word. */
    private static String wanting(String word) {
        StringBuilder text = new StringBuilder(SIX);
        for (int k = 0; k < word.length(); k++) {
            text.append("holder ").append((char) ('p' + k)).append(" has ").append((char) ('a' + k));
            text.append(" wants ").append(word.charAt(k)).append(" purse 0;");
        }
        return text.toString();
    }

    private static void needed(Check c) {
        WrongCook x = Check.opened(wanting("bcadfe"));
        int[] due = {3, 3, 3, 1, 2, 2};
        for (int k = 0; k < 6; k++) {
            c.due("needed " + k, x.needed(k), due[k]);
        }
        c.due("needed 6", x.needed(6), -1);
        c.due("needed -1", x.needed(-1), -1);
        x.want(4, 4);
        c.due("two want e", x.needed(0), -1);
        c.due("two want e", x.needed(5), -1);
        c.due("six", Check.opened(wanting("bcdefa")).needed(3), 6);
        WrongCook y = Check.opened(wanting("bac"));
        c.due("needed", y.needed(1), 2);
        y.want(2, 5);
        c.due("f is held by nobody", y.needed(0), -1);
        c.due("f is held by nobody", y.meetings(2), -1);
        y.want(2, 0);
        c.due("two want a", y.meetings(3), -1);
    }

    private static void meetings(Check c, String text, int two, int three) {
        WrongCook x = Check.opened(text);
        c.due("meetings of two " + text, x.meetings(2), two);
        c.due("meetings of three " + text, x.meetings(3), three);
    }

    private static void meetings(Check c) {
        meetings(c, wanting(""), 0, 0);
        meetings(c, wanting("a"), 0, 0);
        meetings(c, wanting("ab"), 0, 0);
        meetings(c, wanting("ba"), 1, 1);
        meetings(c, wanting("ba") + "feud p q;", -1, -1);
        meetings(c, wanting("bca"), 2, 1);
        meetings(c, wanting("cab"), 2, 1);
        meetings(c, wanting("bcda"), 3, 2);
        meetings(c, wanting("badc"), 2, 2);
        meetings(c, wanting("bcdefa"), 5, 3);
        meetings(c, wanting("badcfe"), 3, 3);
        meetings(c, wanting("bcaefd"), 4, 2);
        // Only next ones of a row may meet: as many swaps as there are pairs in the wrong order.
        String row = "feud p r;feud p s;feud p t;feud p u;feud q s;feud q t;feud q u;feud r t;feud r u;feud s u;";
        meetings(c, wanting("fedcba") + row, 15, 15);
        meetings(c, wanting("bcdefa") + row, 5, 5);
        meetings(c, wanting("cba") + "feud p r;", 3, 3);
        meetings(c, wanting("bcad") + "feud p q;feud p r;feud p s;", -1, -1);
        // Swaps and pays do not count.
        meetings(c, wanting("bca") + "swaps not all;pays 9;", 2, 1);
        WrongCook x = Check.opened(wanting("bca"));
        c.due("meetings 1", x.meetings(1), -1);
        c.due("meetings 4", x.meetings(4), -1);
        c.due("meetings -1", x.meetings(-1), -1);
        Check.ring(x, 0, 1);
        c.due("nearer", x.meetings(2) + 10 * x.meetings(3), 11);
        x.undo();
        c.due("further", x.meetings(2) + 10 * x.meetings(3), 12);
        Check.ring(x, 2, 1, 0);
        c.due("there", x.meetings(2) + 10 * x.meetings(3), 0);
        Check.open(x, wanting("ba") + "feud p q;");
        c.due("of the new case", x.meetings(2), -1);
        c.due("of the new case", x.meetings(3), -1);
    }

    private static void gain(Check c) {
        WrongCook x = Check.opened(wanting("abcd") + "values p a 3;values p b 4;values p c 5;values p d 9;"
                + "values q b 1;values q a 2;values r c 5;values r a 5;values s a 1;feud p s;");
        int[] bits = {2, 1, 0, 0};
        for (int k = 0; k < 4; k++) {
            c.due("gain bits " + k, x.gain(k, 1), bits[k]);
            c.due("gain count " + k, x.gain(k, 0), Integer.bitCount(bits[k]));
        }
        c.due("gain what", x.gain(0, 2), -1);
        c.due("gain what", x.gain(0, -1), -1);
        c.due("gain whom", x.gain(4, 0), -1);
        c.due("gain whom", x.gain(-1, 0), -1);
    }

    private static void trade(Check c) {
        // p and q point at each other, r at p, s at r, t at himself though she is like others, u at t.
        WrongCook x = Check.opened(wanting("abcdef") + "values p b 5;values q a 5;values r a 9;values r d 3;"
                + "values s c 8;values s a 8;values s b 7;values t e 0;values u e 2;values u f 1;");
        int[][] due = {{1, 1, 2}, {0, 1, 2}, {3, 3, 2}, {2, 3, 2}, {4, 1, 1}, {5, 2, 1}};
        // s points at the first of like ones, a, in round 1, and at c behind it; r at d.
        due[2][1] = 2;
        due[3][1] = 2;
        for (int k = 0; k < 6; k++) {
            for (int what = 0; what < 3; what++) {
                c.due("trade " + k + " " + what, x.trade(k, what), due[k][what]);
            }
        }
        c.due("trade what", x.trade(0, 3), -1);
        c.due("trade what", x.trade(0, -1), -1);
        c.due("trade whom", x.trade(6, 0), -1);
        c.due("trade whom", x.trade(-1, 0), -1);
        WrongCook y = Check.opened(wanting("abc") + "values p b 5;values p c 5;values r a 5;values q b 1;");
        c.due("p points at b first, so c comes later", y.trade(0, 0), 2);
        c.due("p is not in round 1", y.trade(0, 1), 2);
        c.due("q stays with b, in round 1", y.trade(1, 1), 1);
        c.due("p and r then", y.trade(2, 1), 2);
        WrongCook round = Check.opened(wanting("abcdef") + "values p b 1;values q c 1;values r d 1;values s e 1;"
                + "values t f 1;values u a 1;");
        c.due("all six in a ring", round.trade(3, 2), 6);
        c.due("in round 1", round.trade(5, 1), 1);
        // Each points at the one ahead, who leaves first.
        WrongCook chain = Check.opened(wanting("abcdef") + "values q a 9;values r a 9;values r b 8;values s a 9;values s b 8;"
                + "values s c 7;values t a 9;values t b 8;values t c 7;values t d 6;values u a 9;values u b 8;values u c 7;"
                + "values u d 6;values u e 5;");
        for (int k = 0; k < 6; k++) {
            c.due("rounds, one by one " + k, chain.trade(k, 1), k + 1);
        }
        WrongCook z = Check.opened(wanting("abc") + "values p f 9;");
        c.due("whom nobody holds does not count", z.trade(0, 1), 1);
    }

    private static void together(Check c) {
        WrongCook x = Check.opened(wanting("abcd") + "values p b 5;values q a 5;values r d 7;values s d 4;values s c 7;"
                + "values q c 10;feud p q;");
        // p q: 10; r s: 7 + 7 - 4 = 10; q r: 10. The first two of like ones; the feud does not count.
        c.due("one", x.together(0), 0);
        c.due("other", x.together(1), 1);
        c.due("more", x.together(2), 10);
        c.due("what 3", x.together(3), -1);
        c.due("what -1", x.together(-1), -1);
        x = Check.opened(wanting("ab") + "values p b 5;values q b 5;");
        for (int what = 0; what < 3; what++) {
            c.due("nobody " + what, x.together(what), -1);
        }
        x = Check.opened(wanting("abc") + "values q c 2;values p c 1;");
        c.due("one", x.together(0), 1);
        c.due("other", x.together(1), 2);
        c.due("more", x.together(2), 2);
    }

    private static void clear(Check c) {
        WrongCook x = Check.opened("fog 33;");
        int[] due = {1000000, 670000, 448900, 300763, 201511, 135012};
        for (int k = 0; k < due.length; k++) {
            c.due("clear " + k, x.clear(k), due[k]);
        }
        c.due("clear 6", x.clear(6), -1);
        c.due("clear -1", x.clear(-1), -1);
        WrongCook y = Check.opened("fog 100;");
        c.due("clear 0 in fog", y.clear(0), 1000000);
        c.due("clear 5 in fog", y.clear(5), 0);
        c.due("99 and 5", Check.opened("fog 99;").clear(3), 1);
        c.due("99 and 5", Check.opened("fog 99;").clear(4), 0);
    }

    private static void on(Check c) {
        WrongCook x = Check.opened(wanting("abcde") + "sister a d;sister d a;sister b f;sister f b;sister c d;");
        c.due("no way yet", x.on(0), -1);
        Check.ring(x, 0, 1);
        Check.ring(x, 0, 1);
        Check.ring(x, 2, 1);
        Check.ring(x, 2, 1);
        Check.ring(x, 2, 3);
        Check.ring(x, 2, 3);
        c.due("three steps", x.on(0), 3);
        c.due("back", x.on(3), 3);
        c.due("one step", x.on(2), 1);
        c.due("the sister is held by nobody", x.on(1), -1);
        c.due("she is held by nobody", x.on(5), -1);
        c.due("without a sister", x.on(4), -1);
        c.due("none such", x.on(6), -1);
        c.due("none such", x.on(-1), -1);
        // In a ring of four only one of two next ones has met the other.
        WrongCook y = Check.opened(wanting("abcd") + "sister a b;sister b a;");
        Check.ring(y, 0, 1, 2, 3);
        c.due("either one met the other", y.on(0) * 10 + y.on(1), 11);
        c.due("sister of a new case", Check.opened(wanting("ab")).on(0), -1);
    }
}
