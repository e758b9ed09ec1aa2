/** Promises 31, 32 and 33: images. */
final class ImageTest {
    private static final String CASE =
            "held a salt 10;held b salt 20;held c salt 30;"
            + "holder p has a wants b purse 300;holder q has c wants b purse 5;";

    public static void main(String[] args) {
        Check c = new Check();
        writing(c);
        resuming(c);
        refusing(c);
        c.finish();
    }

    /** With the last byte that is due. */
    private static int[] sealed(int... octets) {
        int check = 17;
        for (int k = 0; k < octets.length - 1; k++) {
            check = (3 * check + octets[k]) % 251;
        }
        octets[octets.length - 1] = check;
        return octets;
    }

    private static void writing(Check c) {
        WrongCook x = Check.opened(CASE + "fog 100;");
        x.nights(100);
        x.nights(100);
        x.nights(100);
        Check.ring(x, 0, 1);
        int[] due = sealed(1, 44, 2, 1, 1, 44, 0, 1, 0, 1, 0, 5, 1, 0, 0);
        c.due("before any", x.octet(0), -1);
        c.due("how many", x.image(), due.length);
        x.nights(7);
        for (int k = 0; k < due.length; k++) {
            c.due("octet " + k, x.octet(k), due[k]);
        }
        c.due("octet behind", x.octet(due.length), -1);
        c.due("octet -1", x.octet(-1), -1);
        WrongCook late = new WrongCook();
        late.nights(100);
        late.nights(100);
        late.nights(56);
        late.image();
        c.due("night 256", late.octet(0) * 1000 + late.octet(1), 1000);
        Check.open(x, "");
        c.due("of the latest image", x.octet(1), 44);
        c.due("a shorter one", x.image(), 3);
        c.due("none behind it", x.octet(3), -1);
    }

    private static void resuming(Check c) {
        WrongCook x = Check.opened(CASE);
        Check.judge(x, 0, 1);
        Check.ring(x, 0, 1);
        x.nights(3);
        c.due("resume", Check.resume(x, sealed(39, 15, 1, 2, 39, 15, 0, 99, 0, 0, 0, 0, 3, 0, 0)), true);
        c.due("night", x.has(4), 9999);
        c.due("p has", x.holder(0, 0), 1);
        c.due("p wants", x.holder(0, 1), 2);
        c.due("p's purse", x.holder(0, 2), 9999);
        c.due("p met q", x.met(0, 1), 99);
        c.due("q has", x.holder(1, 0), 0);
        c.due("q wants whom he has", x.holder(1, 3), 1);
        c.due("q's purse", x.holder(1, 2), 0);
        c.due("q met p", x.met(1, 0), 3);
        c.due("nothing kept", x.has(8), 0);
        c.due("nothing to undo", x.undo(), false);
        c.due("judged stays", x.judged(1), 0);
        c.due("refused none", x.status(5), 0);
        c.due("the tape goes", x.end(1), false);
        int[] there = Check.image(x);
        Check.open(x, CASE);
        c.due("there and back", Check.resume(x, there), true);
        c.due("again", x.met(0, 1), 99);
    }

    private static void refusing(Check c) {
        WrongCook x = Check.opened(CASE);
        x.want(0, 2);
        int[] good = sealed(0, 9, 0, 1, 0, 8, 0, 1, 2, 1, 0, 7, 1, 0, 0);
        c.due("good", Check.resume(Check.opened(CASE), good.clone()), true);
        // A place and what it may not be.
        int[][] wrong = {{0, 40}, {2, 3}, {3, 3}, {4, 40}, {6, 1}, {7, 100}, {8, 0}, {8, 255}, {9, 3}, {12, 100}, {13, 1}};
        int refused = 0;
        for (int[] one : wrong) {
            int[] bad = good.clone();
            bad[one[0]] = one[1];
            c.due("wrong at " + one[0], Check.resume(x, sealed(bad)), false);
            c.due("the tape goes", x.end(1), false);
            refused++;
        }
        int[] night = good.clone();
        night[0] = 39;
        night[1] = 16;
        c.due("night 10000", Check.resume(x, sealed(night)), false);
        int[] purse = good.clone();
        purse[10] = 39;
        purse[11] = 16;
        c.due("10000 coins", Check.resume(x, sealed(purse)), false);
        int[] check = good.clone();
        check[14] = (check[14] + 1) % 251;
        c.due("the last byte", Check.resume(x, check), false);
        int[] other = good.clone();
        other[1] = 10;
        c.due("another byte", Check.resume(x, other), false);
        c.due("too long", Check.resume(x, sealed(0, 9, 0, 1, 0, 8, 0, 1, 2, 1, 0, 7, 1, 0, 0, 0)), false);
        c.due("too short", Check.resume(x, sealed(0, 9, 0, 1, 0, 8, 0, 1, 2, 1, 0, 7, 1, 0)), false);
        c.due("of another case", Check.resume(x, sealed(0, 9, 0)), false);
        c.due("empty", Check.resume(x), false);
        refused += 8;
        c.due("refused", x.status(5), refused);
        c.due("all stays", x.holder(0, 0) + 10 * x.holder(0, 1) + 100 * x.holder(0, 2), 30020);
        c.due("night stays", x.has(4), 0);
        c.due("acts stay", x.has(10), 1);
        c.due("none of an empty case but three bytes", Check.resume(new WrongCook(), sealed(1, 0, 0)), true);
        c.due("no bytes", new WrongCook().resume(), false);
    }
}
