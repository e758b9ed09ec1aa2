/** At the boundaries of images (section IV, promises 31 to 33). */
final class EdgeImageTest {
    private static final String TWO = "held a salt 1;held b salt 1;held c salt 1;"
            + "holder p has a wants b purse 5;holder q has c wants b purse 6;";
    // Of TWO: night, then of each holder whom he has, whom he wants, his purse, his meetings; the last byte.
    private static final int[] GOOD = Told.sealed(0, 9, 0, 1, 0, 8, 0, 1, 2, 1, 0, 7, 1, 0, 0);

    public static void main(String[] args) {
        Check c = new Check();
        bytes(c);
        highFirst(c);
        lastByte(c);
        octets(c);
        latest(c);
        resumed(c);
        nights(c);
        purses(c);
        met(c);
        helds(c);
        wrongLength(c);
        wrongLastByte(c);
        allStaying(c);
        noneKept(c);
        everyByte(c);
        c.finish();
    }

    private static void bytes(Check c) {
        c.by("AN IMAGE: NIGHT (two bytes, the higher first); for each HOLDER whom he has, whom he wants, his purse (two bytes),"
                + " how often he MET each HOLDER;");
        int[] sizes = {3, 8, 15, 24, 35, 48, 63};
        for (int holders = 0; holders <= 6; holders++) {
            WrongCook x = Check.opened(Told.helds(6) + Told.holders("fedcba".substring(0, holders), 300));
            c.due("bytes of " + holders, x.image(), sizes[holders]);
            c.due("the last byte", x.octet(sizes[holders] - 1) >= 0, true);
            c.due("none behind", x.octet(sizes[holders]), -1);
            for (int holder = 0; holder < holders; holder++) {
                int place = 2 + holder * (4 + holders);
                c.due("has", x.octet(place), holder);
                c.due("wants", x.octet(place + 1), 5 - holder);
                c.due("purse", x.octet(place + 2) * 256 + x.octet(place + 3), 300);
            }
        }
        WrongCook x = Check.opened(TWO);
        Check.ring(x, 0, 1);
        Check.ring(x, 1, 0);
        Check.ring(x, 0, 1);
        x.want(0, 0);
        x.nights(0);
        int[] due = Told.sealed(0, 0, 2, 0, 0, 5, 0, 3, 0, 1, 0, 6, 3, 0, 0);
        c.due("how many", x.image(), due.length);
        for (int k = 0; k < due.length; k++) {
            c.due("byte " + k, x.octet(k), due[k]);
        }
    }

    private static void highFirst(Check c) {
        c.by("NIGHT (two bytes, the higher first);");
        int[] numbers = {0, 1, 255, 256, 257, 511, 512, 9983, 9984, 9999};
        for (int number : numbers) {
            WrongCook x = Check.opened(Told.people("a"));
            c.due("resume", Check.resume(x, Told.sealed(number / 256, number % 256, 0, 0, number / 256, number % 256, 0, 0)), true);
            c.due("night", x.has(4), number);
            c.due("purse", x.holder(0, 2), number);
            x.image();
            c.due("night, higher", x.octet(0), number / 256);
            c.due("night, lower", x.octet(1), number % 256);
            c.due("purse, higher", x.octet(4), number / 256);
            c.due("purse, lower", x.octet(5), number % 256);
        }
    }

    private static void lastByte(Check c) {
        c.by("last a byte: all ahead from 17 on, c = (3 c + it) mod 251.");
        WrongCook x = new WrongCook();
        c.due("of no case", x.image(), 3);
        c.due("17, 51, 153", x.octet(2), 153);
        // Without holders it is 153 and three times the higher and the lower byte of the night, mod 251.
        int[][] rows = {{0, 153}, {1, 154}, {97, 250}, {98, 0}, {99, 1}, {255, 157}, {256, 156}, {9999, 34}};
        for (int[] row : rows) {
            WrongCook y = new WrongCook();
            c.due("resume", Check.resume(y, row[0] / 256, row[0] % 256, row[1]), true);
            y.image();
            c.due("last byte of night " + row[0], y.octet(2), row[1]);
        }
    }

    private static void octets(Check c) {
        c.by("Byte k of the latest image(); NONE when there is none such.");
        WrongCook x = Check.opened(TWO);
        c.due("ahead of any", x.octet(0), -1);
        x.image();
        c.due("-1", x.octet(-1), -1);
        c.due("0", x.octet(0), 0);
        c.due("14", x.octet(14) >= 0, true);
        c.due("15", x.octet(15), -1);
        int[] far = {Integer.MIN_VALUE, 62, 63, 64, Integer.MAX_VALUE};
        for (int k : far) {
            c.due("far " + k, x.octet(k), -1);
        }
        WrongCook six = Check.opened(Told.people("abcdef"));
        six.image();
        c.due("62 of six", six.octet(62) >= 0, true);
        c.due("63 of six", six.octet(63), -1);
    }

    private static void latest(Check c) {
        c.by("Byte k of the latest image(); NONE when there is none such.");
        WrongCook x = Check.opened(TWO);
        x.image();
        x.nights(3);
        c.due("of the latest image", x.octet(1), 0);
        x.undo();
        x.image();
        x.nights(4);
        Check.resume(x, GOOD.clone());
        c.due("of the latest image yet", x.octet(1), 0);
        c.due("as many", x.image(), 15);
        c.due("the next one", x.octet(1), 9);
        Check.open(x, "");
        c.due("a shorter one", x.image(), 3);
        c.due("its last byte", x.octet(2), 153);
        c.due("none behind it", x.octet(3), -1);
    }

    private static void resumed(Check c) {
        c.by("`boolean resume()`: The tape (it goes) is AN IMAGE of this CASE: true, all is as it tells");
        WrongCook x = Check.opened(TWO);
        c.due("resume", Check.resume(x, GOOD.clone()), true);
        c.due("night", x.has(4), 9);
        int[][] due = {{0, 1, 8}, {2, 1, 7}};
        for (int holder = 0; holder < 2; holder++) {
            for (int what = 0; what < 3; what++) {
                c.due("holder " + holder + ": " + what, x.holder(holder, what), due[holder][what]);
            }
        }
        c.due("met", x.met(0, 1) * 10 + x.met(1, 0), 11);
        c.due("not refused", Told.refusals(x), "0 0 0 0 0 0 ");
        int[] again = Check.image(x);
        for (int k = 0; k < GOOD.length; k++) {
            c.due("written again " + k, again[k], GOOD[k]);
        }
        WrongCook y = Told.used();
        int[] image = Check.image(y);
        String before = Told.state(y).replaceAll("; kept[^;]*", "");
        Check.ring(y, 2, 0);
        y.want(1, 1);
        y.nights(2);
        c.due("back", Check.resume(y, image), true);
        c.due("night", y.has(4), 2);
        c.due("all but what is kept and can be undone", Told.state(y).replaceAll("has .*?;", ""), before.replaceAll("has .*?;", ""));
    }

    private static void nights(Check c) {
        c.by("when it is none (NIGHTS, purses 9999, MET 99 at most, himself 0; HELD that there are, no one had by two)");
        int[] good = {0, 1, 9998, 9999};
        int[] bad = {10000, 10001, 10239, 10240, 32768, 65535};
        for (int night : good) {
            WrongCook x = Check.opened(TWO);
            c.due("night " + night, Check.resume(x, Told.changed(Told.changed(GOOD, 0, night / 256), 1, night % 256)), true);
            c.due("it is so", x.has(4), night);
        }
        for (int night : bad) {
            refused(c, "night " + night, Told.changed(Told.changed(GOOD, 0, night / 256), 1, night % 256));
        }
    }

    private static void purses(Check c) {
        c.by("when it is none (NIGHTS, purses 9999, MET 99 at most, himself 0; HELD that there are, no one had by two)");
        int[] good = {0, 1, 9998, 9999};
        int[] bad = {10000, 10001, 10239, 10240, 32768, 65535};
        for (int holder = 0; holder < 2; holder++) {
            int place = 4 + 6 * holder;
            for (int purse : good) {
                WrongCook x = Check.opened(TWO);
                c.due("purse", Check.resume(x, Told.changed(Told.changed(GOOD, place, purse / 256), place + 1, purse % 256)), true);
                c.due("it is so", x.holder(holder, 2), purse);
            }
            for (int purse : bad) {
                refused(c, "purse " + purse, Told.changed(Told.changed(GOOD, place, purse / 256), place + 1, purse % 256));
            }
        }
    }

    private static void met(Check c) {
        c.by("when it is none (NIGHTS, purses 9999, MET 99 at most, himself 0; HELD that there are, no one had by two)");
        int[] places = {7, 12};
        for (int place : places) {
            for (int met = 98; met <= 99; met++) {
                WrongCook x = Check.opened(TWO);
                c.due("met", Check.resume(x, Told.changed(GOOD, place, met)), true);
                c.due("it is so", place == 7 ? x.met(0, 1) : x.met(1, 0), met);
            }
            c.due("met 0", Check.resume(Check.opened(TWO), Told.changed(GOOD, place, 0)), true);
            refused(c, "met 100", Told.changed(GOOD, place, 100));
            refused(c, "met 128", Told.changed(GOOD, place, 128));
            refused(c, "met 255", Told.changed(GOOD, place, 255));
        }
        int[] himself = {6, 13};
        for (int place : himself) {
            refused(c, "himself 1", Told.changed(GOOD, place, 1));
            refused(c, "himself 99", Told.changed(GOOD, place, 99));
            refused(c, "himself 255", Told.changed(GOOD, place, 255));
        }
    }

    private static void helds(Check c) {
        c.by("when it is none (NIGHTS, purses 9999, MET 99 at most, himself 0; HELD that there are, no one had by two)");
        // p has one of 0 .. 2 but for q's 2; q's may not be p's 0; both may want any one, the same one, too.
        for (int held = 0; held <= 3; held++) {
            boolean there = held < 3;
            resumedIf(c, "p has " + held, Told.changed(GOOD, 2, held), there && held != 2);
            resumedIf(c, "p wants " + held, Told.changed(GOOD, 3, held), there);
            resumedIf(c, "q has " + held, Told.changed(GOOD, 8, held), there && held != 0);
            resumedIf(c, "q wants " + held, Told.changed(GOOD, 9, held), there);
        }
        int[] far = {4, 6, 31, 32, 34, 64, 128, 255};
        int[] places = {2, 3, 8, 9};
        for (int held : far) {
            for (int place : places) {
                refused(c, "held " + held + " at " + place, Told.changed(GOOD, place, held));
            }
        }
        WrongCook six = Check.opened(Told.people("abcdef"));
        int[] image = Check.image(six);
        c.due("the sixth is wanted", Check.resume(six, Told.changed(image, 3, 5)), true);
        c.due("a seventh is not", Check.resume(six, Told.changed(image, 3, 6)), false);
        c.due("the sixth is had by two", Check.resume(six, Told.changed(image, 2, 5)), false);
    }

    private static void resumedIf(Check c, String what, int[] image, boolean good) {
        if (good) {
            c.due(what, Check.resume(Check.opened(TWO), image), true);
        } else {
            refused(c, what, image);
        }
    }

    /** That it is refused, all staying. */
    private static void refused(Check c, String what, int[] image) {
        WrongCook x = Check.opened(TWO);
        Check.ring(x, 0, 1);
        x.nights(2);
        x.image();
        String before = Told.state(x);
        c.due(what, Check.resume(x, image), false);
        c.due("all stays: " + what, Told.state(x), before);
        c.due("refused: " + what, Told.refusals(x), "0 0 0 0 0 1 ");
    }

    private static void wrongLength(Check c) {
        c.by("AN IMAGE of this CASE: true,");
        refused(c, "none", new int[0]);
        refused(c, "one byte", Told.sealed(0));
        refused(c, "of no case", Told.sealed(0, 9, 0));
        refused(c, "of one holder", Told.sealed(0, 9, 0, 1, 0, 8, 0, 0));
        refused(c, "a byte short", Told.sealed(0, 9, 0, 1, 0, 8, 0, 1, 2, 1, 0, 7, 1, 0));
        refused(c, "a byte long", Told.sealed(0, 9, 0, 1, 0, 8, 0, 1, 2, 1, 0, 7, 1, 0, 0, 0));
        int[] longer = java.util.Arrays.copyOf(GOOD, 16);
        refused(c, "a byte behind", longer);
        refused(c, "without the last byte", java.util.Arrays.copyOf(GOOD, 14));
        refused(c, "of three holders", Told.sealed(0, 9, 0, 1, 0, 8, 0, 1, 1, 2, 1, 0, 7, 1, 0, 1, 1, 1, 0, 7, 1, 1, 0, 0));
        c.due("of no case", Check.resume(new WrongCook(), Told.sealed(0, 9, 0)), true);
        c.due("too short of no case", Check.resume(new WrongCook(), Told.sealed(0, 0)), false);
        c.due("too long of no case", Check.resume(new WrongCook(), Told.sealed(0, 9, 0, 0)), false);
        c.due("an empty tape", new WrongCook().resume(), false);
    }

    private static void wrongLastByte(Check c) {
        c.by("last a byte: all ahead from 17 on, c = (3 c + it) mod 251.");
        for (int octet = 0; octet < 256; octet++) {
            int[] image = GOOD.clone();
            image[14] = octet;
            if (octet != GOOD[14]) {
                refused(c, "last byte " + octet, image);
            }
        }
        // A last byte that is too great by 251 is none, though it leaves the same.
        for (int night = 0; night < 256; night++) {
            int[] image = Told.sealed(0, night, 0);
            if (image[2] <= 4) {
                c.due("last byte", Check.resume(new WrongCook(), image.clone()), true);
                image[2] += 251;
                c.due("251 more", Check.resume(new WrongCook(), image), false);
            }
        }
    }

    private static void allStaying(Check c) {
        c.by("false, refused (5), when it is none");
        WrongCook x = Told.used();
        x.seed(31);
        String before = Told.state(x);
        int acts = x.has(10);
        c.due("none", Check.resume(x, GOOD.clone()), false);
        c.due("all stays", Told.state(x), before);
        c.due("refused", Told.refusals(x), "0 0 0 0 0 1 ");
        WrongCook y = Told.used();
        y.seed(31);
        x.nights(2);
        y.nights(2);
        c.due("the seed, too", Told.state(x), Told.state(y));
        for (int k = 0; k <= acts; k++) {
            c.due("acts, too", x.undo(), true);
        }
        c.due("no more", x.undo(), false);
    }

    private static void noneKept(Check c) {
        c.by("true, all is as it tells, nothing is KEPT or can be undone;");
        WrongCook x = Told.used();
        x.seed(12);
        int[] image = Check.image(x);
        c.due("kept", x.has(8) > 0, true);
        c.due("acts", x.has(10) > 0, true);
        c.due("resume", Check.resume(x, image), true);
        c.due("none kept", x.has(8), 0);
        c.due("kept 0", x.kept(0, 0), -1);
        c.due("no acts", x.has(10), 0);
        c.due("none can be undone", x.undo(), false);
        c.due("notes stay", x.has(9), 2);
        c.due("judged stays", x.judged(1), 2);
        x.nights(1);
        c.due("one kept", x.has(8), 1);
        c.due("at its night", x.kept(0, 0), 2);
        c.due("the seed stays", x.kept(0, 3), (int) ((1103515245L * 12 + 12345) % (1L << 31) / 64 % 3));
        c.due("one act", x.undo(), true);
        c.due("back at the image's night", x.has(4), 2);
        c.due("none kept", x.has(8), 0);
    }

    private static void everyByte(Check c) {
        c.by("AN IMAGE of this CASE: true,");
        for (int place = 0; place < 14; place++) {
            int[] image = GOOD.clone();
            image[place] ^= 1;
            boolean fits = Told.sealed(image.clone())[14] == GOOD[14];
            c.due("fits", fits, false);
            refused(c, "another byte " + place, image);
        }
    }
}
