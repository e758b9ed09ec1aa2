/** At the boundaries of what could be (section III, promises 15 to 21). */
final class EdgeSearchTest {
    private static final int[] FAR = {Integer.MIN_VALUE, -2, 64, Integer.MAX_VALUE};

    public static void main(String[] args) {
        Check c = new Check();
        neededSizes(c);
        neededNone(c);
        meetingsFewest(c);
        meetingsFeuds(c);
        meetingsNone(c);
        gainMore(c);
        gainNone(c);
        tradePoints(c);
        tradeLikeOnes(c);
        tradeRounds(c);
        tradeNone(c);
        togetherMore(c);
        togetherFirst(c);
        togetherNone(c);
        clearMillionths(c);
        clearNone(c);
        onSteps(c);
        onNone(c);
        nothingChanges(c);
        c.finish();
    }

    private static void neededSizes(Check c) {
        c.by("how many HOLDERS are in such a RING with one (1: he is SETTLED).");
        String[] wanted = {"a", "ba", "bca", "bcda", "bcdea", "bcdefa"};
        for (int size = 1; size <= 6; size++) {
            WrongCook x = Check.opened(Told.people(wanted[size - 1]));
            for (int holder = 0; holder < size; holder++) {
                c.due("of a ring of " + size, x.needed(holder), size);
            }
            c.due("one more", x.needed(size), -1);
            WrongCook y = Check.opened(Told.people(wanted[size - 1] + "abcdef".substring(size)));
            c.due("the first", y.needed(0), size);
            c.due("the last", y.needed(5), size == 6 ? 6 : 1);
        }
        WrongCook mixed = Check.opened(Told.people("dcbaef"));
        int[] due = {2, 2, 2, 2, 1, 1};
        for (int holder = 0; holder < 6; holder++) {
            c.due("two and two and one and one", mixed.needed(holder), due[holder]);
        }
        Check.ring(mixed, 0, 3);
        c.due("settled", mixed.needed(0) + mixed.needed(3), 2);
        WrongCook feud = Check.opened(Told.people("ba") + "feud p q;swaps not all;pays 9;");
        c.due("whatever else is so", feud.needed(0), 2);
    }

    private static void neededNone(Check c) {
        c.by("NEEDED: how many HOLDERS are in the RING of one. NONE when there is none such, or two want the same,"
                + " or a HELD whom one wants is held by nobody.");
        WrongCook x = Check.opened(Told.people("bca"));
        c.due("-1", x.needed(-1), -1);
        c.due("0", x.needed(0), 3);
        c.due("2", x.needed(2), 3);
        c.due("3", x.needed(3), -1);
        for (int far : FAR) {
            c.due("far " + far, x.needed(far), -1);
        }
        WrongCook same = Check.opened(Told.people("aacdef"));
        WrongCook last = Check.opened(Told.people("abcdee"));
        WrongCook nobody = Check.opened(Told.helds(6) + Told.holders("abcdf", 5));
        for (int holder = 0; holder < 5; holder++) {
            c.due("two want the first", same.needed(holder), -1);
            c.due("two want the fifth", last.needed(holder), -1);
            c.due("the fifth wants whom nobody has", nobody.needed(holder), -1);
        }
        same.want(1, 1);
        c.due("each another one now", same.needed(0), 1);
        nobody.want(4, 4);
        c.due("all held by holders now", nobody.needed(4), 1);
    }

    private static void meetings(Check c, String text, int two, int three) {
        WrongCook x = Check.opened(text);
        c.due("meetings of two: " + text, x.meetings(2), two);
        c.due("meetings of three: " + text, x.meetings(3), three);
    }

    private static void meetingsFewest(Check c) {
        c.by("MEETINGS of so many at once (2 or 3): the fewest RINGS of at most so many HOLDERS, none with a FEUD"
                + " (swaps, pays do not count), behind which all are SETTLED.");
        meetings(c, "", 0, 0);
        meetings(c, Told.helds(6), 0, 0);
        meetings(c, Told.people("a"), 0, 0);
        meetings(c, Told.people("abcdef"), 0, 0);
        meetings(c, Told.people("ba"), 1, 1);
        meetings(c, Told.people("abcdfe"), 1, 1);
        meetings(c, Told.people("bca"), 2, 1);
        meetings(c, Told.people("cab"), 2, 1);
        meetings(c, Told.people("abcefd"), 2, 1);
        meetings(c, Told.people("bcda"), 3, 2);
        meetings(c, Told.people("bcdea"), 4, 2);
        meetings(c, Told.people("bcdefa"), 5, 3);
        meetings(c, Told.people("fabcde"), 5, 3);
        meetings(c, Told.people("bacd"), 1, 1);
        meetings(c, Told.people("badc"), 2, 2);
        meetings(c, Told.people("badcfe"), 3, 3);
        meetings(c, Told.people("bcaefd"), 4, 2);
        meetings(c, Told.people("bacefd"), 3, 2);
        meetings(c, Told.people("badefc"), 4, 3);
        meetings(c, Told.people("bca") + "swaps not all;pays 999;fog 100;", 2, 1);
    }

    private static void meetingsFeuds(Check c) {
        c.by("the fewest RINGS of at most so many HOLDERS, none with a FEUD");
        meetings(c, Told.people("ba") + "feud p q;", -1, -1);
        meetings(c, Told.people("ab") + "feud p q;", 0, 0);
        meetings(c, Told.people("bac") + "feud p q;", 3, 3);
        meetings(c, Told.people("bca") + "feud p q;", 2, 2);
        meetings(c, Told.people("bca") + "feud p q;feud q r;", -1, -1);
        meetings(c, Told.people("bacd") + "feud p q;", 3, 3);
        // Only next ones of the row may meet: as many swaps as there are pairs in the wrong order.
        String row = "feud p r;feud p s;feud p t;feud p u;feud q s;feud q t;feud q u;feud r t;feud r u;feud s u;";
        meetings(c, Told.people("fedcba") + row, 15, 15);
        meetings(c, Told.people("bcdefa") + row, 5, 5);
        meetings(c, Told.people("abcdfe") + row, 1, 1);
        // One of them may meet nobody.
        meetings(c, Told.people("abcdfe") + "feud p q;feud p r;feud p s;feud p t;feud p u;", 1, 1);
        meetings(c, Told.people("bacdfe") + "feud p q;feud p r;feud p s;feud p t;feud p u;", -1, -1);
    }

    private static void meetingsNone(Check c) {
        c.by("MEETINGS of so many at once (2, 3): how many. NONE when it can't be, or for others.");
        WrongCook x = Check.opened(Told.people("bca"));
        int[] others = {Integer.MIN_VALUE, -1, 0, 1, 4, 5, 6, Integer.MAX_VALUE};
        for (int most : others) {
            c.due("of " + most, x.meetings(most), -1);
        }
        c.due("of two", x.meetings(2), 2);
        c.due("of three", x.meetings(3), 1);
        meetings(c, Told.people("aa"), -1, -1);
        meetings(c, Told.people("bb"), -1, -1);
        meetings(c, Told.helds(3) + Told.holders("cb", 5), -1, -1);
        x.want(0, 2);
        c.due("two want the same now", x.meetings(2), -1);
        x.undo();
        c.due("undone", x.meetings(2), 2);
        Check.ring(x, 2, 1, 0);
        c.due("there", x.meetings(2) + x.meetings(3), 0);
        Check.open(x, Told.people("bca") + "feud p q;");
        c.due("of another case", x.meetings(2) * 10 + x.meetings(3), 22);
        Check.open(x, Told.people("ba"));
        c.due("of a third case", x.meetings(2) * 10 + x.meetings(3), 11);
        Check.open(x, Told.people("bac"));
        c.due("without a feud", x.meetings(2) * 10 + x.meetings(3), 11);
        Check.open(x, Told.people("bac") + "feud p q;");
        c.due("with one", x.meetings(2) * 10 + x.meetings(3), 33);
    }

    private static void gainMore(Check c) {
        c.by("GAIN two, if each values whom the other one has more than whom he has (and they have no FEUD).");
        // p's worth of a and b, q's worth of b and a, whether both gain.
        int[][] rows = {{0, 1, 0, 1, 1}, {0, 0, 0, 1, 0}, {0, 1, 0, 0, 0}, {5, 5, 0, 1, 0}, {5, 6, 7, 7, 0}, {5, 6, 7, 8, 1},
            {98, 99, 98, 99, 1}, {99, 98, 0, 99, 0}, {0, 99, 99, 98, 0}, {0, 0, 0, 0, 0}};
        for (int[] row : rows) {
            String people = Told.people("ab") + "values p a " + row[0] + ";values p b " + row[1] + ";values q b " + row[2]
                    + ";values q a " + row[3] + ";";
            WrongCook x = Check.opened(people);
            WrongCook y = Check.opened(people + "feud q p;");
            for (int holder = 0; holder < 2; holder++) {
                c.due("how many", x.gain(holder, 0), row[4]);
                c.due("which", x.gain(holder, 1), row[4] == 1 ? 2 - holder : 0);
                c.due("a feud: how many", y.gain(holder, 0), 0);
                c.due("a feud: which", y.gain(holder, 1), 0);
            }
        }
        StringBuilder all = new StringBuilder(Told.people("abcdef"));
        for (int k = 1; k < 6; k++) {
            all.append("values p ").append((char) ('a' + k)).append(" 1;values ").append((char) ('p' + k)).append(" a 1;");
        }
        WrongCook six = Check.opened(all.toString());
        c.due("with all five others", six.gain(0, 0), 5);
        c.due("as bits", six.gain(0, 1), 62);
        c.due("the last with the first", six.gain(5, 1), 1);
        Check.open(six, all + "feud p u;");
        c.due("but for the feud", six.gain(0, 0) * 100 + six.gain(0, 1), 430);
        Check.open(six, all.toString());
        Check.ring(six, 0, 5);
        c.due("by whom they have now", six.gain(0, 0), 0);
    }

    private static void gainNone(Check c) {
        c.by("with which, as bits of HOLDERS (1). NONE when there is none such, or for others.");
        WrongCook x = Check.opened(Told.people("ab") + "values p b 1;values q a 1;");
        int[] others = {-1, 2, 3, Integer.MIN_VALUE, Integer.MAX_VALUE};
        for (int other : others) {
            c.due("what " + other, x.gain(0, other), -1);
            c.due("holder " + other, x.gain(other, 0), -1);
            c.due("holder " + other, x.gain(other, 1), -1);
        }
        c.due("what 0", x.gain(1, 0), 1);
        c.due("what 1", x.gain(1, 1), 1);
        c.due("holder 5 of six", Check.opened(Told.people("abcdef")).gain(5, 0), 0);
        c.due("holder 6 of six", Check.opened(Told.people("abcdef")).gain(6, 0), -1);
    }

    /** Of each holder whom he gets, his round, how many are in his ring. */
    private static void trade(Check c, String text, int[][] due) {
        WrongCook x = Check.opened(text);
        for (int holder = 0; holder < due.length; holder++) {
            for (int what = 0; what < 3; what++) {
                c.due("trade " + holder + " " + what + ": " + text, x.trade(holder, what), due[holder][what]);
            }
        }
        c.due("one more", x.trade(due.length, 0), -1);
    }

    private static void tradePoints(Check c) {
        c.by("TRADING: round by round each HOLDER who is left points at who has whom he values most, of those who are left");
        trade(c, Told.people("a"), new int[][] {{0, 1, 1}});
        trade(c, Told.people("ab") + "values p b 1;values q a 1;", new int[][] {{1, 1, 2}, {0, 1, 2}});
        trade(c, Told.people("ab") + "values p b 1;", new int[][] {{0, 2, 1}, {1, 1, 1}});
        trade(c, Told.people("abc") + "values p b 1;values q c 1;values r a 1;", new int[][] {{1, 1, 3}, {2, 1, 3}, {0, 1, 3}});
        // Whom nobody has does not count, though she is worth most.
        trade(c, Told.helds(3) + Told.holders("ab", 5) + "values p c 99;values p b 1;values q a 1;",
                new int[][] {{1, 1, 2}, {0, 1, 2}});
        // Feuds, swaps, pays do not count.
        trade(c, Told.people("ab") + "values p b 1;values q a 1;feud p q;swaps not all;pays 99;",
                new int[][] {{1, 1, 2}, {0, 1, 2}});
    }

    private static void tradeLikeOnes(Check c) {
        c.by("(himself, if she is among these; of like others the first HELD)");
        // All are like ones: each is left with whom he has.
        trade(c, Told.people("abc"), new int[][] {{0, 1, 1}, {1, 1, 1}, {2, 1, 1}});
        trade(c, Told.people("ab") + "values p a 5;values p b 5;values q a 9;values q b 9;", new int[][] {{0, 1, 1}, {1, 1, 1}});
        trade(c, Told.people("ab") + "values p a 5;values p b 6;values q a 9;values q b 8;", new int[][] {{1, 1, 2}, {0, 1, 2}});
        // r likes a and b alike: a is the first held, though the holder of b is the first holder.
        String crossed = Told.helds(3) + "holder p has b wants a purse 5;holder q has a wants a purse 5;holder r has c wants a purse 5;"
                + "values r a 7;values r b 7;";
        trade(c, crossed + "values p c 9;values q c 9;", new int[][] {{1, 2, 1}, {2, 1, 2}, {0, 1, 2}});
        trade(c, crossed + "values r b 8;values p c 9;values q c 9;", new int[][] {{2, 1, 2}, {0, 2, 1}, {1, 1, 2}});
        // Of like others, the first who is left yet.
        trade(c, Told.people("abc") + "values r a 7;values r b 7;values p a 1;", new int[][] {{0, 1, 1}, {1, 1, 1}, {2, 2, 1}});
    }

    private static void tradeRounds(Check c) {
        c.by("who goes round in a ring gets her, and leaves; till nobody is left.");
        StringBuilder chain = new StringBuilder(Told.people("abcdef"));
        for (int k = 1; k < 6; k++) {
            for (int i = 0; i < k; i++) {
                chain.append("values ").append((char) ('p' + k)).append(' ').append((char) ('a' + i)).append(' ').append(9 - i).append(';');
            }
        }
        trade(c, chain.toString(), new int[][] {{0, 1, 1}, {1, 2, 1}, {2, 3, 1}, {3, 4, 1}, {4, 5, 1}, {5, 6, 1}});
        trade(c, Told.people("abcdef") + "values p b 1;values q c 1;values r d 1;values s e 1;values t f 1;values u a 1;",
                new int[][] {{1, 1, 6}, {2, 1, 6}, {3, 1, 6}, {4, 1, 6}, {5, 1, 6}, {0, 1, 6}});
        trade(c, Told.people("abcdef") + "values p b 1;values q a 1;values r d 1;values s c 1;values t f 1;values u e 1;",
                new int[][] {{1, 1, 2}, {0, 1, 2}, {3, 1, 2}, {2, 1, 2}, {5, 1, 2}, {4, 1, 2}});
        // Who points at a ring is not in it: r waits for p and q.
        trade(c, Told.people("abcd") + "values p b 9;values q a 9;values r a 9;values r d 8;values s c 9;",
                new int[][] {{1, 1, 2}, {0, 1, 2}, {3, 2, 2}, {2, 2, 2}});
    }

    private static void tradeNone(Check c) {
        c.by("how many are in his ring (2). NONE when there is none such, or for others.");
        WrongCook x = Check.opened(Told.people("ab"));
        int[] others = {-1, 3, 4, Integer.MIN_VALUE, Integer.MAX_VALUE};
        for (int other : others) {
            c.due("what " + other, x.trade(0, other), -1);
            c.due("holder " + other, x.trade(other, 0), -1);
            c.due("holder " + other, x.trade(other, 2), -1);
        }
        c.due("holder 2", x.trade(2, 0), -1);
        c.due("what 2", x.trade(1, 2), 1);
        Check.open(x, Told.helds(2));
        c.due("without holders", x.trade(0, 0), -1);
    }

    private static void together(Check c, String text, int one, int other, int more) {
        WrongCook x = Check.opened(text);
        c.due("the one: " + text, x.together(0), one);
        c.due("the other one: " + text, x.together(1), other);
        c.due("by how much: " + text, x.together(2), more);
    }

    private static void togetherMore(Check c) {
        c.by("BROUGHT TOGETHER: the two (by numbers) whose swap makes what all HOLDERS value of whom they have, together, most more;"
                + " nobody, if none makes it more;");
        together(c, Told.people("ab") + "values p b 1;", 0, 1, 1);
        together(c, Told.people("ab") + "values q a 1;", 0, 1, 1);
        together(c, Told.people("ab") + "values p b 1;values q b 1;", -1, -1, -1);
        together(c, Told.people("ab") + "values p a 1;values q a 1;", -1, -1, -1);
        together(c, Told.people("ab") + "values p b 2;values q b 1;", 0, 1, 1);
        together(c, Told.people("ab") + "values p a 1;", -1, -1, -1);
        together(c, Told.people("ab") + "values p b 99;values q a 99;", 0, 1, 198);
        together(c, Told.people("ab") + "values p b 5;values q a 5;values p a 9;values q b 9;", -1, -1, -1);
        together(c, Told.people("abc") + "values p b 5;values r b 6;", 1, 2, 6);
        together(c, Told.people("abcdef") + "values p b 5;values u e 6;", 4, 5, 6);
        together(c, Told.people("abcdef") + "values p f 5;values t a 4;", 0, 5, 5);
        together(c, Told.people("ab") + "values p b 1;feud p q;", 0, 1, 1);
    }

    private static void togetherFirst(Check c) {
        c.by("nobody, if none makes it more; of like ones the first two.");
        together(c, Told.people("abc") + "values p b 5;values p c 5;values q c 5;", 0, 1, 5);
        together(c, Told.people("abc") + "values p c 5;values q c 5;", 0, 2, 5);
        together(c, Told.people("abcd") + "values p d 5;values q c 5;values r d 5;", 0, 3, 5);
        together(c, Told.people("abcd") + "values q c 5;values r d 5;", 1, 2, 5);
        together(c, Told.people("abcd") + "values q c 5;values r d 6;", 2, 3, 6);
        together(c, Told.people("abcd") + "values q c 6;values r d 5;", 1, 2, 6);
    }

    private static void togetherNone(Check c) {
        c.by("by how much more (2). NONE when nobody is, or for others.");
        WrongCook x = Check.opened(Told.people("ab") + "values p b 3;");
        int[] others = {-1, 3, 4, Integer.MIN_VALUE, Integer.MAX_VALUE};
        for (int other : others) {
            c.due("what " + other, x.together(other), -1);
        }
        c.due("what 2", x.together(2), 3);
        together(c, "", -1, -1, -1);
        together(c, Told.people("a"), -1, -1, -1);
        Check.ring(x, 0, 1);
        c.due("they have met", x.together(2), -1);
    }

    private static void clearMillionths(Check c) {
        c.by("How likely so many RINGS (0 .. 5) all come about by fog alone, in millionths (floor);");
        int[] fogs = {0, 1, 33, 50, 67, 90, 99, 100};
        int[][] due = {{1000000, 1000000, 1000000, 1000000, 1000000, 1000000}, {1000000, 990000, 980100, 970299, 960596, 950990},
            {1000000, 670000, 448900, 300763, 201511, 135012}, {1000000, 500000, 250000, 125000, 62500, 31250},
            {1000000, 330000, 108900, 35937, 11859, 3913}, {1000000, 100000, 10000, 1000, 100, 10},
            {1000000, 10000, 100, 1, 0, 0}, {1000000, 0, 0, 0, 0, 0}};
        for (int k = 0; k < fogs.length; k++) {
            WrongCook x = Check.opened("fog " + fogs[k] + ";");
            for (int rings = 0; rings <= 5; rings++) {
                c.due("fog " + fogs[k] + ", rings " + rings, x.clear(rings), due[k][rings]);
            }
        }
    }

    private static void clearNone(Check c) {
        c.by("in millionths (floor); NONE for others.");
        WrongCook x = Check.opened("fog 50;");
        int[] others = {-1, 6, 7, Integer.MIN_VALUE, Integer.MAX_VALUE};
        for (int other : others) {
            c.due("rings " + other, x.clear(other), -1);
        }
        c.due("of no case", new WrongCook().clear(5), 1000000);
        c.due("of no case", new WrongCook().clear(6), -1);
    }

    private static void onSteps(Check c) {
        c.by("ON: from the HOLDER of a HELD to the one of her sister, step by step from one to another one,"
                + " of whom one has MET the other: the fewest steps.");
        String six = Told.people("abcdef");
        WrongCook x = Check.opened(six + "sister a f;sister f a;sister b a;sister c e;");
        c.due("no way yet", x.on(0), -1);
        // Each two next ones of the row meet twice, so that each has whom he had.
        for (int k = 0; k < 4; k++) {
            Check.ring(x, k, k + 1);
            Check.ring(x, k + 1, k);
        }
        c.due("no way to the last yet", x.on(0), -1);
        c.due("nor back", x.on(5), -1);
        Check.ring(x, 4, 5);
        Check.ring(x, 5, 4);
        c.due("five steps", x.on(0), 5);
        c.due("five back", x.on(5), 5);
        c.due("one", x.on(1), 1);
        c.due("two", x.on(2), 2);
        Check.ring(x, 1, 4);
        Check.ring(x, 4, 1);
        c.due("the fewest", x.on(0), 3);
        c.due("the fewest back", x.on(5), 3);
        Check.ring(x, 0, 5);
        c.due("one step, and they have changed places", x.on(0), 1);
        // In a ring of six each has met the one ahead of him alone.
        WrongCook y = Check.opened(six + "sister a d;sister b a;sister c e;");
        Check.ring(y, 0, 1, 2, 3, 4, 5);
        c.due("three steps, either way", y.on(0), 3);
        c.due("one, backwards", y.on(1), 1);
        c.due("two", y.on(2), 2);
        WrongCook met = Check.opened(Told.people("ab") + "sister a b;sister b a;");
        Check.resume(met, Told.sealed(0, 0, 0, 0, 0, 5, 0, 1, 1, 1, 0, 5, 0, 0, 0));
        c.due("one has met the other", met.on(0), 1);
        c.due("the other way", met.on(1), 1);
        Check.resume(met, Told.sealed(0, 0, 0, 0, 0, 5, 0, 0, 1, 1, 0, 5, 99, 0, 0));
        c.due("the other has met the one", met.on(0), 1);
        c.due("the other way", met.on(1), 1);
        Check.resume(met, Told.sealed(0, 0, 0, 0, 0, 5, 0, 0, 1, 1, 0, 5, 0, 0, 0));
        c.due("neither", met.on(0), -1);
    }

    private static void onNone(Check c) {
        c.by("how many steps; NONE when she has none, either is held by nobody, there is no way, or there is none such.");
        WrongCook x = Check.opened(Told.helds(4) + Told.holders("ab", 5) + "sister a b;sister b c;sister c a;");
        Check.ring(x, 0, 1);
        c.due("a way", x.on(0), 1);
        c.due("her sister is held by nobody", x.on(1), -1);
        c.due("she is held by nobody", x.on(2), -1);
        c.due("she has none", x.on(3), -1);
        c.due("none such", x.on(4), -1);
        c.due("-1", x.on(-1), -1);
        for (int far : FAR) {
            c.due("far " + far, x.on(far), -1);
        }
        WrongCook both = Check.opened(Told.helds(4) + Told.holders("ab", 5) + "sister c d;");
        Check.ring(both, 0, 1);
        c.due("both held by nobody", both.on(2), -1);
        c.due("no sister", both.on(0), -1);
        WrongCook apart = Check.opened(Told.people("abcd") + "sister a d;sister b c;");
        Check.ring(apart, 0, 1);
        Check.ring(apart, 2, 3);
        c.due("no way", apart.on(0), -1);
        c.due("no way", apart.on(1), -1);
    }

    private static void nothingChanges(Check c) {
        c.by("Nothing is promised beyond the answers and state changes described above");
        WrongCook x = Told.used();
        String before = Told.state(x);
        for (int k = -1; k < 7; k++) {
            x.needed(k);
            x.meetings(k);
            x.together(k);
            x.clear(k);
            x.on(k);
            x.next(k);
            x.can(k);
            x.gain(k, k & 1);
            x.trade(k, k & 1);
        }
        c.due("looking changes nothing", Told.state(x), before);
        c.due("nor is it refused", Told.refusals(x), "0 0 0 0 0 0 ");
    }
}
