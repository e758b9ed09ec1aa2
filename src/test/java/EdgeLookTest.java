/** At the boundaries of what is looked at: promises 5 to 12. */
final class EdgeLookTest {
    private static final int[] FAR = {Integer.MIN_VALUE, -1000, 1000, Integer.MAX_VALUE};
    private static final String CASE = "held z salt 0;held zoe salt 99;held azazaz salt 50;held b salt 1;"
            + "holder y has zoe wants z purse 999;holder abcdef has z wants z purse 0;holder q has b wants z purse 7;"
            + "values y zoe 99;values abcdef z 1;values q z 5;feud abcdef y;sister z zoe;sister azazaz z;fog 100;";

    public static void main(String[] args) {
        Check c = new Check();
        faults(c);
        faultsOther(c);
        counts(c);
        countsOther(c);
        settledNone(c);
        lettersOf(c);
        lettersNone(c);
        heldEach(c);
        heldNone(c);
        holderEach(c);
        holderNone(c);
        valuesEach(c);
        metEach(c);
        keptEach(c);
        keptNone(c);
        c.finish();
    }

    private static void faults(Check c) {
        c.by("Of the latest open() or ask(): its FAULT (what 0; 0 without, and ahead of any), its place (1; NONE without).");
        WrongCook x = new WrongCook();
        c.due("ahead of any", x.fault(0), 0);
        c.due("its place", x.fault(1), -1);
        Check.open(x, "held a salt 100;");
        c.due("of open", x.fault(0) * 100 + x.fault(1), 212);
        Check.judge(x, 0, 0);
        Check.note(x, 1);
        Check.ring(x, 1);
        Check.resume(x, 1);
        c.due("of open yet", x.fault(0) * 100 + x.fault(1), 212);
        Check.ask(x, "often al");
        c.due("of ask", x.fault(0) * 100 + x.fault(1), 106);
        Check.ask(x, "often all");
        c.due("without", x.fault(0), 0);
        c.due("no place without", x.fault(1), -1);
        Check.open(x, "x");
        c.due("at place 0", x.fault(0) * 100 + x.fault(1), 100);
        x.open();
        c.due("an empty case is without", x.fault(0), 0);
        c.due("no place of an empty case", x.fault(1), -1);
        x.ask();
        c.due("an empty question", x.fault(0) * 100 + x.fault(1), 100);
        Check.open(x, "held a salt 1;");
        c.due("without again", x.fault(0), 0);
        c.due("no place again", x.fault(1), -1);
    }

    private static void faultsOther(Check c) {
        c.by("NONE for another what.");
        WrongCook x = new WrongCook();
        c.due("-1", x.fault(-1), -1);
        c.due("2", x.fault(2), -1);
        Check.open(x, "fog 101;");
        c.due("0", x.fault(0), 2);
        c.due("1", x.fault(1), 4);
        c.due("-1", x.fault(-1), -1);
        c.due("2", x.fault(2), -1);
        for (int far : FAR) {
            c.due("far " + far, x.fault(far), -1);
        }
    }

    private static void counts(Check c) {
        c.by("How many there are: 0 HELD, 1 HOLDERS, 2 FEUDS, 3 fog, 4 NIGHT, 5 SETTLED HOLDERS, 6 coins of all together,"
                + " 7 what all value of whom they have, together, 8 what is told as KEPT, 9 rows of NOTES,"
                + " 10 ACTS that can be undone.");
        WrongCook x = Check.opened(CASE);
        int[] due = {4, 3, 1, 100, 0, 1, 1006, 100, 0, 0, 0};
        for (int what = 0; what < due.length; what++) {
            c.due("has " + what, x.has(what), due[what]);
        }
        x.nights(2);
        Check.note(x, 0, 0, 0, 0, 1, 0, 0, 2, 0);
        x.want(0, 1);
        int[] then = {4, 3, 1, 100, 2, 2, 1006, 100, 2, 3, 2};
        for (int what = 0; what < then.length; what++) {
            c.due("has then " + what, x.has(what), then[what]);
        }
        WrongCook most = Check.opened(Told.helds(6) + Told.holders("abcdef", 999) + Told.feuds(6, 10));
        c.due("the most held", most.has(0), 6);
        c.due("the most holders", most.has(1), 6);
        c.due("the most feuds", most.has(2), 10);
        c.due("all settled", most.has(5), 6);
        c.due("coins of all", most.has(6), 5994);
        c.due("worth of all", most.has(7), 0);
    }

    private static void countsOther(Check c) {
        c.by("10 ACTS that can be undone. NONE for others.");
        WrongCook x = Check.opened(CASE);
        c.due("-1", x.has(-1), -1);
        c.due("10", x.has(10), 0);
        c.due("11", x.has(11), -1);
        for (int far : FAR) {
            c.due("far " + far, x.has(far), -1);
        }
    }

    private static void settledNone(Check c) {
        c.by("SETTLED is a HOLDER who has whom he wants.");
        WrongCook x = Check.opened(Told.people("ba"));
        c.due("nobody", x.has(5), 0);
        c.due("not the one", x.holder(0, 3), 0);
        Check.ring(x, 0, 1);
        c.due("both", x.has(5), 2);
        c.due("the one", x.holder(0, 3), 1);
        x.want(0, 0);
        c.due("one", x.has(5), 1);
        c.due("not the one who wants another", x.holder(0, 3), 0);
        c.due("the other", x.holder(1, 3), 1);
    }

    private static void lettersOf(Check c) {
        c.by("Letter k (0 .. 5) of the NAME of a HELD (kind 0), a HOLDER (1): 1 .. 26; 0 behind it");
        WrongCook x = Check.opened(CASE);
        int[][] helds = {{26, 0, 0, 0, 0, 0}, {26, 15, 5, 0, 0, 0}, {1, 26, 1, 26, 1, 26}, {2, 0, 0, 0, 0, 0}};
        int[][] holders = {{25, 0, 0, 0, 0, 0}, {1, 2, 3, 4, 5, 6}, {17, 0, 0, 0, 0, 0}};
        for (int k = 0; k < 6; k++) {
            for (int one = 0; one < 4; one++) {
                c.due("letter " + k + " of held " + one, x.letter(0, one, k), helds[one][k]);
            }
            for (int one = 0; one < 3; one++) {
                c.due("letter " + k + " of holder " + one, x.letter(1, one, k), holders[one][k]);
            }
        }
        WrongCook all = Check.opened("held abcdef salt 1;held ghijkl salt 1;held mnopqr salt 1;held stuvwx salt 1;held yz salt 1;");
        for (int k = 0; k < 26; k++) {
            c.due("letter of the alphabet " + k, all.letter(0, k / 6, k % 6), k + 1);
        }
    }

    private static void lettersNone(Check c) {
        c.by("1 .. 26; 0 behind it; NONE when there is none such.");
        WrongCook x = Check.opened(CASE);
        for (int kind = 0; kind < 2; kind++) {
            int many = 4 - kind;
            c.due("letter -1", x.letter(kind, 0, -1), -1);
            c.due("letter 5", x.letter(kind, 0, 5), 0);
            c.due("letter 6", x.letter(kind, 0, 6), -1);
            c.due("number -1", x.letter(kind, -1, 0), -1);
            c.due("the last one", x.letter(kind, many - 1, 0) > 0, true);
            c.due("one more", x.letter(kind, many, 0), -1);
            c.due("kind -1", x.letter(-1, kind, 0), -1);
            c.due("kind 2", x.letter(2, kind, 0), -1);
            for (int far : FAR) {
                c.due("far letter", x.letter(kind, 0, far), -1);
                c.due("far one", x.letter(kind, far, 0), -1);
                c.due("far kind", x.letter(far, 0, 0), -1);
            }
        }
        WrongCook six = Check.opened(Told.people("abcdef"));
        c.due("the sixth held", six.letter(0, 5, 0), 6);
        c.due("a seventh held", six.letter(0, 6, 0), -1);
        c.due("the sixth holder", six.letter(1, 5, 0), 21);
        c.due("a seventh holder", six.letter(1, 6, 0), -1);
    }

    private static void heldEach(Check c) {
        c.by("Of a HELD: 0 salt, 1 who has her (NONE), 2 her sister (NONE), 3 how many want her.");
        WrongCook x = Check.opened(CASE);
        int[][] due = {{0, 1, 1, 3}, {99, 0, -1, 0}, {50, -1, 0, 0}, {1, 2, -1, 0}};
        for (int held = 0; held < 4; held++) {
            for (int what = 0; what < 4; what++) {
                c.due("held " + held + ": " + what, x.held(held, what), due[held][what]);
            }
        }
        WrongCook six = Check.opened(Told.people("ffffff") + "sister a f;sister f a;");
        c.due("all six want the last", six.held(5, 3), 6);
        c.due("who has the last", six.held(5, 1), 5);
        c.due("the last's sister", six.held(5, 2), 0);
        c.due("the first's sister", six.held(0, 2), 5);
        x.want(1, 3);
        c.due("two want her", x.held(0, 3), 2);
        c.due("one wants her", x.held(3, 3), 1);
    }

    private static void heldNone(Check c) {
        c.by("3 how many want her. NONE when there is none such, or for others.");
        WrongCook x = Check.opened(CASE);
        for (int what = 0; what < 4; what++) {
            c.due("held -1", x.held(-1, what), -1);
            c.due("held 4", x.held(4, what), -1);
            for (int far : FAR) {
                c.due("held " + far, x.held(far, what), -1);
            }
        }
        c.due("what -1", x.held(0, -1), -1);
        c.due("what 4", x.held(0, 4), -1);
        for (int far : FAR) {
            c.due("what " + far, x.held(0, far), -1);
        }
        WrongCook six = Check.opened(Told.people("abcdef"));
        c.due("held 5", six.held(5, 0), 1);
        c.due("held 6", six.held(6, 0), -1);
    }

    private static void holderEach(Check c) {
        c.by("Of a HOLDER: 0 whom he has, 1 whom he wants, 2 purse, 3 whether SETTLED, 4 with whom he has a FEUD, as bits of HOLDERS.");
        WrongCook x = Check.opened(CASE);
        int[][] due = {{1, 0, 999, 0, 2}, {0, 0, 0, 1, 1}, {3, 0, 7, 0, 0}};
        for (int holder = 0; holder < 3; holder++) {
            for (int what = 0; what < 5; what++) {
                c.due("holder " + holder + ": " + what, x.holder(holder, what), due[holder][what]);
            }
        }
        WrongCook six = Check.opened(Told.people("abcdef") + "feud u p;feud u q;feud r u;feud u s;feud t u;");
        c.due("feuds with all others", six.holder(5, 4), 31);
        c.due("a feud with the last", six.holder(0, 4), 32);
        c.due("whom the last has", six.holder(5, 0), 5);
    }

    private static void holderNone(Check c) {
        c.by("4 with whom he has a FEUD, as bits of HOLDERS. NONE when there is none such, or for others.");
        WrongCook x = Check.opened(CASE);
        for (int what = 0; what < 5; what++) {
            c.due("holder -1", x.holder(-1, what), -1);
            c.due("holder 3", x.holder(3, what), -1);
            for (int far : FAR) {
                c.due("holder " + far, x.holder(far, what), -1);
            }
        }
        c.due("what -1", x.holder(0, -1), -1);
        c.due("what 5", x.holder(0, 5), -1);
        for (int far : FAR) {
            c.due("what " + far, x.holder(0, far), -1);
        }
        WrongCook six = Check.opened(Told.people("abcdef"));
        c.due("holder 5", six.holder(5, 2), 5);
        c.due("holder 6", six.holder(6, 2), -1);
    }

    private static void valuesEach(Check c) {
        c.by("What a HOLDER values a HELD; NONE when there are none such.");
        WrongCook x = Check.opened(CASE);
        int[][] due = {{0, 99, 0, 0}, {1, 0, 0, 0}, {5, 0, 0, 0}};
        for (int holder = 0; holder < 3; holder++) {
            for (int held = 0; held < 4; held++) {
                c.due("values " + holder + " " + held, x.values(holder, held), due[holder][held]);
            }
            c.due("held -1", x.values(holder, -1), -1);
            c.due("held 4", x.values(holder, 4), -1);
        }
        c.due("holder -1", x.values(-1, 0), -1);
        c.due("holder 3", x.values(3, 0), -1);
        c.due("neither", x.values(3, 4), -1);
        for (int far : FAR) {
            c.due("holder " + far, x.values(far, 0), -1);
            c.due("held " + far, x.values(0, far), -1);
        }
        WrongCook six = Check.opened(Told.people("abcdef") + "values u f 42;");
        c.due("the last of each", six.values(5, 5), 42);
        c.due("holder 6", six.values(6, 5), -1);
        c.due("held 6", six.values(5, 6), -1);
    }

    private static void metEach(Check c) {
        c.by("How often a HOLDER has MET another one; NONE when there are none such.");
        WrongCook x = Check.opened(Told.people("abc"));
        Check.ring(x, 0, 1, 2);
        Check.ring(x, 2, 1);
        int[][] due = {{0, 0, 1}, {1, 0, 1}, {0, 2, 0}};
        for (int holder = 0; holder < 3; holder++) {
            for (int other = 0; other < 3; other++) {
                if (holder != other) {
                    c.due("met " + holder + " " + other, x.met(holder, other), due[holder][other]);
                }
            }
            c.due("other -1", x.met(holder, -1), -1);
            c.due("other 3", x.met(holder, 3), -1);
            c.due("holder -1", x.met(-1, holder), -1);
            c.due("holder 3", x.met(3, holder), -1);
        }
        for (int far : FAR) {
            c.due("holder " + far, x.met(far, 0), -1);
            c.due("other " + far, x.met(0, far), -1);
        }
        WrongCook six = Check.opened(Told.people("abcdef"));
        Check.ring(six, 4, 5);
        c.due("the last two", six.met(4, 5) + six.met(5, 4), 2);
        c.due("holder 6", six.met(6, 5), -1);
        c.due("other 6", six.met(5, 6), -1);
    }

    private static void keptEach(Check c) {
        c.by("KEPT is each RING that was tried: NIGHT, why it did not COME ABOUT (0 it did, 4 by fog), how many HOLDERS, the first one;"
                + " the last 30 are told.");
        WrongCook x = Check.opened(Told.people("abcdef") + "feud p q;swaps met<2;pays met*9;");
        int[][] rows = {{5, 4, 3, 2, 1}, {1, 0, 2}, {3, 2}, {3, 2}};
        int[] due = {0, 1, 3, 3};
        for (int k = 0; k < rows.length; k++) {
            c.due("ring " + k, Check.ring(x, rows[k]), due[k]);
        }
        c.due("all of them", x.has(8), 4);
        int[][] told = {{0, 0, 5, 5}, {0, 1, 3, 1}, {0, 3, 2, 3}, {0, 3, 2, 3}};
        for (int k = 0; k < told.length; k++) {
            for (int what = 0; what < 4; what++) {
                c.due("kept " + k + ": " + what, x.kept(k, what), told[k][what]);
            }
        }
        for (int many = 5; many <= 29; many++) {
            Check.ring(x, 0, 1);
            c.due("so many", x.has(8), many);
        }
        Check.ring(x, 4, 3, 2);
        c.due("thirty", x.has(8), 30);
        c.due("the oldest", x.kept(0, 2), 5);
        c.due("the thirtieth", x.kept(29, 3), 4);
        Check.ring(x, 1, 0);
        c.due("thirty-one: thirty are told", x.has(8), 30);
        c.due("the oldest is gone", x.kept(0, 2), 3);
        c.due("the latest", x.kept(29, 3), 1);
        c.due("the one ahead of it", x.kept(28, 3), 4);
        c.due("not one more", x.kept(30, 3), -1);
    }

    private static void keptNone(Check c) {
        c.by("the k-th from the oldest on: 0 NIGHT, 1 why not (0, 1 .. 4), 2 how many HOLDERS, 3 the first one."
                + " NONE when there is none such, or for others.");
        WrongCook x = Check.opened(Told.people("ab"));
        c.due("none yet", x.kept(0, 0), -1);
        Check.ring(x, 1, 0);
        x.nights(1);
        c.due("k -1", x.kept(-1, 0), -1);
        c.due("k 1", x.kept(1, 2), 2);
        c.due("k 2", x.kept(2, 0), -1);
        c.due("what -1", x.kept(0, -1), -1);
        c.due("what 0", x.kept(0, 0), 0);
        c.due("what 3", x.kept(0, 3), 1);
        c.due("what 4", x.kept(0, 4), -1);
        for (int far : FAR) {
            c.due("k " + far, x.kept(far, 0), -1);
            c.due("what " + far, x.kept(0, far), -1);
        }
        // The night of 9999 is the latest at which a ring can be tried.
        Check.resume(x, Told.sealed(39, 15, 0, 0, 0, 5, 0, 0, 1, 1, 0, 5, 0, 0, 0));
        Check.ring(x, 1, 0);
        c.due("night 9999", x.kept(0, 0), 9999);
        c.due("why", x.kept(0, 1), 0);
        c.due("how many", x.kept(0, 2), 2);
        c.due("the first", x.kept(0, 3), 1);
    }
}
