/** At the boundaries of notes (section III, promises 22 to 24). */
final class EdgeNoteTest {
    private static final int[] FAR = {Integer.MIN_VALUE, -2, 64, Integer.MAX_VALUE};

    public static void main(String[] args) {
        Check c = new Check();
        howManyRows(c);
        threeBytes(c);
        noneSuch(c);
        takesThePlace(c);
        waysOfAll(c);
        waysLeft(c);
        canHave(c);
        canNone(c);
        nextFewest(c);
        nextFirst(c);
        nextNone(c);
        c.finish();
    }

    private static void howManyRows(Check c) {
        c.by("The tape (it goes) tells NOTES, 1 to 20 rows of three bytes: how many rows;");
        for (int rows = 0; rows <= 22; rows++) {
            WrongCook x = Check.opened(Told.people("abc"));
            boolean good = rows >= 1 && rows <= 20;
            c.due("so many rows", Check.note(x, new int[3 * rows]), good ? rows : -1);
            c.due("has so many", x.has(9), good ? rows : 0);
            c.due("refused", x.status(1), good ? 0 : 1);
            c.due("ways", x.can(-1), good ? 4 : 6);
        }
        int[] lengths = {1, 2, 4, 5, 58, 59, 61, 62};
        for (int length : lengths) {
            WrongCook x = Check.opened(Told.people("abc"));
            c.due("so many bytes", Check.note(x, new int[length]), -1);
            c.due("refused", Told.refusals(x), "0 1 0 0 0 0 ");
        }
    }

    private static void threeBytes(Check c) {
        c.by("NOTES are rows of HOLDER, HELD, 1 if he has her, else 0:");
        String[] texts = {Told.people("a"), Told.helds(4) + Told.holders("abc", 5), Told.people("abcdef")};
        int[][] many = {{1, 1}, {3, 4}, {6, 6}};
        for (int k = 0; k < texts.length; k++) {
            WrongCook x = Check.opened(texts[k]);
            int holders = many[k][0];
            int helds = many[k][1];
            int[][] good = {{0, 0, 0}, {0, 0, 1}, {holders - 1, 0, 1}, {0, helds - 1, 1}, {holders - 1, helds - 1, 0}};
            for (int[] row : good) {
                c.due("good", Check.note(x, row), 1);
            }
            int[][] bad = {{holders, 0, 0}, {0, helds, 0}, {0, 0, 2}, {0, 0, 3}, {0, 0, 255}, {255, 0, 0}, {0, 255, 0},
                {holders, helds, 0}, {128, 0, 0}, {0, 128, 0}, {0, 0, 128}};
            for (int[] row : bad) {
                c.due("bad", Check.note(x, row), -1);
                c.due("bad behind a good one", Check.note(x, 0, 0, 0, row[0], row[1], row[2]), -1);
                c.due("bad ahead of a good one", Check.note(x, row[0], row[1], row[2], 0, 0, 0), -1);
            }
            c.due("refused", x.status(1), 3 * bad.length);
        }
        c.due("no holders", Check.note(Check.opened(Told.helds(2)), 0, 0, 0), -1);
    }

    private static void noneSuch(Check c) {
        c.by("NONE, refused (1), all staying, when it is none such.");
        int[][] rows = {{}, {0}, {0, 0}, {0, 0, 0, 0}, {3, 0, 0}, {0, 3, 0}, {0, 0, 2}, {0, 0, 1, 1, 1, 2}, new int[63]};
        for (int[] row : rows) {
            WrongCook x = Told.used();
            int next = x.next(0) * 100 + x.next(1) * 10 + x.next(2);
            String before = Told.state(x);
            c.due("note", Check.note(x, row), -1);
            c.due("all stays", Told.state(x), before);
            c.due("what to ask stays", x.next(0) * 100 + x.next(1) * 10 + x.next(2), next);
            c.due("refused", Told.refusals(x), "0 1 0 0 0 0 ");
        }
    }

    private static void takesThePlace(Check c) {
        c.by("The tape (it goes) tells NOTES, 1 to 20 rows of three bytes: how many rows;");
        WrongCook x = Check.opened(Told.people("abc"));
        Check.note(x, 0, 0, 1, 1, 1, 1);
        c.due("one way", x.can(-1), 1);
        c.due("the latest tape", Check.note(x, 2, 0, 1), 1);
        c.due("alone", x.has(9), 1);
        c.due("two ways", x.can(-1), 2);
        c.due("no act", x.has(10), 0);
        Check.ring(x, 0, 1);
        x.nights(1);
        x.undo();
        Check.resume(x, Check.image(x));
        c.due("acts do not matter", x.has(9) * 10 + x.can(-1), 12);
        c.by("Without one all is as at first, nothing is KEPT, NOTED or can be undone;");
        Check.open(x, Told.people("abc"));
        c.due("of another case none", x.has(9), 0);
        c.due("all ways", x.can(-1), 6);
    }

    private static void waysOfAll(Check c) {
        c.by("ways in which HOLDERS can have so many HELD of all, one each, by which it is so.");
        int[][] due = {{1}, {1, 1}, {1, 2, 2}, {1, 3, 6, 6}, {1, 4, 12, 24, 24}, {1, 5, 20, 60, 120, 120},
            {1, 6, 30, 120, 360, 720, 720}};
        for (int helds = 0; helds <= 6; helds++) {
            for (int holders = 0; holders <= helds; holders++) {
                WrongCook x = Check.opened(Told.helds(helds) + Told.holders("aaaaaa".substring(0, holders), 5));
                c.due(holders + " of " + helds, x.can(-1), due[helds][holders]);
                for (int holder = 0; holder < holders; holder++) {
                    c.due("each can have all", x.can(holder), (1 << helds) - 1);
                }
            }
        }
    }

    private static void waysLeft(Check c) {
        c.by("ways in which HOLDERS can have so many HELD of all, one each, by which it is so.");
        WrongCook x = Check.opened(Told.people("abcdef"));
        int[][] notes = {{5, 5, 1}, {5, 5, 0}, {0, 0, 1, 0, 0, 1}, {0, 0, 1, 0, 0, 0}, {0, 0, 1, 1, 0, 1}, {0, 0, 1, 0, 1, 1},
            {0, 0, 1, 1, 0, 0}, {0, 0, 0, 1, 0, 0, 2, 0, 0, 3, 0, 0, 4, 0, 0}, {0, 0, 0, 1, 0, 0, 2, 0, 0, 3, 0, 0, 4, 0, 0, 5, 0, 0},
            {0, 0, 1, 1, 1, 1, 2, 2, 1, 3, 3, 1, 4, 4, 1}, {0, 0, 0, 0, 1, 0, 0, 2, 0, 0, 3, 0, 0, 4, 0, 0, 5, 0},
            {0, 0, 0, 0, 1, 0, 1, 0, 0, 1, 1, 0}};
        int[] due = {120, 600, 120, 0, 0, 0, 120, 120, 0, 1, 0, 288};
        for (int k = 0; k < notes.length; k++) {
            c.due("rows " + k, Check.note(x, notes[k]), notes[k].length / 3);
            c.due("ways " + k, x.can(-1), due[k]);
        }
        WrongCook free = Check.opened(Told.helds(6) + Told.holders("ab", 5));
        Check.note(free, 0, 0, 0, 1, 0, 0);
        c.due("nobody has the first", free.can(-1), 20);
        c.due("that can be", free.can(0) * 100 + free.can(1), 6262);
    }

    private static void canHave(Check c) {
        c.by("By NOTES (all ways, if there are none): in how many ways (holder NONE), whom a HOLDER can have, as bits of HELD.");
        WrongCook x = Check.opened(Told.people("abcdef"));
        Check.note(x, 0, 5, 1);
        c.due("the last", x.can(0), 32);
        for (int holder = 1; holder < 6; holder++) {
            c.due("all but the last", x.can(holder), 31);
        }
        // p and q have a and b by what they have not: so nobody else has.
        Check.note(x, 0, 2, 0, 0, 3, 0, 0, 4, 0, 0, 5, 0, 1, 2, 0, 1, 3, 0, 1, 4, 0, 1, 5, 0);
        c.due("p", x.can(0), 3);
        c.due("q", x.can(1), 3);
        c.due("r, whom no note tells of", x.can(2), 60);
        c.due("ways", x.can(-1), 48);
        Check.note(x, 0, 0, 1, 0, 0, 0);
        c.due("without a way", x.can(-1), 0);
        for (int holder = 0; holder < 6; holder++) {
            c.due("nobody at all", x.can(holder), 0);
        }
    }

    private static void canNone(Check c) {
        c.by("whom a HOLDER can have, as bits of HELD. NONE when there is none such.");
        WrongCook x = Check.opened(Told.helds(4) + Told.holders("abc", 5));
        c.due("holder NONE", x.can(-1), 24);
        c.due("holder 0", x.can(0), 15);
        c.due("holder 2", x.can(2), 15);
        c.due("holder 3", x.can(3), -1);
        for (int far : FAR) {
            c.due("far " + far, x.can(far), -1);
        }
        c.due("holder 5 of six", Check.opened(Told.people("abcdef")).can(5), 63);
        c.due("holder 6 of six", Check.opened(Told.people("abcdef")).can(6), -1);
        c.due("of no case", new WrongCook().can(0), -1);
        c.due("the one way of no case", new WrongCook().can(-1), 1);
    }

    private static void next(Check c, WrongCook x, int holder, int held, int left) {
        c.due("the holder", x.next(0), holder);
        c.due("the held", x.next(1), held);
        c.due("ways left", x.next(2), left);
    }

    private static void nextFewest(Check c) {
        c.by("NEXT to ask: the HOLDER and the HELD by which, answered either way, the most ways that are left are fewest;");
        next(c, Check.opened(Told.people("a")), 0, 0, 1);
        next(c, Check.opened(Told.people("ab")), 0, 0, 1);
        next(c, Check.opened(Told.people("abc")), 0, 0, 4);
        next(c, Check.opened(Told.people("abcdef")), 0, 0, 600);
        WrongCook x = Check.opened(Told.people("abc"));
        // p has a: q has b or c.
        Check.note(x, 0, 0, 1);
        next(c, x, 1, 1, 1);
        // p has b or c, q any one yet: c by r is in one of four ways, b by p in two.
        Check.note(x, 0, 0, 0);
        next(c, x, 0, 1, 2);
        // p has c: q has a or b, a is the first.
        Check.note(x, 0, 2, 1);
        next(c, x, 1, 0, 1);
        // Only the last holder and the last held halve the ways.
        WrongCook six = Check.opened(Told.people("abcdef"));
        Check.note(six, 0, 0, 1, 1, 1, 1, 2, 2, 1, 3, 3, 1);
        next(c, six, 4, 4, 1);
        Check.note(six, 5, 0, 0, 5, 1, 0, 5, 2, 0, 5, 3, 0);
        next(c, six, 5, 4, 120);
    }

    private static void nextFirst(Check c) {
        c.by("the most ways that are left are fewest; of like ones the first.");
        WrongCook x = Check.opened(Told.people("abcd"));
        next(c, x, 0, 0, 18);
        // r has c or d: each of the two halves the ways, c is the first.
        Check.note(x, 2, 0, 0, 2, 1, 0);
        next(c, x, 2, 2, 6);
        // r and s have c and d: four questions of theirs halve the ways; so do those of p and q, the first ones.
        Check.note(x, 2, 0, 0, 2, 1, 0, 3, 0, 0, 3, 1, 0);
        next(c, x, 0, 0, 2);
        // One way alone: whatever is asked leaves it.
        Check.note(x, 0, 3, 1, 1, 2, 1, 2, 1, 1);
        next(c, x, 0, 0, 1);
    }

    private static void nextNone(Check c) {
        c.by("how many ways are left at the most (2). NONE without a way, without HOLDERS, or for others.");
        WrongCook x = Check.opened(Told.people("ab"));
        int[] others = {-1, 3, 4, Integer.MIN_VALUE, Integer.MAX_VALUE};
        for (int what : others) {
            c.due("what " + what, x.next(what), -1);
        }
        c.due("what 0", x.next(0), 0);
        c.due("what 2", x.next(2), 1);
        Check.note(x, 0, 0, 1, 1, 0, 1);
        next(c, x, -1, -1, -1);
        next(c, new WrongCook(), -1, -1, -1);
        next(c, Check.opened(Told.helds(6)), -1, -1, -1);
        Check.note(x, 0, 0, 1);
        next(c, x, 0, 0, 1);
    }
}
