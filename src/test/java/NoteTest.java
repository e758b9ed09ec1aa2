/** Promises 22, 23 and 24: notes, the ways that are left, what to ask next. */
final class NoteTest {
    private static final String CASE =
            "held a salt 1;held b salt 1;held c salt 1;held d salt 1;"
            + "holder p has a wants a purse 0;holder q has b wants a purse 0;holder r has c wants a purse 0;";

    public static void main(String[] args) {
        Check c = new Check();
        rows(c);
        ways(c);
        asking(c);
        c.finish();
    }

    private static void rows(Check c) {
        WrongCook x = Check.opened(CASE);
        c.due("two rows", Check.note(x, 0, 0, 1, 1, 1, 0), 2);
        int[][] wrong = {{}, {0}, {0, 0}, {0, 0, 1, 0}, {3, 0, 1}, {0, 4, 1}, {0, 0, 2}, {0, 0, 255},
            {255, 0, 0}, {0, 0, 1, 0, 0, 2}, new int[63]};
        for (int[] row : wrong) {
            c.due("wrong notes", Check.note(x, row), -1);
            c.due("the tape goes", x.end(1), false);
        }
        c.due("refused", x.status(1), wrong.length);
        c.due("all stays", x.has(9), 2);
        c.due("the ways, too", x.can(-1), 4);
        c.due("twenty rows", Check.note(x, new int[60]), 20);
        c.due("rows", x.has(9), 20);
        c.due("it is no act", x.has(10), 0);
        c.due("they take the place of the former ones", Check.note(x, 2, 3, 0), 1);
        c.due("ways", x.can(-1), 18);
        Check.ring(x, 0, 1);
        x.undo();
        Check.resume(x, Check.image(x));
        c.due("acts and images leave them", x.has(9), 1);
    }

    private static void ways(Check c) {
        WrongCook x = Check.opened(CASE);
        c.due("all ways", x.can(-1), 24);
        c.due("whom", x.can(2), 15);
        c.due("none such", x.can(3), -1);
        c.due("none such", x.can(-2), -1);
        Check.note(x, 0, 0, 0, 0, 1, 0, 0, 2, 0);
        c.due("p has d", x.can(-1), 6);
        c.due("p", x.can(0), 8);
        c.due("q", x.can(1), 7);
        Check.note(x, 0, 0, 0, 0, 1, 0, 1, 0, 0, 1, 1, 0, 2, 2, 1);
        c.due("p and q have c or d, r has c: no way", x.can(-1), 0);
        c.due("nobody", x.can(0) + x.can(1) + x.can(2), 0);
        Check.note(x, 0, 0, 1, 0, 0, 0);
        c.due("it is and is not so", x.can(-1), 0);
        Check.note(x, 0, 0, 1, 1, 0, 1);
        c.due("two have her", x.can(-1), 0);
        Check.note(x, 0, 2, 1, 0, 2, 1);
        c.due("told twice", x.can(-1), 6);
        c.due("ways of a case without holders", Check.opened("held a salt 1;").can(-1), 1);
        c.due("all six", Check.opened(six()).can(-1), 720);
    }

    private static String six() {
        StringBuilder text = new StringBuilder();
        for (char n = 'a'; n <= 'f'; n++) {
            text.append("held ").append(n).append(" salt 1;");
            text.append("holder h").append(n).append(" has ").append(n).append(" wants a purse 1;");
        }
        return text.toString();
    }

    private static void next(Check c, WrongCook x, int holder, int held, int left) {
        c.due("holder to ask", x.next(0), holder);
        c.due("held to ask", x.next(1), held);
        c.due("ways left", x.next(2), left);
        c.due("what 3", x.next(3), -1);
        c.due("what -1", x.next(-1), -1);
    }

    private static void asking(Check c) {
        WrongCook x = Check.opened(CASE);
        next(c, x, 0, 0, 18);
        // q has c or d; either halves the ways, asked of q.
        Check.note(x, 1, 0, 0, 1, 1, 0);
        next(c, x, 1, 2, 6);
        Check.note(x, 0, 0, 1, 1, 1, 1);
        next(c, x, 2, 2, 1);
        Check.note(x, 0, 0, 1, 1, 1, 1, 2, 2, 1);
        next(c, x, 0, 0, 1);
        Check.note(x, 0, 0, 1, 1, 0, 1);
        for (int what = 0; what < 3; what++) {
            c.due("without a way " + what, x.next(what), -1);
        }
        c.due("without holders", Check.opened("held a salt 1;").next(0), -1);
        next(c, Check.opened(six()), 0, 0, 600);
    }
}
