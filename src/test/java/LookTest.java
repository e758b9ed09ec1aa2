/** Promises 6 to 11: what is told of a case and its state. */
final class LookTest {
    private static final String CASE =
            "held cook salt 99;held zoe salt 0;held duke salt 7;"
            + "holder ann has zoe wants cook purse 10;holder bobbob has cook wants cook purse 999;"
            + "values ann zoe 4;values ann zoe 6;values bobbob cook 9;values bobbob zoe 1;"
            + "feud bobbob ann;sister cook duke;fog 3;fog 40;";

    public static void main(String[] args) {
        Check c = new Check();
        WrongCook x = new WrongCook();
        c.due("statements", Check.open(x, CASE), 13);
        counts(c, x);
        letters(c, x);
        helds(c, x);
        holders(c, x);
        wrongOnes(c, x);
        c.finish();
    }

    private static void counts(Check c, WrongCook x) {
        int[] due = {3, 2, 1, 40, 0, 1, 1009, 15, 0, 0, 0};
        for (int what = 0; what < due.length; what++) {
            c.due("has " + what, x.has(what), due[what]);
        }
        c.due("has -1", x.has(-1), -1);
        c.due("has 11", x.has(11), -1);
        Check.note(x, 0, 0, 0, 1, 1, 1);
        Check.ring(x, 0, 1);
        x.want(0, 2);
        x.nights(7);
        c.due("night", x.has(4), 7);
        c.due("kept", x.has(8), 8);
        c.due("notes", x.has(9), 2);
        c.due("acts", x.has(10), 3);
    }

    private static void letters(Check c, WrongCook x) {
        int[] zoe = {26, 15, 5, 0, 0, 0};
        int[] bobbob = {2, 15, 2, 2, 15, 2};
        for (int k = 0; k < 6; k++) {
            c.due("letter of zoe " + k, x.letter(0, 1, k), zoe[k]);
            c.due("letter of bobbob " + k, x.letter(1, 1, k), bobbob[k]);
        }
        c.due("letter 6", x.letter(0, 1, 6), -1);
        c.due("letter -1", x.letter(0, 1, -1), -1);
        c.due("held 3", x.letter(0, 3, 0), -1);
        c.due("holder 2", x.letter(1, 2, 0), -1);
        c.due("holder -1", x.letter(1, -1, 0), -1);
        c.due("kind 2", x.letter(2, 0, 0), -1);
        c.due("kind -1", x.letter(-1, 0, 0), -1);
    }

    private static void helds(Check c, WrongCook y) {
        WrongCook x = Check.opened(CASE);
        int[][] due = {{99, 1, 2, 2}, {0, 0, -1, 0}, {7, -1, -1, 0}};
        for (int held = 0; held < 3; held++) {
            for (int what = 0; what < 4; what++) {
                c.due("held " + held + " " + what, x.held(held, what), due[held][what]);
            }
        }
        c.due("another case", y.held(2, 3), 1);
    }

    private static void holders(Check c, WrongCook y) {
        WrongCook x = Check.opened(CASE);
        int[][] due = {{1, 0, 10, 0, 2}, {0, 0, 999, 1, 1}};
        for (int holder = 0; holder < 2; holder++) {
            for (int what = 0; what < 5; what++) {
                c.due("holder " + holder + " " + what, x.holder(holder, what), due[holder][what]);
            }
        }
        c.due("the last value counts", x.values(0, 1), 6);
        c.due("0 without", x.values(0, 0), 0);
        c.due("value", x.values(1, 0), 9);
        c.due("not met", x.met(0, 1), 0);
        c.due("another wish", y.holder(0, 1), 2);
    }

    private static void wrongOnes(Check c, WrongCook x) {
        int[] off = {-1, Integer.MIN_VALUE, 6, 64, Integer.MAX_VALUE};
        for (int wrong : off) {
            c.due("held what", x.held(0, wrong), -1);
            c.due("held", x.held(wrong, 0), -1);
            c.due("holder what", x.holder(0, wrong), -1);
            c.due("holder", x.holder(wrong, 0), -1);
            c.due("values holder", x.values(wrong, 0), -1);
            c.due("values held", x.values(0, wrong), -1);
            c.due("met holder", x.met(wrong, 0), -1);
            c.due("met other", x.met(0, wrong), -1);
            c.due("kept", x.kept(0, wrong), -1);
        }
        c.due("held 4", x.held(0, 4), -1);
        c.due("holder 5", x.holder(0, 5), -1);
        c.due("third holder", x.met(0, 2), -1);
        c.due("fourth held", x.values(0, 3), -1);
    }
}
