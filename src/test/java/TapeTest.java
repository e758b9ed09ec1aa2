/** Promises 1, 2, 3 and 34: a new object, the tape, refusals. */
final class TapeTest {
    public static void main(String[] args) {
        Check c = new Check();
        fresh(c);
        feeding(c);
        ending(c);
        refusals(c);
        c.finish();
    }

    private static void fresh(Check c) {
        WrongCook x = new WrongCook();
        for (int what = 0; what <= 10; what++) {
            c.due("new: has " + what, x.has(what), 0);
        }
        for (int what = 0; what <= 5; what++) {
            c.due("new: status " + what, x.status(what), 0);
        }
        c.due("new: held", x.held(0, 1), -1);
        c.due("new: holder", x.holder(0, 0), -1);
        c.due("new: octet", x.octet(0), -1);
        c.due("new: fault", x.fault(0), 0);
        c.due("new: place", x.fault(1), -1);
        c.due("new: judged", x.judged(0), -1);
        c.due("new: judged pay", x.judged(1), -1);
        c.due("new: one way", x.can(-1), 1);
        c.due("new: next", x.next(2), -1);
        c.due("new: total", Check.ask(x, "total 7"), 0);
        c.due("new: an empty tape is a case of none", x.open(), 0);
    }

    private static void feeding(Check c) {
        WrongCook x = new WrongCook();
        for (int k = 1; k <= 80; k++) {
            c.due("feed " + k, x.feed(k, k, k, k, k), 20 * k);
        }
        c.due("feed beyond 1600", x.feed(1, 1, 1, 1, 1), -1);
        c.due("counted", x.status(0), 1);
        c.due("the tape stays", x.end(1600), true);
        c.due("one byte less", x.end(1599), true);
        c.due("no room for twenty", x.feed(0, 0, 0, 0, 0), -1);
        c.due("1580", x.end(1580), true);
        c.due("just room for twenty", x.feed(0, 0, 0, 0, 0), 1600);
        // The highest byte comes first: 'l', 'e', 'a', 's', ...
        x.end(0);
        c.due("feed", x.feed(0x6c656173, 0x74203132, 0x20202020, 0x20202020, 0x2020202e), 20);
        c.due("end", x.end(19), true);
        c.due("least 12", x.ask(), 0);
        c.due("without a fault", x.fault(0), 0);
        x.feed(-1, -1, -1, -1, -1);
        c.due("bytes of 255 are none of a text", x.open(), -1);
        c.due("at the first", x.fault(1), 0);
    }

    private static void ending(Check c) {
        WrongCook x = new WrongCook();
        c.due("end 0", x.end(0), true);
        c.due("end 1", x.end(1), false);
        c.due("end -1", x.end(-1), false);
        c.due("end, lowest", x.end(Integer.MIN_VALUE), false);
        c.due("end, highest", x.end(Integer.MAX_VALUE), false);
        c.due("counted", x.status(0), 4);
        x.feed(1, 2, 3, 4, 5);
        c.due("end 21", x.end(21), false);
        c.due("end 20", x.end(20), true);
        c.due("end 7", x.end(7), true);
        c.due("end 8", x.end(8), false);
        c.due("feed behind", x.feed(1, 2, 3, 4, 5), 27);
    }

    private static void refusals(Check c) {
        WrongCook x = new WrongCook();
        x.end(1);
        Check.open(x, "x");
        x.judge();
        x.note();
        x.ring();
        x.want(0, 0);
        x.nights(0);
        x.undo();
        x.seed(-1);
        x.resume();
        Check.ask(x, "x");
        int[] due = {1, 3, 2, 1, 1, 2};
        for (int what = 0; what < due.length; what++) {
            c.due("status " + what, x.status(what), due[what]);
        }
        c.due("status -1", x.status(-1), -1);
        c.due("status 6", x.status(6), -1);
        Check.open(x, "held a salt 1;");
        c.due("a new case leaves them", x.status(1), 3);
    }
}
