import com.sun.management.ThreadMXBean;
import java.lang.management.ManagementFactory;
import java.util.Random;

/** Random calls with odd arguments and broken texts: no call throws, and a run of 512 calls makes little. */
final class HardyTest {
    private static final int[] ODD = {-1, 0, 1, 2, 3, 4, 5, 6, 7, 30, 31, 32, 63, 64, 100, 255, -2, -32,
        Integer.MAX_VALUE, Integer.MIN_VALUE};
    private static final String[] BITS = {"held", "salt", "holder", "has", "wants", "purse", "values", "feud", "sister",
        "swaps", "pays", "fog", "gets", "gives", "met", "night", "number", "or", "and", "not", "all", "min", "max",
        "first", "last", "often", "total", "most", "least", "a", "b", "c", "h", "g", "abcdef", "abcdefg", "0", "7", "99",
        "100", "9999", "10000", "(", ")", "[", "]", "<", ">", "=", "+", "-", "*", "/", ",", ";", ";", " ", "\n", "#"};
    // Some 7.3 million elements may be made in a run; eight bytes each would be the most.
    private static final long ROOM = 7300000L;

    public static void main(String[] args) {
        Check c = new Check();
        for (int run = 0; run < 600; run++) {
            calls(c, new Random(run));
        }
        deepest(c);
        room(c);
        c.finish();
    }

    private static int odd(Random r) {
        return r.nextInt(10) == 0 ? r.nextInt() : ODD[r.nextInt(ODD.length)];
    }

    private static String text(Random r) {
        if (r.nextInt(3) > 0) {
            StringBuilder text = new StringBuilder(broken(new Model(r).text, r));
            text.setLength(Math.min(1600, text.length()));
            return text.toString();
        }
        StringBuilder text = new StringBuilder();
        for (int k = r.nextInt(60); k > 0; k--) {
            text.append(BITS[r.nextInt(BITS.length)]).append(r.nextBoolean() ? " " : "");
        }
        return text.toString();
    }

    private static String broken(String text, Random r) {
        if (text.isEmpty() || r.nextInt(4) == 0) {
            return text;
        }
        int place = r.nextInt(text.length());
        String behind = text.substring(r.nextBoolean() ? place : place + 1);
        return text.substring(0, place) + BITS[r.nextInt(BITS.length)] + behind;
    }

    private static void calls(Check c, Random r) {
        WrongCook x = new WrongCook();
        for (int k = 0; k < 512; k++) {
            try {
                call(c, x, r);
            } catch (RuntimeException | Error e) {
                e.printStackTrace(System.out);
                c.due("a call that throws", 1, 0);
            }
        }
    }

    private static void call(Check c, WrongCook x, Random r) {
        switch (r.nextInt(34)) {
            case 0: x.feed(odd(r), odd(r), odd(r), odd(r), odd(r)); break;
            case 1: x.end(odd(r)); break;
            case 2: opened(c, x, text(r)); break;
            case 3: x.fault(odd(r)); break;
            case 4: x.has(odd(r)); break;
            case 5: x.letter(odd(r), odd(r), odd(r)); break;
            case 6: x.held(odd(r), odd(r)); break;
            case 7: x.holder(odd(r), odd(r)); break;
            case 8: x.values(odd(r), odd(r)); break;
            case 9: x.met(odd(r), odd(r)); break;
            case 10: x.kept(odd(r), odd(r)); break;
            case 11: Check.judge(x, row(r)); break;
            case 12: x.judged(odd(r)); break;
            case 13: x.needed(odd(r)); break;
            case 14: x.meetings(odd(r)); break;
            case 15: x.gain(odd(r), odd(r)); break;
            case 16: x.trade(odd(r), odd(r)); break;
            case 17: x.together(odd(r)); break;
            case 18: x.clear(odd(r)); break;
            case 19: x.on(odd(r)); break;
            case 20: Check.note(x, row(r)); break;
            case 21: x.can(odd(r)); break;
            case 22: x.next(odd(r)); break;
            case 23: Check.ring(x, row(r)); break;
            case 24: x.want(odd(r), odd(r)); break;
            case 25: x.nights(odd(r)); break;
            case 26: x.undo(); break;
            case 27: x.seed(odd(r)); break;
            case 28: asked(c, x, r); break;
            case 29: x.image(); break;
            case 30: x.octet(odd(r)); break;
            case 31: resumed(x, r); break;
            case 32: x.status(odd(r)); break;
            default: others(x, r.nextInt(6)); break;
        }
    }

    private static void others(WrongCook x, int kind) {
        switch (kind) {
            case 0: x.open(); break;
            case 1: x.ask(); break;
            case 2: x.judge(); break;
            case 3: x.ring(); break;
            case 4: x.note(); break;
            default: x.resume(); break;
        }
    }

    private static int[] row(Random r) {
        int[] row = new int[r.nextInt(9)];
        for (int k = 0; k < row.length; k++) {
            row[k] = r.nextInt(r.nextInt(20) == 0 ? 256 : 4);
        }
        return row;
    }

    private static void opened(Check c, WrongCook x, String text) {
        Check.tape(x, "");
        boolean fine = Check.open(x, text) >= 0;
        told(c, x, text, fine);
    }

    private static void asked(Check c, WrongCook x, Random r) {
        String text = BITS[23 + r.nextInt(6)] + " " + (r.nextBoolean() ? text(r)
                : broken(Phrase.test(r, true, 0).text, r));
        text = text.substring(0, Math.min(1600, text.length()));
        Check.tape(x, "");
        told(c, x, text, Check.ask(x, text) != WrongCook.NOTHING);
    }

    private static void told(Check c, WrongCook x, String text, boolean fine) {
        c.due("a fault or none: " + text, x.fault(0) == 0, fine);
        c.due("a place or none: " + text, x.fault(1) == -1, fine);
        c.due("a place within: " + text, x.fault(1) <= text.length(), true);
    }

    private static void resumed(WrongCook x, Random r) {
        int[] image = Check.image(x);
        if (r.nextBoolean()) {
            image[r.nextInt(image.length)] = r.nextInt(256);
        }
        Check.resume(x, image);
    }

    /** The deepest and longest formulas that there are. */
    private static void deepest(Check c) {
        String deep = "1+1*min(1+1*1,";
        String text = "often all or all and 1<" + deep.repeat(6) + "1" + ")".repeat(6);
        WrongCook x = Check.opened("held a salt 1;holder h has a wants a purse 1;");
        c.due("deepest", Check.ask(x, text), 1);
        String sum = "1+".repeat(795) + "1";
        c.due("longest", Check.ask(x, "total " + sum), 796);
        String test = "[not [not [not 1>2]]]";
        c.due("tests", Check.ask(x, "often " + test), 1);
    }

    private static void room(Check c) {
        ThreadMXBean threads = (ThreadMXBean) ManagementFactory.getThreadMXBean();
        StringBuilder six = new StringBuilder();
        for (char n = 'a'; n <= 'f'; n++) {
            six.append("held ").append(n).append(" salt 1;holder h").append(n).append(" has ").append(n)
                    .append(" wants ").append(n == 'f' ? 'a' : (char) (n + 1)).append(" purse 1;");
        }
        String text = six.toString();
        long before = threads.getCurrentThreadAllocatedBytes();
        WrongCook x = new WrongCook();
        for (int k = 0; k < 512; k++) {
            x.feed(0x66697273, 0x7420616c, 0x6c202020, 0x20202020, 0x20202020);
            x.ask();
            x.open();
            x.nights(1);
            Check.open(x, text);
            x.meetings(2);
            x.meetings(3);
            x.trade(0, 0);
            x.next(0);
        }
        long made = threads.getCurrentThreadAllocatedBytes() - before;
        c.due("room for a run: " + made + " bytes", made < 4 * ROOM, true);
    }
}
