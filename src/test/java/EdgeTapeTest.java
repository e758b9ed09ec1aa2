import java.lang.reflect.Constructor;
import java.lang.reflect.Field;
import java.lang.reflect.Method;
import java.lang.reflect.Modifier;
import java.util.Arrays;
import java.util.TreeSet;

/** At the boundaries of the face, a new object, the tape and refusals: promises 1, 2, 3 and 34. */
final class EdgeTapeTest {
    public static void main(String[] args) {
        Check c = new Check();
        constants(c);
        face(c);
        fresh(c);
        highestFirst(c);
        behind(c);
        full(c);
        firstBytes(c);
        refusedEnd(c);
        goes(c);
        sorts(c);
        otherSorts(c);
        lastCall(c);
        c.finish();
    }

    private static void constants(Check c) {
        c.by("`NONE = -1`: There is none; it is refused.");
        c.due("NONE", WrongCook.NONE, -1);
        c.by("`NOTHING = -1000000000000000L`: Told where a number below 0 may be one.");
        c.due("NOTHING", WrongCook.NOTHING, -1000000000000000L);
        c.due("a NONE that is an answer", Check.ask(new WrongCook(), "first all"), WrongCook.NONE);
        c.due("a number below 0", Check.ask(Check.opened(Told.people("a")), "most 0-9999*9999"), -1000000);
        c.due("a fault", Check.ask(new WrongCook(), "first"), WrongCook.NOTHING);
    }

    private static void face(Check c) {
        String told = "int feed(int,int,int,int,int);boolean end(int);int open();int fault(int);int has(int);"
                + "int letter(int,int,int);int held(int,int);int holder(int,int);int values(int,int);int met(int,int);"
                + "int kept(int,int);int judge();int judged(int);int needed(int);int meetings(int);int gain(int,int);"
                + "int trade(int,int);int together(int);int clear(int);int on(int);int note();int can(int);int next(int);"
                + "int ring();boolean want(int,int);int nights(int);boolean undo();boolean seed(int);long ask();"
                + "int image();int octet(int);boolean resume();int status(int)";
        TreeSet<String> due = new TreeSet<>(Arrays.asList(told.split(";")));
        TreeSet<String> there = new TreeSet<>();
        for (Method method : WrongCook.class.getDeclaredMethods()) {
            if (!Modifier.isPrivate(method.getModifiers()) && !method.isSynthetic()) {
                String types = Arrays.toString(method.getParameterTypes()).replaceAll("[\\[\\] ]", "");
                there.add(method.getReturnType() + " " + method.getName() + "(" + types + ")");
                c.due("public: " + method, Modifier.isPublic(method.getModifiers()), true);
                c.due("of an object: " + method, Modifier.isStatic(method.getModifiers()), false);
            }
        }
        c.by("public final class WrongCook {");
        c.due("final", Modifier.isFinal(WrongCook.class.getModifiers()), true);
        c.due("public", Modifier.isPublic(WrongCook.class.getModifiers()), true);
        c.due("the methods", there.toString(), due.toString());
        Constructor<?>[] made = WrongCook.class.getDeclaredConstructors();
        c.due("constructors", made.length, 1);
        c.due("without arguments", made[0].getParameterCount(), 0);
        c.due("public", Modifier.isPublic(made[0].getModifiers()), true);
        int open = 0;
        for (Field field : WrongCook.class.getDeclaredFields()) {
            open += Modifier.isPrivate(field.getModifiers()) || field.isSynthetic() ? 0 : 1;
        }
        c.due("constants", open, 2);
    }

    private static void fresh(Check c) {
        c.by("`WrongCook()`: No case, nobody held.");
        WrongCook x = new WrongCook();
        c.due("all of it", Told.state(x), "has 0 0 0 0 0 0 0 0 0 0 0; judged -1 -1; ways 1; image");
        c.due("refusals", Told.refusals(x), "0 0 0 0 0 0 ");
        c.due("held", x.held(0, 0), -1);
        c.due("holder", x.holder(0, 0), -1);
        c.due("values", x.values(0, 0), -1);
        c.due("met", x.met(0, 0), -1);
        c.due("letter of a held", x.letter(0, 0, 0), -1);
        c.due("letter of a holder", x.letter(1, 0, 0), -1);
        c.due("kept", x.kept(0, 0), -1);
        c.due("needed", x.needed(0), -1);
        c.due("gain", x.gain(0, 0), -1);
        c.due("trade", x.trade(0, 0), -1);
        c.due("together", x.together(0), -1);
        c.due("on", x.on(0), -1);
        c.due("next", x.next(0), -1);
        c.due("octet", x.octet(0), -1);
        c.due("meetings", x.meetings(2) + x.meetings(3), 0);
        c.due("clear", x.clear(5), 1000000);
        c.due("fault", x.fault(0), 0);
        c.due("its place", x.fault(1), -1);
        c.due("tape", x.end(1), false);
        c.due("want", x.want(0, 0), false);
        c.due("undo", x.undo(), false);
        c.due("image", x.image(), 3);
    }

    private static void highestFirst(Check c) {
        c.by("Twenty bytes come behind those on the tape, of each number the highest first: how many there are");
        WrongCook x = new WrongCook();
        // "held abcdef salt 99;" is twenty bytes long.
        c.due("feed", x.feed(0x68656c64, 0x20616263, 0x64656620, 0x73616c74, 0x2039393b), 20);
        c.due("open", x.open(), 1);
        for (int k = 0; k < 6; k++) {
            c.due("letter " + k, x.letter(0, 0, k), k + 1);
        }
        c.due("salt", x.held(0, 0), 99);
        // The purse of q is the highest byte of the fourth number here: 128, 200 and 255 are below 0.
        int[] coins = {127, 128, 200, 255};
        for (int purse : coins) {
            WrongCook y = Check.opened(Told.people("abc"));
            int[] image = Told.sealed(0, 0, 0, 0, 0, 5, 0, 0, 0, 1, 1, 0, purse, 0, 0, 0, 2, 2, 0, 5, 0, 0, 0, 0);
            c.due("resume", Check.resume(y, image), true);
            c.due("purse", y.holder(1, 2), purse);
        }
    }

    private static void behind(Check c) {
        c.by("Twenty bytes come behind those on the tape, of each number the highest first: how many there are");
        WrongCook x = new WrongCook();
        x.feed(0x68656c64, 0x20612073, 0x616c7420, 0x393b3b3b, 0x3b3b3b3b);
        c.due("fourteen of them", x.end(14), true);
        c.due("twenty behind", x.feed(0x68656c64, 0x20622073, 0x616c7420, 0x383b3b3b, 0x3b3b3b3b), 34);
        c.due("twenty-eight of them", x.end(28), true);
        c.due("open", x.open(), 2);
        c.due("the one", x.held(0, 0), 9);
        c.due("the other", x.held(1, 0), 8);
    }

    private static void full(Check c) {
        c.by("NONE, refused (0), if there would be more than 1600.");
        WrongCook x = new WrongCook();
        for (int k = 1; k <= 79; k++) {
            c.due("feed " + k, x.feed(0x20202020, 0x20202020, 0x20202020, 0x20202020, 0x20202020), 20 * k);
        }
        c.due("just 1600", x.feed(0x20202020, 0x20202020, 0x20202020, 0x20202020, 0x2020203b), 1600);
        c.due("refused none", x.status(0), 0);
        c.due("1620", x.feed(0, 0, 0, 0, 0), -1);
        c.due("refused", x.status(0), 1);
        c.due("no byte came", x.end(1601), false);
        c.due("none went", x.end(1600), true);
        c.due("1581", x.end(1581), true);
        c.due("1601", x.feed(0, 0, 0, 0, 0), -1);
        c.due("refused", x.status(0), 3);
        c.due("no byte came", x.end(1582), false);
        c.due("1580", x.end(1580), true);
        c.due("1600", x.feed(0x20202020, 0x20202020, 0x20202020, 0x20202020, 0x2020203b), 1600);
        c.due("all of it is the case", x.open(), -1);
        c.due("the last byte is its fault", x.fault(1), 1599);
    }

    private static void firstBytes(Check c) {
        c.by("The tape has its first n bytes alone: true; false, refused (0), if it has not so many, or n is below 0.");
        WrongCook x = new WrongCook();
        c.due("0 of none", x.end(0), true);
        c.due("1 of none", x.end(1), false);
        x.feed(0x68656c64, 0x20612073, 0x616c7420, 0x37203b21, 0x21212121);
        c.due("20 of 20", x.end(20), true);
        c.due("21 of 20", x.end(21), false);
        c.due("15 of 20", x.end(15), true);
        c.due("16 of 15", x.end(16), false);
        c.due("below 0", x.end(-1), false);
        c.due("far below 0", x.end(Integer.MIN_VALUE), false);
        c.due("far above", x.end(Integer.MAX_VALUE), false);
        c.due("refused", x.status(0), 6);
        c.due("the first 15 are the case", x.open(), 1);
        c.due("salt", x.held(0, 0), 7);
        x.feed(0x21212121, 0x21212121, 0x21212121, 0x21212121, 0x21212121);
        c.due("0 of 20", x.end(0), true);
        c.due("an empty case", x.open(), 0);
    }

    private static void refusedEnd(Check c) {
        c.by("false, refused (0), if it has not so many, or n is below 0.");
        WrongCook x = new WrongCook();
        x.feed(1, 2, 3, 4, 5);
        x.end(-1);
        x.end(21);
        c.due("the tape stays", x.feed(1, 2, 3, 4, 5), 40);
        c.due("refused", x.status(0), 2);
    }

    private static void goes(Check c) {
        c.by("`int open()`: The tape (it goes) is THE CASE");
        WrongCook x = new WrongCook();
        Check.open(x, Told.people("ba"));
        gone(c, x, "open");
        Check.open(x, "held");
        gone(c, x, "a refused open");
        c.by("`int judge()`: The tape (it goes) is a RING, a byte each");
        Check.judge(x, 0, 1);
        gone(c, x, "judge");
        Check.judge(x, 0, 0);
        gone(c, x, "a refused judge");
        c.by("`int note()`: The tape (it goes) tells NOTES");
        Check.note(x, 0, 0, 0);
        gone(c, x, "note");
        Check.note(x, 0, 0, 2);
        gone(c, x, "a refused note");
        c.by("`int ring()`: The tape (it goes) is a RING that is tried");
        Check.ring(x, 0, 1);
        gone(c, x, "ring");
        Check.ring(x, 0, 0);
        gone(c, x, "a refused ring");
        c.by("`long ask()`: The tape (it goes) is a QUESTION");
        Check.ask(x, "often all");
        gone(c, x, "ask");
        Check.ask(x, "often");
        gone(c, x, "a question with a fault");
        c.by("`boolean resume()`: The tape (it goes) is AN IMAGE of this CASE");
        Check.resume(x, Check.image(x));
        gone(c, x, "resume");
        Check.resume(x, 1, 2, 3);
        gone(c, x, "a refused resume");
    }

    private static void gone(Check c, WrongCook x, String behind) {
        c.due("a byte behind " + behind, x.end(1), false);
        c.due("twenty behind " + behind, x.feed(0, 0, 0, 0, 0), 20);
        c.due("none behind " + behind, x.end(0), true);
    }

    private static void sorts(Check c) {
        c.by("How many were refused: 0 feed(), end(); 1 open(), judge(), note(); 2 ring(), want(); 3 nights(); 4 undo();"
                + " 5 seed(), resume().");
        WrongCook x = new WrongCook();
        x.end(1);
        c.due("end", Told.refusals(x), "1 0 0 0 0 0 ");
        Check.open(x, ";");
        c.due("open", Told.refusals(x), "1 1 0 0 0 0 ");
        x.judge();
        c.due("judge", Told.refusals(x), "1 2 0 0 0 0 ");
        x.note();
        c.due("note", Told.refusals(x), "1 3 0 0 0 0 ");
        x.ring();
        c.due("ring", Told.refusals(x), "1 3 1 0 0 0 ");
        x.want(0, 0);
        c.due("want", Told.refusals(x), "1 3 2 0 0 0 ");
        x.nights(0);
        c.due("nights", Told.refusals(x), "1 3 2 1 0 0 ");
        x.undo();
        c.due("undo", Told.refusals(x), "1 3 2 1 1 0 ");
        x.seed(-1);
        c.due("seed", Told.refusals(x), "1 3 2 1 1 1 ");
        x.resume();
        c.due("resume", Told.refusals(x), "1 3 2 1 1 2 ");
        x.ask();
        c.due("ask is none of them", Told.refusals(x), "1 3 2 1 1 2 ");
        for (int k = 0; k < 80; k++) {
            x.feed(0, 0, 0, 0, 0);
        }
        c.due("80 feeds are not refused", Told.refusals(x), "1 3 2 1 1 2 ");
        x.feed(0, 0, 0, 0, 0);
        c.due("feed", Told.refusals(x), "2 3 2 1 1 2 ");
        x.end(0);
        Check.open(x, Told.people("ba"));
        Check.judge(x, 0, 1);
        Check.note(x, 0, 0, 1);
        Check.ring(x, 0, 1);
        x.want(0, 0);
        x.nights(1);
        x.undo();
        x.seed(0);
        Check.resume(x, Check.image(x));
        c.due("what is not refused does not count", Told.refusals(x), "2 3 2 1 1 2 ");
    }

    private static void otherSorts(Check c) {
        c.by("5 seed(), resume(). NONE for others.");
        WrongCook x = new WrongCook();
        c.due("0", x.status(0), 0);
        c.due("-1", x.status(-1), -1);
        c.due("5", x.status(5), 0);
        c.due("6", x.status(6), -1);
        c.due("lowest", x.status(Integer.MIN_VALUE), -1);
        c.due("highest", x.status(Integer.MAX_VALUE), -1);
    }

    private static void lastCall(Check c) {
        c.by("An object is used for at most 512 calls after it has been made");
        WrongCook x = new WrongCook();
        for (int k = 1; k <= 511; k++) {
            if (k % 3 == 1) {
                c.due("call " + k, x.feed(0x666f6720, 0x30303939, 0x3b202020, 0x20202020, 0x20202020), 20);
            } else if (k % 3 == 2) {
                c.due("call " + k, x.open(), 1);
            } else {
                c.due("call " + k, x.has(3), 99);
            }
        }
        c.due("the last one", x.has(3), 99);
    }
}
