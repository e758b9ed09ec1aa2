import java.util.Random;

/** Random cases and acts, each answer beside that of the plain model. */
final class ModelTest {
    private static final String[] TESTS = {"first", "last", "often"};
    private static final String[] SUMS = {"total", "most", "least"};
    private final Check c;
    private final Random r;
    private final Model m;
    private final WrongCook x = new WrongCook();
    private int[] stored = null;

    private ModelTest(Check c, int run) {
        this.c = c;
        r = new Random(run);
        Model made = new Model(r);
        for (int k = 0; k < 100 && made.text.length() > 1600; k++) {
            made = new Model(r);
        }
        m = made;
    }

    public static void main(String[] args) {
        Check c = new Check();
        for (int run = 0; run < 400; run++) {
            new ModelTest(c, run).play(run);
        }
        c.finish();
    }

    private void play(int run) {
        String at = "run " + run + ": ";
        long told = m.text.chars().filter(k -> k == ';').count();
        c.due(at + m.text, Check.open(x, m.text), told <= 80 ? told : -1);
        for (int k = 0; k < 40; k++) {
            act(at);
            look(at);
        }
    }

    private int[] row() {
        int[] row = new int[r.nextInt(20) == 0 ? r.nextInt(8) : 2 + r.nextInt(Math.max(1, m.holders - 1))];
        for (int k = 0; k < row.length; k++) {
            row[k] = r.nextInt(m.holders + (r.nextInt(30) == 0 ? 1 : 0) + (m.holders == 0 ? 1 : 0));
            for (int tries = 0; tries < 20 && repeated(row, k); tries++) {
                row[k] = r.nextInt(m.holders);
            }
        }
        return row;
    }

    private boolean repeated(int[] row, int k) {
        for (int i = 0; i < k; i++) {
            if (row[i] == row[k] && m.holders > 0) {
                return true;
            }
        }
        return false;
    }

    private void act(String at) {
        switch (r.nextInt(9)) {
            case 0:
                int h = r.nextInt(8) - 1;
                int d = r.nextInt(8) - 1;
                c.due(at + "want", x.want(h, d), m.want(h, d));
                break;
            case 1:
                int n = r.nextInt(8) == 0 ? r.nextInt(103) : r.nextInt(5);
                c.due(at + "nights", x.nights(n), m.nights(n));
                break;
            case 2:
                c.due(at + "undo", x.undo(), m.undo());
                break;
            case 3:
                int seed = r.nextInt();
                c.due(at + "seed", x.seed(seed), m.seed(seed));
                break;
            case 4:
                noteOrImage(at);
                break;
            case 5:
                int[] judged = row();
                c.due(at + "judge", Check.judge(x, judged), m.judge(judged));
                break;
            default:
                int[] row = row();
                c.due(at + "ring", Check.ring(x, row), m.ring(row));
                break;
        }
    }

    private void noteOrImage(String at) {
        int kind = r.nextInt(4);
        if (kind == 0) {
            stored = Check.image(x);
        } else if (kind == 1 && stored != null) {
            c.due(at + "resume", Check.resume(x, stored), true);
            m.resume(stored);
        } else {
            int[] notes = new int[3 * r.nextInt(6)];
            for (int k = 0; k < notes.length; k += 3) {
                notes[k] = r.nextInt(m.holders + 1 - (m.holders > 0 && r.nextInt(20) > 0 ? 1 : 0));
                notes[k + 1] = r.nextInt(m.helds + 1 - (m.helds > 0 && r.nextInt(20) > 0 ? 1 : 0));
                notes[k + 2] = r.nextInt(5) == 0 ? 1 : 0;
            }
            c.due(at + "note", Check.note(x, notes), m.note(notes));
        }
    }

    private void look(String at) {
        for (int what = -1; what < 12; what++) {
            c.due(at + "has " + what, x.has(what), m.has(what));
        }
        int h = r.nextInt(8) - 1;
        int g = r.nextInt(8) - 1;
        for (int what = -1; what < 6; what++) {
            c.due(at + "held", x.held(h, what), m.held(h, what));
            c.due(at + "holder", x.holder(h, what), m.holder(h, what));
            c.due(at + "kept", x.kept(what * 6, h), m.kept(what * 6, h));
            c.due(at + "gain", x.gain(h, what), m.gain(h, what));
            c.due(at + "trade", x.trade(h, what), m.trade(h, what));
            c.due(at + "together", x.together(what), m.together(what));
        }
        c.due(at + "values", x.values(h, g), m.values(h, g));
        c.due(at + "met", x.met(h, g), m.met(h, g));
        c.due(at + "judged", x.judged(0), m.judgedWho);
        c.due(at + "judged", x.judged(1), m.judgedPay);
        c.due(at + "needed", x.needed(h), m.needed(h));
        c.due(at + "clear", x.clear(h), m.clear(h));
        c.due(at + "on", x.on(h), m.on(h));
        c.due(at + "can", x.can(h), m.can(h));
        c.due(at + "next", x.next(h), m.next(h));
        if (r.nextInt(8) == 0) {
            c.due(at + "meetings", x.meetings(h), m.meetings(h));
            c.due(at + "meetings 2", x.meetings(2), m.meetings(2));
            c.due(at + "meetings 3", x.meetings(3), m.meetings(3));
        }
        question(at);
        image(at);
    }

    private void question(String at) {
        boolean test = r.nextBoolean();
        Phrase phrase = test ? Phrase.test(r, true, 0) : Phrase.sum(r, true, 0);
        String word = test ? TESTS[r.nextInt(3)] : SUMS[r.nextInt(3)];
        String text = word + " " + phrase.text;
        if (text.length() <= 1600) {
            c.due(at + text, Check.ask(x, text), m.ask(word, phrase));
        }
    }

    private void image(String at) {
        int[] due = m.image();
        c.due(at + "image", x.image(), due.length);
        for (int k = 0; k < due.length; k++) {
            c.due(at + "octet", x.octet(k), due[k]);
        }
    }
}
