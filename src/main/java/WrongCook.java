import java.util.Arrays;

/**
 * People held by holders who want somebody else: a case is told as a text, rings of
 * holders swap, questions are asked. DOC.md numbers the promises that the methods keep.
 */
public final class WrongCook {
    public static final int NONE = -1;
    public static final long NOTHING = -1000000000000000L;

    private static final int PEOPLE = 6;
    private static final int TAPE_ROOM = 1600;
    private static final int STATEMENTS = 80;
    private static final int FEUDS = 10;
    private static final int NAME_LETTERS = 6;
    private static final int NUMBER_DIGITS = 4;
    private static final int MOST_NUMBER = 9999;
    private static final int MOST_OPEN = 6;
    private static final int MOST_SUM = 1000000;
    private static final int MOST_NIGHT = 9999;
    private static final int MOST_COINS = 9999;
    private static final int MOST_MET = 99;
    private static final int MOST_PAY = 999;
    private static final int KEPT_ROOM = 30;
    private static final int UNDO_ROOM = 20;
    private static final int NOTE_ROWS = 20;
    private static final int IMAGE_ROOM = 63;
    private static final int LOWEST_31_BITS = 0x7fffffff;

    private static final int FAULT_TEXT = 1;
    private static final int FAULT_NUMBER = 2;
    private static final int FAULT_NAME = 3;
    private static final int FAULT_DEPTH = 4;
    private static final int FAULT_MANY = 5;

    private static final int WHY_FEUD = 1;
    private static final int WHY_SWAP = 2;
    private static final int WHY_PAY = 3;
    private static final int WHY_FOG = 4;

    // The own words in the document's order, then those that only begin a question.
    private static final String WORDS = "held salt holder has wants purse values feud sister swaps pays fog gets gives met night number or and not all min max first last often total most least";
    private static final int WORD_COUNT = 29;
    private static final int OWN_WORDS = 23;
    private static final int WORD_HELD = 0;
    private static final int WORD_SALT = 1;
    private static final int WORD_HOLDER = 2;
    private static final int WORD_HAS = 3;
    private static final int WORD_WANTS = 4;
    private static final int WORD_PURSE = 5;
    private static final int WORD_VALUES = 6;
    private static final int WORD_FEUD = 7;
    private static final int WORD_SISTER = 8;
    private static final int WORD_SWAPS = 9;
    private static final int WORD_PAYS = 10;
    private static final int WORD_FOG = 11;
    private static final int WORD_GETS = 12;
    private static final int WORD_GIVES = 13;
    private static final int WORD_MET = 14;
    private static final int WORD_NIGHT = 15;
    private static final int WORD_NUMBER = 16;
    private static final int WORD_OR = 17;
    private static final int WORD_AND = 18;
    private static final int WORD_NOT = 19;
    private static final int WORD_ALL = 20;
    private static final int WORD_MIN = 21;
    private static final int WORD_MAX = 22;
    private static final int WORD_FIRST = 23;
    private static final int WORD_LAST = 24;
    private static final int WORD_OFTEN = 25;
    private static final int WORD_TOTAL = 26;
    private static final int WORD_MOST = 27;
    private static final int WORD_LEAST = 28;

    private static final int TOKEN_END = 0;
    private static final int TOKEN_WORD = 1;
    private static final int TOKEN_NUMBER = 2;
    private static final int TOKEN_SIGN = 3;
    // A word or a number that lacks the blank it needs ahead of it: it fits nowhere.
    private static final int TOKEN_TOUCHING = 4;

    // Codes of a formula, each behind what it works on. A code from 0 on is that number.
    private static final int CODE_GETS = -1;
    private static final int CODE_GIVES = -2;
    private static final int CODE_WANTS = -3;
    private static final int CODE_SALT = -4;
    private static final int CODE_MET = -5;
    private static final int CODE_PURSE = -6;
    private static final int CODE_NIGHT = -7;
    private static final int CODE_NUMBER = -8;
    private static final int CODE_NOT = -9;
    private static final int CODE_MET_WITH = -10;
    private static final int CODE_PLUS = -11;
    private static final int CODE_MINUS = -12;
    private static final int CODE_TIMES = -13;
    private static final int CODE_OVER = -14;
    private static final int CODE_MIN = -15;
    private static final int CODE_MAX = -16;
    private static final int CODE_BELOW = -17;
    private static final int CODE_ABOVE = -18;
    private static final int CODE_SAME = -19;
    private static final int CODE_AND = -20;
    private static final int CODE_OR = -21;
    private static final int NO_CODE = -22;

    // Facts of a holder: place -1 - code for each code of one, then how often he met each holder.
    private static final int FACT_MET_ROW = 8;
    private static final int FACT_ROOM = 14;
    // Six open ones hold at most three waiting numbers each, and the outermost test a few more.
    private static final int STACK_ROOM = 64;

    private final byte[] tape = new byte[TAPE_ROOM];
    private int tapeSize = 0;
    private final Reader reader = new Reader(tape);
    private final FormulaReader formulas = new FormulaReader(reader);
    private final CaseReader cases = new CaseReader(reader, formulas);
    private Case story = new Case();
    private final State now = new State();
    private final History history = new History();
    private final Ring judgedRing = new Ring();
    private final Ring triedRing = new Ring();
    private final Notes notes = new Notes();
    private final Trading trading = new Trading();
    // One for meetings of two, one for meetings of three; null till it is asked for.
    private final Sorter[] sorters = new Sorter[2];
    private final int[] sources = new int[PEOPLE];
    private final int[] facts = new int[FACT_ROOM];
    private final int[] image = new int[IMAGE_ROOM];
    private int imageSize = 0;
    private final int[] refused = new int[6];
    private int seed = 1;

    public WrongCook() {
        notes.forget(0, 0);
    }

    // ---- the tape, the case

    public int feed(int a, int b, int c, int d, int e) {
        if (tapeSize + 20 > TAPE_ROOM) {
            return refuse(0);
        }
        putNumber(a);
        putNumber(b);
        putNumber(c);
        putNumber(d);
        putNumber(e);
        return tapeSize;
    }

    public boolean end(int n) {
        if (n < 0 || n > tapeSize) {
            refuse(0);
            return false;
        }
        tapeSize = n;
        return true;
    }

    public int open() {
        Case told = cases.readCase(takeTape());
        if (told == null) {
            return refuse(1);
        }
        story = told;
        now.copyFrom(told.start);
        history.forget();
        judgedRing.size = 0;
        notes.forget(told.holders, told.helds);
        sorters[0] = null;
        sorters[1] = null;
        return told.statements;
    }

    public int fault(int what) {
        switch (what) {
            case 0:
                return reader.fault;
            case 1:
                return reader.faultPlace;
            default:
                return NONE;
        }
    }

    public int has(int what) {
        switch (what) {
            case 0:
                return story.helds;
            case 1:
                return story.holders;
            case 2:
                return story.feudCount;
            case 3:
                return story.fog;
            case 4:
                return now.night;
            case 5:
                return settledHolders();
            case 6:
                return coinsOfAll();
            case 7:
                return valueOfAll();
            case 8:
                return now.keptCount;
            case 9:
                return notes.rows;
            case 10:
                return history.count;
            default:
                return NONE;
        }
    }

    public int letter(int kind, int which, int k) {
        if (k < 0 || k >= NAME_LETTERS) {
            return NONE;
        }
        if (kind == 0 && isHeld(which)) {
            return letterOf(story.heldNames[which], k);
        }
        if (kind == 1 && isHolder(which)) {
            return letterOf(story.holderNames[which], k);
        }
        return NONE;
    }

    public int held(int held, int what) {
        if (!isHeld(held)) {
            return NONE;
        }
        switch (what) {
            case 0:
                return story.salts[held];
            case 1:
                return now.holderOf(held, story.holders);
            case 2:
                return story.sisters[held];
            case 3:
                return howManyWant(held);
            default:
                return NONE;
        }
    }

    public int holder(int holder, int what) {
        if (!isHolder(holder)) {
            return NONE;
        }
        switch (what) {
            case 0:
                return now.has[holder];
            case 1:
                return now.wants[holder];
            case 2:
                return now.purse[holder];
            case 3:
                return isSettled(holder) ? 1 : 0;
            case 4:
                return story.feuds[holder];
            default:
                return NONE;
        }
    }

    public int values(int holder, int held) {
        return isHolder(holder) && isHeld(held) ? story.valueOf(holder, held) : NONE;
    }

    public int met(int holder, int other) {
        return isHolder(holder) && isHolder(other) ? now.met[holder * PEOPLE + other] : NONE;
    }

    public int kept(int k, int what) {
        if (k < 0 || k >= now.keptCount) {
            return NONE;
        }
        int row = now.kept[k];
        switch (what) {
            case 0:
                return row / 1000;
            case 1:
                return row / 100 % 10;
            case 2:
                return row / 10 % 10;
            case 3:
                return row % 10;
            default:
                return NONE;
        }
    }

    // ---- rings

    public int judge() {
        if (!readRing(judgedRing, takeTape())) {
            return refuse(1);
        }
        judgedRing.weigh(story, now);
        return judgedRing.why;
    }

    public int judged(int what) {
        if (judgedRing.size == 0) {
            return NONE;
        }
        switch (what) {
            case 0:
                return judgedRing.byWhom;
            case 1:
                return judgedRing.paysOfAll();
            default:
                return NONE;
        }
    }

    public int needed(int holder) {
        if (!isHolder(holder) || !findSources()) {
            return NONE;
        }
        int members = 1;
        for (int one = sources[holder]; one != holder && members < PEOPLE; one = sources[one]) {
            members++;
        }
        return members;
    }

    public int meetings(int most) {
        if (most < 2 || most > 3 || !findSources()) {
            return NONE;
        }
        Sorter sorter = sorters[most - 2];
        if (sorter == null) {
            sorter = new Sorter(story, most);
            sorters[most - 2] = sorter;
        }
        return sorter.fewest(sources);
    }

    public int gain(int holder, int what) {
        if (!isHolder(holder)) {
            return NONE;
        }
        int bits = 0;
        for (int other = 0; other < story.holders; other++) {
            if (other != holder && bothGain(holder, other)) {
                bits |= 1 << other;
            }
        }
        switch (what) {
            case 0:
                return Integer.bitCount(bits);
            case 1:
                return bits;
            default:
                return NONE;
        }
    }

    public int trade(int holder, int what) {
        if (!isHolder(holder)) {
            return NONE;
        }
        trading.play(story, now);
        switch (what) {
            case 0:
                return trading.gets[holder];
            case 1:
                return trading.rounds[holder];
            case 2:
                return trading.sizes[holder];
            default:
                return NONE;
        }
    }

    public int together(int what) {
        int best = 0;
        int one = NONE;
        int other = NONE;
        for (int i = 0; i < story.holders; i++) {
            for (int j = i + 1; j < story.holders; j++) {
                int more = moreBySwap(i, j);
                if (more > best) {
                    best = more;
                    one = i;
                    other = j;
                }
            }
        }
        switch (what) {
            case 0:
                return one;
            case 1:
                return other;
            case 2:
                return best > 0 ? best : NONE;
            default:
                return NONE;
        }
    }

    public int clear(int rings) {
        if (rings < 0 || rings > 5) {
            return NONE;
        }
        // All products come ahead of all divisions, so that only the whole is rounded down.
        long chance = 1000000L;
        long whole = 1L;
        for (int k = 0; k < rings; k++) {
            chance *= 100 - story.fog;
            whole *= 100L;
        }
        return (int) (chance / whole);
    }

    public int on(int held) {
        if (!isHeld(held) || story.sisters[held] == NONE) {
            return NONE;
        }
        int from = now.holderOf(held, story.holders);
        int to = now.holderOf(story.sisters[held], story.holders);
        if (from == NONE || to == NONE) {
            return NONE;
        }
        int reached = 1 << from;
        for (int steps = 1; steps < story.holders; steps++) {
            reached = withNeighbours(reached);
            if (((reached >> to) & 1) == 1) {
                return steps;
            }
        }
        return NONE;
    }

    // ---- notes

    public int note() {
        int size = takeTape();
        if (!areNotes(size)) {
            return refuse(1);
        }
        notes.forget(story.holders, story.helds);
        for (int row = 0; row < size; row += 3) {
            notes.addRow(tapeByte(row), tapeByte(row + 1), tapeByte(row + 2) == 1);
        }
        notes.reckon();
        return notes.rows;
    }

    public int can(int holder) {
        if (holder == NONE) {
            return notes.ways;
        }
        return isHolder(holder) ? notes.possible(holder) : NONE;
    }

    public int next(int what) {
        if (story.holders == 0 || notes.ways == 0) {
            return NONE;
        }
        int best = notes.bestQuestion();
        switch (what) {
            case 0:
                return best / PEOPLE;
            case 1:
                return best % PEOPLE;
            case 2:
                return notes.leftAtMost(best);
            default:
                return NONE;
        }
    }

    // ---- acts

    public int ring() {
        if (!readRing(triedRing, takeTape())) {
            return refuse(2);
        }
        history.remember(now);
        triedRing.weigh(story, now);
        closeRing();
        return triedRing.why;
    }

    public boolean want(int holder, int held) {
        if (!isHolder(holder) || !isHeld(held) || now.wants[holder] == held) {
            refuse(2);
            return false;
        }
        history.remember(now);
        now.wants[holder] = held;
        return true;
    }

    public int nights(int n) {
        if (n < 1 || n > 100 || now.night + n > MOST_NIGHT) {
            return refuse(3);
        }
        history.remember(now);
        int came = 0;
        for (int k = 0; k < n; k++) {
            if (story.holders >= 2) {
                drawRing();
                came += triedRing.why == 0 ? 1 : 0;
            }
            now.night++;
        }
        return came;
    }

    public boolean undo() {
        if (!history.recall(now)) {
            refuse(4);
            return false;
        }
        return true;
    }

    public boolean seed(int seed) {
        if (seed < 0) {
            refuse(5);
            return false;
        }
        this.seed = seed;
        return true;
    }

    // ---- questions

    public long ask() {
        reader.begin(takeTape());
        int asked = reader.word;
        boolean ofTest = asked == WORD_FIRST || asked == WORD_LAST || asked == WORD_OFTEN;
        boolean ofSum = asked == WORD_TOTAL || asked == WORD_MOST || asked == WORD_LEAST;
        if (!ofTest && !ofSum) {
            reader.stray();
            return NOTHING;
        }
        Formula formula = ofTest ? formulas.readTest(true) : formulas.readSum(true);
        if (formula == null) {
            return NOTHING;
        }
        if (reader.kind != TOKEN_END) {
            reader.stray();
            return NOTHING;
        }
        return ofTest ? answerTest(asked, formula) : answerSum(asked, formula);
    }

    // ---- images, refusals

    public int image() {
        imageSize = 0;
        putImage(now.night / 256);
        putImage(now.night % 256);
        for (int holder = 0; holder < story.holders; holder++) {
            putImage(now.has[holder]);
            putImage(now.wants[holder]);
            putImage(now.purse[holder] / 256);
            putImage(now.purse[holder] % 256);
            for (int other = 0; other < story.holders; other++) {
                putImage(now.met[holder * PEOPLE + other]);
            }
        }
        int check = 17;
        for (int k = 0; k < imageSize; k++) {
            check = (3 * check + image[k]) % 251;
        }
        putImage(check);
        return imageSize;
    }

    public int octet(int k) {
        return k >= 0 && k < imageSize ? image[k] : NONE;
    }

    public boolean resume() {
        if (!isImage(takeTape())) {
            refuse(5);
            return false;
        }
        now.night = tapePair(0);
        now.keptCount = 0;
        history.forget();
        for (int holder = 0; holder < story.holders; holder++) {
            int place = imagePlace(holder);
            now.has[holder] = tapeByte(place);
            now.wants[holder] = tapeByte(place + 1);
            now.purse[holder] = tapePair(place + 2);
            for (int other = 0; other < story.holders; other++) {
                now.met[holder * PEOPLE + other] = tapeByte(place + 4 + other);
            }
        }
        return true;
    }

    public int status(int what) {
        return what >= 0 && what < refused.length ? refused[what] : NONE;
    }

    // ---- what the calls share

    /** Always NONE, so that it can be a call's answer. */
    private int refuse(int sort) {
        refused[sort]++;
        return NONE;
    }

    private boolean isHeld(int which) {
        return which >= 0 && which < story.helds;
    }

    private boolean isHolder(int which) {
        return which >= 0 && which < story.holders;
    }

    private static int letterOf(int name, int k) {
        return (name >> (25 - 5 * k)) & 31;
    }

    private void putNumber(int number) {
        for (int shift = 24; shift >= 0 && tapeSize < TAPE_ROOM; shift -= 8) {
            tape[tapeSize] = (byte) (number >> shift);
            tapeSize++;
        }
    }

    /** Its size; the bytes themselves stay readable until the next feed. */
    private int takeTape() {
        int size = tapeSize;
        tapeSize = 0;
        return size;
    }

    private int tapeByte(int k) {
        return k >= 0 && k < TAPE_ROOM ? tape[k] & 255 : 0;
    }

    private int tapePair(int k) {
        return tapeByte(k) * 256 + tapeByte(k + 1);
    }

    private boolean isSettled(int holder) {
        return now.has[holder] == now.wants[holder];
    }

    private int settledHolders() {
        int settled = 0;
        for (int holder = 0; holder < story.holders; holder++) {
            settled += isSettled(holder) ? 1 : 0;
        }
        return settled;
    }

    private int coinsOfAll() {
        int coins = 0;
        for (int holder = 0; holder < story.holders; holder++) {
            coins += now.purse[holder];
        }
        return coins;
    }

    private int valueOfAll() {
        int value = 0;
        for (int holder = 0; holder < story.holders; holder++) {
            value += story.valueOf(holder, now.has[holder]);
        }
        return value;
    }

    private int howManyWant(int held) {
        int many = 0;
        for (int holder = 0; holder < story.holders; holder++) {
            many += now.wants[holder] == held ? 1 : 0;
        }
        return many;
    }

    /** A ring that is none leaves the given one as it was. */
    private boolean readRing(Ring ring, int size) {
        if (size < 2 || size > PEOPLE) {
            return false;
        }
        int bits = 0;
        for (int k = 0; k < size; k++) {
            int holder = tapeByte(k);
            if (!isHolder(holder) || ((bits >> holder) & 1) == 1) {
                return false;
            }
            bits |= 1 << holder;
        }
        for (int k = 0; k < size; k++) {
            ring.members[k] = tapeByte(k);
        }
        ring.size = size;
        return true;
    }

    private void closeRing() {
        now.keep(triedRing.why, triedRing.size, triedRing.members[0]);
        if (triedRing.why == 0) {
            triedRing.carryOut(now);
        }
    }

    private void drawRing() {
        int one = draw(story.holders);
        int other = draw(story.holders - 1);
        triedRing.size = 2;
        triedRing.members[0] = one;
        triedRing.members[1] = other < one ? other : other + 1;
        if (draw(100) < story.fog) {
            triedRing.why = WHY_FOG;
        } else {
            triedRing.weigh(story, now);
        }
        closeRing();
    }

    private int draw(int many) {
        seed = (1103515245 * seed + 12345) & LOWEST_31_BITS;
        return many > 0 ? seed / 64 % many : 0;
    }

    /** For each holder who has whom he wants; false unless these are all holders, each once. */
    private boolean findSources() {
        int bits = 0;
        for (int holder = 0; holder < story.holders; holder++) {
            int source = now.holderOf(now.wants[holder], story.holders);
            if (source == NONE || ((bits >> source) & 1) == 1) {
                return false;
            }
            bits |= 1 << source;
            sources[holder] = source;
        }
        return true;
    }

    private boolean bothGain(int one, int other) {
        return !story.areFeuding(one, other)
                && story.valueOf(one, now.has[other]) > story.valueOf(one, now.has[one])
                && story.valueOf(other, now.has[one]) > story.valueOf(other, now.has[other]);
    }

    private int moreBySwap(int one, int other) {
        return story.valueOf(one, now.has[other]) - story.valueOf(one, now.has[one])
                + story.valueOf(other, now.has[one]) - story.valueOf(other, now.has[other]);
    }

    private int withNeighbours(int reached) {
        int wider = reached;
        for (int one = 0; one < story.holders; one++) {
            for (int other = 0; other < story.holders; other++) {
                if (((reached >> one) & 1) == 1 && haveMet(one, other)) {
                    wider |= 1 << other;
                }
            }
        }
        return wider;
    }

    private boolean haveMet(int one, int other) {
        return now.met[one * PEOPLE + other] > 0 || now.met[other * PEOPLE + one] > 0;
    }

    private boolean areNotes(int size) {
        if (size < 3 || size > 3 * NOTE_ROWS || size % 3 != 0) {
            return false;
        }
        for (int row = 0; row < size; row += 3) {
            if (!isHolder(tapeByte(row)) || !isHeld(tapeByte(row + 1)) || tapeByte(row + 2) > 1) {
                return false;
            }
        }
        return true;
    }

    private long answerTest(int asked, Formula test) {
        int often = 0;
        int first = NONE;
        int last = NONE;
        for (int holder = 0; holder < story.holders; holder++) {
            findFacts(holder);
            if (test.worth(facts) != 0) {
                often++;
                first = first == NONE ? holder : first;
                last = holder;
            }
        }
        if (asked == WORD_OFTEN) {
            return often;
        }
        return asked == WORD_FIRST ? first : last;
    }

    private long answerSum(int asked, Formula sum) {
        long total = 0L;
        long most = 0L;
        long least = 0L;
        for (int holder = 0; holder < story.holders; holder++) {
            findFacts(holder);
            long worth = sum.worth(facts);
            total += worth;
            most = holder == 0 ? worth : Math.max(most, worth);
            least = holder == 0 ? worth : Math.min(least, worth);
        }
        if (asked == WORD_TOTAL) {
            return total;
        }
        return asked == WORD_MOST ? most : least;
    }

    private void findFacts(int holder) {
        int held = now.has[holder];
        facts[-1 - CODE_NUMBER] = holder;
        facts[-1 - CODE_GIVES] = story.valueOf(holder, held);
        facts[-1 - CODE_WANTS] = isSettled(holder) ? 1 : 0;
        facts[-1 - CODE_SALT] = story.salts[held];
        facts[-1 - CODE_PURSE] = now.purse[holder];
        facts[-1 - CODE_NIGHT] = now.night;
        for (int other = 0; other < PEOPLE; other++) {
            facts[FACT_MET_ROW + other] = other < story.holders ? now.met[holder * PEOPLE + other] : 0;
        }
    }

    private void putImage(int octet) {
        if (imageSize < IMAGE_ROOM) {
            image[imageSize] = octet;
            imageSize++;
        }
    }

    private int imagePlace(int holder) {
        return 2 + holder * (4 + story.holders);
    }

    private boolean isImage(int size) {
        if (size != imagePlace(story.holders) + 1 || tapePair(0) > MOST_NIGHT) {
            return false;
        }
        int check = 17;
        for (int k = 0; k < size - 1; k++) {
            check = (3 * check + tapeByte(k)) % 251;
        }
        if (tapeByte(size - 1) != check) {
            return false;
        }
        int had = 0;
        for (int holder = 0; holder < story.holders; holder++) {
            int held = tapeByte(imagePlace(holder));
            if (!isHolderImage(holder) || ((had >> held) & 1) == 1) {
                return false;
            }
            had |= 1 << held;
        }
        return true;
    }

    private boolean isHolderImage(int holder) {
        int place = imagePlace(holder);
        if (!isHeld(tapeByte(place)) || !isHeld(tapeByte(place + 1)) || tapePair(place + 2) > MOST_COINS) {
            return false;
        }
        for (int other = 0; other < story.holders; other++) {
            if (tapeByte(place + 4 + other) > (other == holder ? 0 : MOST_MET)) {
                return false;
            }
        }
        return true;
    }

    // ---- the text

    /** The token that stands ahead on the tape, and the first fault that was found. */
    private static final class Reader {
        private final byte[] bytes;
        private final int[] words = new int[WORD_COUNT];
        private int size;
        int kind;
        int start;
        int stop;
        // A word's letters packed by fives of bits, a number, or a sign.
        int value;
        int word;
        int nameStart;
        int fault;
        int faultPlace;

        Reader(byte[] bytes) {
            this.bytes = bytes;
            fault = 0;
            faultPlace = NONE;
            int count = 0;
            int letters = 0;
            for (int k = 0; k < WORDS.length(); k++) {
                char sign = WORDS.charAt(k);
                if (sign == ' ') {
                    count++;
                    letters = 0;
                } else if (count < WORD_COUNT && letters < NAME_LETTERS) {
                    words[count] |= (sign - 'a' + 1) << (25 - 5 * letters);
                    letters++;
                }
            }
        }

        void begin(int size) {
            this.size = size;
            fault = 0;
            faultPlace = NONE;
            kind = TOKEN_SIGN;
            stop = 0;
            step();
        }

        void step() {
            boolean behindWord = kind == TOKEN_WORD || kind == TOKEN_NUMBER;
            int end = stop;
            while (stop < size && (bytes[stop] == 10 || bytes[stop] == 32)) {
                stop++;
            }
            boolean touching = behindWord && stop == end;
            start = stop;
            value = 0;
            word = NONE;
            if (start >= size) {
                kind = TOKEN_END;
                return;
            }
            while (stop < size && bytes[stop] >= 'a' && bytes[stop] <= 'z') {
                if (stop - start < NAME_LETTERS) {
                    value |= (bytes[stop] - 'a' + 1) << (25 - 5 * (stop - start));
                }
                stop++;
            }
            if (stop > start) {
                kind = touching ? TOKEN_TOUCHING : TOKEN_WORD;
                for (int k = 0; !touching && stop - start <= NAME_LETTERS && k < WORD_COUNT; k++) {
                    word = words[k] == value ? k : word;
                }
                return;
            }
            while (stop < size && bytes[stop] >= '0' && bytes[stop] <= '9') {
                if (stop - start < NUMBER_DIGITS) {
                    value = 10 * value + bytes[stop] - '0';
                }
                stop++;
            }
            if (stop > start) {
                kind = touching ? TOKEN_TOUCHING : TOKEN_NUMBER;
                return;
            }
            kind = TOKEN_SIGN;
            value = bytes[start] & 255;
            stop++;
        }

        /** Always false, so that it can end a reading. */
        boolean refuse(int fault, int place) {
            this.fault = fault;
            faultPlace = place;
            return false;
        }

        boolean stray() {
            fault = FAULT_TEXT;
            faultPlace = start;
            return false;
        }

        boolean isSign(char sign) {
            return kind == TOKEN_SIGN && value == sign;
        }

        boolean needSign(char sign) {
            if (kind != TOKEN_SIGN || value != sign) {
                return stray();
            }
            step();
            return true;
        }

        boolean needWord(int wanted) {
            if (word != wanted) {
                return stray();
            }
            step();
            return true;
        }

        int needNumber(int most) {
            int number = value;
            if (kind != TOKEN_NUMBER) {
                stray();
                return NONE;
            }
            if (stop - start > NUMBER_DIGITS) {
                refuse(FAULT_TEXT, start + NUMBER_DIGITS);
                return NONE;
            }
            if (number > most) {
                refuse(FAULT_NUMBER, start);
                return NONE;
            }
            step();
            return number;
        }

        int needName() {
            int name = value;
            if (kind != TOKEN_WORD || word != NONE && word < OWN_WORDS) {
                stray();
                return NONE;
            }
            if (stop - start > NAME_LETTERS) {
                refuse(FAULT_TEXT, start + NAME_LETTERS);
                return NONE;
            }
            nameStart = start;
            step();
            return name;
        }
    }

    /** Turns the TEST or SUM behind the word where the reader stands into a formula. */
    private static final class FormulaReader {
        private final Reader reader;
        private final int[] codes = new int[TAPE_ROOM];
        private int size;
        private boolean ofQuestion;

        FormulaReader(Reader reader) {
            this.reader = reader;
        }

        /** Null with a fault. */
        Formula readTest(boolean ofQuestion) {
            this.ofQuestion = ofQuestion;
            size = 0;
            reader.step();
            return test(0) ? new Formula(Arrays.copyOf(codes, size)) : null;
        }

        /** Null with a fault. */
        Formula readSum(boolean ofQuestion) {
            this.ofQuestion = ofQuestion;
            size = 0;
            reader.step();
            return sum(0) ? new Formula(Arrays.copyOf(codes, size)) : null;
        }

        // The argument of the next ones is how many of ( [ not met are open.

        private boolean test(int open) {
            boolean fine = both(open);
            for (int k = 0; fine && reader.word == WORD_OR && k < TAPE_ROOM; k++) {
                reader.step();
                fine = both(open) && put(CODE_OR);
            }
            return fine;
        }

        private boolean both(int open) {
            boolean fine = fact(open);
            for (int k = 0; fine && reader.word == WORD_AND && k < TAPE_ROOM; k++) {
                reader.step();
                fine = fact(open) && put(CODE_AND);
            }
            return fine;
        }

        private boolean fact(int open) {
            if (reader.word == WORD_NOT) {
                return stepInto(open) && fact(open + 1) && put(CODE_NOT);
            }
            if (reader.isSign('[')) {
                return stepInto(open) && test(open + 1) && reader.needSign(']');
            }
            if (reader.word == WORD_ALL) {
                reader.step();
                return put(1);
            }
            if (!sum(open)) {
                return false;
            }
            int code = signCode('<', CODE_BELOW, '>', CODE_ABOVE);
            code = reader.isSign('=') ? CODE_SAME : code;
            if (code == NO_CODE) {
                return reader.stray();
            }
            reader.step();
            return sum(open) && put(code);
        }

        private boolean sum(int open) {
            boolean fine = product(open);
            int code = signCode('+', CODE_PLUS, '-', CODE_MINUS);
            for (int k = 0; fine && code != NO_CODE && k < TAPE_ROOM; k++) {
                reader.step();
                fine = product(open) && put(code);
                code = signCode('+', CODE_PLUS, '-', CODE_MINUS);
            }
            return fine;
        }

        private boolean product(int open) {
            boolean fine = part(open);
            int code = signCode('*', CODE_TIMES, '/', CODE_OVER);
            for (int k = 0; fine && code != NO_CODE && k < TAPE_ROOM; k++) {
                reader.step();
                fine = part(open) && put(code);
                code = signCode('*', CODE_TIMES, '/', CODE_OVER);
            }
            return fine;
        }

        private boolean part(int open) {
            if (reader.kind == TOKEN_NUMBER) {
                int number = reader.needNumber(MOST_NUMBER);
                return number != NONE && put(number);
            }
            if (reader.isSign('(')) {
                return stepInto(open) && sum(open + 1) && reader.needSign(')');
            }
            if (reader.word == WORD_MIN || reader.word == WORD_MAX) {
                int code = reader.word == WORD_MIN ? CODE_MIN : CODE_MAX;
                reader.step();
                return pair(open) && put(code);
            }
            if (ofQuestion && reader.word == WORD_MET) {
                return stepInto(open) && part(open + 1) && put(CODE_MET_WITH);
            }
            int code = factCode(reader.word);
            if (code == NO_CODE) {
                return reader.stray();
            }
            reader.step();
            return put(code);
        }

        private boolean pair(int open) {
            if (!reader.isSign('(')) {
                return reader.stray();
            }
            return stepInto(open) && sum(open + 1) && reader.needSign(',')
                    && sum(open + 1) && reader.needSign(')');
        }

        private boolean stepInto(int open) {
            if (open >= MOST_OPEN) {
                return reader.refuse(FAULT_DEPTH, reader.start);
            }
            reader.step();
            return true;
        }

        private int signCode(char one, int oneCode, char other, int otherCode) {
            if (reader.isSign(one)) {
                return oneCode;
            }
            return reader.isSign(other) ? otherCode : NO_CODE;
        }

        private int factCode(int word) {
            switch (word) {
                case WORD_GETS:
                    return ofQuestion ? NO_CODE : CODE_GETS;
                case WORD_MET:
                    return ofQuestion ? NO_CODE : CODE_MET;
                case WORD_NUMBER:
                    return ofQuestion ? CODE_NUMBER : NO_CODE;
                case WORD_GIVES:
                    return CODE_GIVES;
                case WORD_WANTS:
                    return CODE_WANTS;
                case WORD_SALT:
                    return CODE_SALT;
                case WORD_PURSE:
                    return CODE_PURSE;
                case WORD_NIGHT:
                    return CODE_NIGHT;
                default:
                    return NO_CODE;
            }
        }

        /** There is always room: each code comes from a byte of the text that is its own. */
        private boolean put(int code) {
            if (size < codes.length) {
                codes[size] = code;
                size++;
            }
            return true;
        }
    }

    /** A TEST (its worth is 1 or 0) or a SUM. */
    private static final class Formula {
        private final int[] codes;
        private final int[] stack = new int[STACK_ROOM];

        Formula(int[] codes) {
            this.codes = codes;
        }

        int worth(int[] facts) {
            int top = 0;
            for (int code : codes) {
                if (code > CODE_NOT) {
                    if (top >= STACK_ROOM) {
                        return 0;
                    }
                    stack[top] = code >= 0 ? code : facts[-1 - code];
                    top++;
                } else if (code > CODE_PLUS) {
                    if (top < 1) {
                        return 0;
                    }
                    stack[top - 1] = ofOne(code, stack[top - 1], facts);
                } else {
                    if (top < 2) {
                        return 0;
                    }
                    top--;
                    stack[top - 1] = ofTwo(code, stack[top - 1], stack[top]);
                }
            }
            return top > 0 ? stack[top - 1] : 0;
        }

        private static int ofOne(int code, int a, int[] facts) {
            if (code == CODE_NOT) {
                return 1 - a;
            }
            return a >= 0 && a < PEOPLE ? facts[FACT_MET_ROW + a] : 0;
        }

        private static int ofTwo(int code, int a, int b) {
            switch (code) {
                case CODE_PLUS:
                    return limited((long) a + b);
                case CODE_MINUS:
                    return limited((long) a - b);
                case CODE_TIMES:
                    return limited((long) a * b);
                case CODE_OVER:
                    return b == 0 ? 0 : Math.floorDiv(a, b);
                case CODE_MIN:
                    return Math.min(a, b);
                case CODE_MAX:
                    return Math.max(a, b);
                case CODE_BELOW:
                    return a < b ? 1 : 0;
                case CODE_ABOVE:
                    return a > b ? 1 : 0;
                case CODE_SAME:
                    return a == b ? 1 : 0;
                case CODE_AND:
                    return a & b;
                default:
                    return a | b;
            }
        }

        private static int limited(long number) {
            return (int) Math.max(-MOST_SUM, Math.min(MOST_SUM, number));
        }
    }

    /** Reads the statements of a case. */
    private static final class CaseReader {
        private final Reader reader;
        private final FormulaReader formulas;
        private Case story = null;

        CaseReader(Reader reader, FormulaReader formulas) {
            this.reader = reader;
            this.formulas = formulas;
        }

        /** Null with a fault. */
        Case readCase(int size) {
            story = new Case();
            reader.begin(size);
            for (int told = 0; told <= STATEMENTS; told++) {
                if (reader.kind == TOKEN_END) {
                    story.statements = told;
                    return story;
                }
                if (told == STATEMENTS) {
                    tooMany();
                    return null;
                }
                if (!readStatement() || !reader.needSign(';')) {
                    return null;
                }
            }
            return null;
        }

        private boolean readStatement() {
            switch (reader.word) {
                case WORD_HELD:
                    return story.helds < PEOPLE ? readHeld() : tooMany();
                case WORD_HOLDER:
                    return story.holders < PEOPLE ? readHolder() : tooMany();
                case WORD_VALUES:
                    return readValue();
                case WORD_FEUD:
                    return story.feudCount < FEUDS ? readFeud() : tooMany();
                case WORD_SISTER:
                    return readSister();
                case WORD_SWAPS:
                    if (story.swaps != null) {
                        return tooMany();
                    }
                    story.swaps = formulas.readTest(false);
                    return story.swaps != null;
                case WORD_PAYS:
                    if (story.pays != null) {
                        return tooMany();
                    }
                    story.pays = formulas.readSum(false);
                    return story.pays != null;
                case WORD_FOG:
                    return readFog();
                default:
                    return reader.stray();
            }
        }

        private boolean tooMany() {
            return reader.refuse(FAULT_MANY, reader.start);
        }

        private boolean readHeld() {
            reader.step();
            int name = newName();
            if (name == NONE || !reader.needWord(WORD_SALT)) {
                return false;
            }
            int salt = reader.needNumber(99);
            if (salt == NONE) {
                return false;
            }
            story.addHeld(name, salt);
            return true;
        }

        private boolean readHolder() {
            reader.step();
            int name = newName();
            if (name == NONE || !reader.needWord(WORD_HAS)) {
                return false;
            }
            int had = knownHeld();
            if (had == NONE) {
                return false;
            }
            if (story.start.holderOf(had, story.holders) != NONE) {
                return badName();
            }
            if (!reader.needWord(WORD_WANTS)) {
                return false;
            }
            int wanted = knownHeld();
            if (wanted == NONE || !reader.needWord(WORD_PURSE)) {
                return false;
            }
            int purse = reader.needNumber(999);
            if (purse == NONE) {
                return false;
            }
            story.addHolder(name, had, wanted, purse);
            return true;
        }

        private boolean readValue() {
            reader.step();
            int holder = knownHolder();
            if (holder == NONE) {
                return false;
            }
            int held = knownHeld();
            if (held == NONE) {
                return false;
            }
            int value = reader.needNumber(99);
            if (value == NONE) {
                return false;
            }
            story.values[holder * PEOPLE + held] = value;
            return true;
        }

        private boolean readFeud() {
            reader.step();
            int one = knownHolder();
            if (one == NONE) {
                return false;
            }
            int other = knownHolder();
            if (other == NONE) {
                return false;
            }
            if (one == other || story.areFeuding(one, other)) {
                return badName();
            }
            story.addFeud(one, other);
            return true;
        }

        private boolean readSister() {
            reader.step();
            int held = knownHeld();
            if (held == NONE) {
                return false;
            }
            if (story.sisters[held] != NONE) {
                return badName();
            }
            int sister = knownHeld();
            if (sister == NONE) {
                return false;
            }
            if (sister == held) {
                return badName();
            }
            story.sisters[held] = sister;
            return true;
        }

        private boolean readFog() {
            reader.step();
            int fog = reader.needNumber(100);
            if (fog == NONE) {
                return false;
            }
            story.fog = fog;
            return true;
        }

        private boolean badName() {
            return reader.refuse(FAULT_NAME, reader.nameStart);
        }

        private int newName() {
            int name = reader.needName();
            if (name == NONE) {
                return NONE;
            }
            if (story.heldNamed(name) != NONE || story.holderNamed(name) != NONE) {
                badName();
                return NONE;
            }
            return name;
        }

        private int knownHeld() {
            int name = reader.needName();
            if (name == NONE) {
                return NONE;
            }
            int held = story.heldNamed(name);
            if (held == NONE) {
                badName();
            }
            return held;
        }

        private int knownHolder() {
            int name = reader.needName();
            if (name == NONE) {
                return NONE;
            }
            int holder = story.holderNamed(name);
            if (holder == NONE) {
                badName();
            }
            return holder;
        }
    }

    // ---- what is told, and what has come of it

    /** What a text told, which no act changes, and the state that it starts with. */
    private static final class Case {
        int statements = 0;
        int helds = 0;
        int holders = 0;
        int feudCount = 0;
        int fog = 0;
        final int[] heldNames = new int[PEOPLE];
        final int[] holderNames = new int[PEOPLE];
        final int[] salts = new int[PEOPLE];
        final int[] sisters = new int[PEOPLE];
        final int[] values = new int[PEOPLE * PEOPLE];
        // Of each holder, those with whom he has a feud, as bits.
        final int[] feuds = new int[PEOPLE];
        // Null without.
        Formula swaps = null;
        Formula pays = null;
        final State start = new State();

        Case() {
            Arrays.fill(sisters, NONE);
        }

        void addHeld(int name, int salt) {
            if (helds < PEOPLE) {
                heldNames[helds] = name;
                salts[helds] = salt;
                helds++;
            }
        }

        void addHolder(int name, int had, int wanted, int purse) {
            if (holders < PEOPLE) {
                holderNames[holders] = name;
                start.has[holders] = had;
                start.wants[holders] = wanted;
                start.purse[holders] = purse;
                holders++;
            }
        }

        void addFeud(int one, int other) {
            feuds[one] |= 1 << other;
            feuds[other] |= 1 << one;
            feudCount++;
        }

        boolean areFeuding(int one, int other) {
            return ((feuds[one] >> other) & 1) == 1;
        }

        int valueOf(int holder, int held) {
            return values[holder * PEOPLE + held];
        }

        int heldNamed(int name) {
            for (int held = 0; held < helds; held++) {
                if (heldNames[held] == name) {
                    return held;
                }
            }
            return NONE;
        }

        int holderNamed(int name) {
            for (int holder = 0; holder < holders; holder++) {
                if (holderNames[holder] == name) {
                    return holder;
                }
            }
            return NONE;
        }
    }

    /** What acts change, and undoing brings back. */
    private static final class State {
        int night = 0;
        final int[] has = new int[PEOPLE];
        final int[] wants = new int[PEOPLE];
        final int[] purse = new int[PEOPLE];
        final int[] met = new int[PEOPLE * PEOPLE];
        // One number a ring, oldest first: night, then a digit each for why, how many, the first.
        final int[] kept = new int[KEPT_ROOM];
        int keptCount = 0;

        void copyFrom(State other) {
            night = other.night;
            System.arraycopy(other.has, 0, has, 0, PEOPLE);
            System.arraycopy(other.wants, 0, wants, 0, PEOPLE);
            System.arraycopy(other.purse, 0, purse, 0, PEOPLE);
            System.arraycopy(other.met, 0, met, 0, PEOPLE * PEOPLE);
            System.arraycopy(other.kept, 0, kept, 0, KEPT_ROOM);
            keptCount = other.keptCount;
        }

        int holderOf(int held, int holders) {
            for (int holder = 0; holder < holders; holder++) {
                if (has[holder] == held) {
                    return holder;
                }
            }
            return NONE;
        }

        void keep(int why, int size, int first) {
            if (keptCount >= KEPT_ROOM) {
                System.arraycopy(kept, 1, kept, 0, KEPT_ROOM - 1);
                keptCount = KEPT_ROOM - 1;
            }
            kept[keptCount] = night * 1000 + why * 100 + size * 10 + first;
            keptCount++;
        }
    }

    /** The states ahead of the latest acts. */
    private static final class History {
        private final State[] states = new State[UNDO_ROOM];
        private int place = 0;
        int count = 0;

        History() {
            for (int k = 0; k < UNDO_ROOM; k++) {
                states[k] = new State();
            }
        }

        void forget() {
            count = 0;
        }

        void remember(State now) {
            states[place].copyFrom(now);
            place = (place + 1) % UNDO_ROOM;
            count = Math.min(count + 1, UNDO_ROOM);
        }

        boolean recall(State now) {
            if (count == 0) {
                return false;
            }
            place = (place + UNDO_ROOM - 1) % UNDO_ROOM;
            count--;
            now.copyFrom(states[place]);
            return true;
        }
    }

    // ---- rings

    /** A row of holders, each of whom gives to the next one; size 0: none yet. */
    private static final class Ring {
        final int[] members = new int[PEOPLE];
        int size = 0;
        int why = 0;
        int byWhom = NONE;
        private final int[] pays = new int[PEOPLE];
        private final int[] gets = new int[PEOPLE];
        private final int[] facts = new int[FACT_ROOM];

        /** Finds why it would not come about, by whom, and what each would pay. */
        void weigh(Case story, State now) {
            int feuding = NONE;
            int unwilling = NONE;
            int poor = NONE;
            for (int k = 0; k < size; k++) {
                int holder = members[k];
                findFacts(k, story, now);
                if (feuding == NONE && story.areFeuding(holder, members[behind(k)])) {
                    feuding = holder;
                }
                if (unwilling == NONE && story.swaps != null && story.swaps.worth(facts) == 0) {
                    unwilling = holder;
                }
                int pay = story.pays == null ? 0 : story.pays.worth(facts);
                pays[k] = Math.max(0, Math.min(MOST_PAY, pay));
                if (poor == NONE && pays[k] > now.purse[holder]) {
                    poor = holder;
                }
            }
            decide(feuding, unwilling, poor);
        }

        private void decide(int feuding, int unwilling, int poor) {
            if (feuding != NONE) {
                why = WHY_FEUD;
                byWhom = feuding;
            } else if (unwilling != NONE) {
                why = WHY_SWAP;
                byWhom = unwilling;
            } else {
                why = poor != NONE ? WHY_PAY : 0;
                byWhom = poor;
            }
        }

        private void findFacts(int k, Case story, State now) {
            int holder = members[k];
            int giver = members[ahead(k)];
            gets[k] = now.has[giver];
            facts[-1 - CODE_GETS] = story.valueOf(holder, gets[k]);
            facts[-1 - CODE_GIVES] = story.valueOf(holder, now.has[holder]);
            facts[-1 - CODE_WANTS] = now.wants[holder] == gets[k] ? 1 : 0;
            facts[-1 - CODE_SALT] = story.salts[gets[k]];
            facts[-1 - CODE_MET] = now.met[holder * PEOPLE + giver];
            facts[-1 - CODE_PURSE] = now.purse[holder];
            facts[-1 - CODE_NIGHT] = now.night;
        }

        /** What was weighed comes about. */
        void carryOut(State now) {
            for (int k = 0; k < size; k++) {
                int holder = members[k];
                int meeting = holder * PEOPLE + members[ahead(k)];
                now.has[holder] = gets[k];
                now.purse[holder] = Math.min(MOST_COINS, now.purse[holder] - pays[k] + pays[behind(k)]);
                now.met[meeting] = Math.min(MOST_MET, now.met[meeting] + 1);
            }
        }

        int paysOfAll() {
            int coins = 0;
            for (int k = 0; k < size; k++) {
                coins += pays[k];
            }
            return coins;
        }

        private int ahead(int k) {
            return k > 0 ? k - 1 : size - 1;
        }

        private int behind(int k) {
            return k + 1 < size ? k + 1 : 0;
        }
    }

    /** The fewest meetings by which any order of the holders of a case becomes the one that is wanted. */
    private static final class Sorter {
        private final int holders;
        // Three places each: the first two are swapped, then the second and the third (none: NONE).
        private final int[] moves = new int[165];
        private int moveCount = 0;
        // By rank of an order; NONE where it is not reached yet.
        private final int[] steps;
        // Orders as threes of bits, in the order of being reached.
        private final int[] queue;
        private int head = 0;
        private int tail = 0;
        private final int[] order = new int[PEOPLE];

        Sorter(Case story, int most) {
            holders = story.holders;
            int orders = 1;
            for (int k = 2; k <= holders; k++) {
                orders *= k;
            }
            steps = new int[orders];
            queue = new int[orders];
            Arrays.fill(steps, NONE);
            addMoves(story, most);
            for (int k = 0; k < holders; k++) {
                order[k] = k;
            }
            reach(0);
        }

        private void addMoves(Case story, int most) {
            for (int i = 0; i < holders; i++) {
                for (int j = i + 1; j < holders; j++) {
                    if (story.areFeuding(i, j)) {
                        continue;
                    }
                    addMove(i, j, NONE);
                    for (int k = j + 1; most == 3 && k < holders; k++) {
                        if (!story.areFeuding(i, k) && !story.areFeuding(j, k)) {
                            addMove(i, j, k);
                            addMove(i, k, j);
                        }
                    }
                }
            }
        }

        private void addMove(int first, int second, int third) {
            if (moveCount + 3 <= moves.length) {
                moves[moveCount] = first;
                moves[moveCount + 1] = second;
                moves[moveCount + 2] = third;
                moveCount += 3;
            }
        }

        /** As each move can be taken back by one, the way from the wanted order is as long as the way to it. */
        int fewest(int[] wanted) {
            System.arraycopy(wanted, 0, order, 0, PEOPLE);
            int rank = rankOfOrder();
            for (; steps[rank] == NONE && head < tail && head < queue.length; head++) {
                reachFrom(queue[head]);
            }
            return steps[rank];
        }

        private void reachFrom(int packed) {
            for (int k = 0; k < holders; k++) {
                order[k] = (packed >> (3 * k)) & 7;
            }
            int next = steps[rankOfOrder()] + 1;
            for (int move = 0; move < moveCount; move += 3) {
                int third = moves[move + 2];
                swap(moves[move], moves[move + 1]);
                if (third != NONE) {
                    swap(moves[move + 1], third);
                }
                reach(next);
                if (third != NONE) {
                    swap(moves[move + 1], third);
                }
                swap(moves[move], moves[move + 1]);
            }
        }

        private void swap(int i, int j) {
            int one = order[i];
            order[i] = order[j];
            order[j] = one;
        }

        private void reach(int many) {
            int rank = rankOfOrder();
            if (steps[rank] != NONE || tail >= queue.length) {
                return;
            }
            steps[rank] = many;
            for (int k = 0; k < holders; k++) {
                queue[tail] |= order[k] << (3 * k);
            }
            tail++;
        }

        private int rankOfOrder() {
            int rank = 0;
            int used = 0;
            for (int k = 0; k < holders; k++) {
                int one = 1 << order[k];
                rank = rank * (holders - k) + order[k] - Integer.bitCount(used & (one - 1));
                used |= one;
            }
            return rank;
        }
    }

    /** Where trading by rings ends: of each holder whom he gets, his round, his ring's size. */
    private static final class Trading {
        final int[] gets = new int[PEOPLE];
        final int[] rounds = new int[PEOPLE];
        final int[] sizes = new int[PEOPLE];
        private final int[] pointsAt = new int[PEOPLE];

        void play(Case story, State now) {
            int left = (1 << story.holders) - 1;
            for (int round = 1; left != 0 && round <= PEOPLE; round++) {
                point(story, now, left);
                int leaving = 0;
                for (int holder = 0; holder < story.holders; holder++) {
                    int size = ((left >> holder) & 1) == 1 ? ringOf(holder) : 0;
                    if (size > 0) {
                        gets[holder] = now.has[pointsAt[holder]];
                        rounds[holder] = round;
                        sizes[holder] = size;
                        leaving |= 1 << holder;
                    }
                }
                left &= ~leaving;
            }
        }

        private void point(Case story, State now, int left) {
            for (int holder = 0; holder < story.holders; holder++) {
                pointsAt[holder] = holder;
                int best = story.valueOf(holder, now.has[holder]);
                for (int held = 0; held < story.helds; held++) {
                    int other = now.holderOf(held, story.holders);
                    boolean there = other != NONE && ((left >> other) & 1) == 1;
                    if (there && story.valueOf(holder, held) > best) {
                        best = story.valueOf(holder, held);
                        pointsAt[holder] = other;
                    }
                }
            }
        }

        /** 0 when the way from him does not come back to him. */
        private int ringOf(int holder) {
            int one = holder;
            for (int size = 1; size <= PEOPLE; size++) {
                one = pointsAt[one];
                if (one == holder) {
                    return size;
                }
            }
            return 0;
        }
    }

    // ---- notes

    /** In how many ways the holders can have the held, by what was noted. */
    private static final class Notes {
        int rows = 0;
        int ways = 0;
        private int holders = 0;
        private int helds = 0;
        // Of each holder whom no note by itself rules out, as bits of the held.
        private final int[] allowed = new int[PEOPLE];
        // By bits of the held: ways in which the first so many holders have just these, and
        // ways for the holders that are left when these are gone.
        private final int[] waysTo = new int[1 << PEOPLE];
        private final int[] waysFrom = new int[1 << PEOPLE];
        // Ways in which a holder has a held one.
        private final int[] counts = new int[PEOPLE * PEOPLE];

        void forget(int holders, int helds) {
            rows = 0;
            this.holders = holders;
            this.helds = helds;
            Arrays.fill(allowed, (1 << helds) - 1);
            reckon();
        }

        void addRow(int holder, int held, boolean hasHer) {
            allowed[holder] &= hasHer ? 1 << held : ~(1 << held);
            rows++;
        }

        void reckon() {
            Arrays.fill(waysTo, 0);
            Arrays.fill(waysFrom, 0);
            Arrays.fill(counts, 0);
            int all = (1 << helds) - 1;
            waysTo[0] = 1;
            for (int bits = 0; bits <= all; bits++) {
                reckonTo(bits);
            }
            for (int bits = all; bits >= 0; bits--) {
                reckonFrom(bits);
            }
            ways = waysFrom[0];
        }

        private void reckonTo(int bits) {
            int holder = Integer.bitCount(bits);
            if (holder >= holders) {
                return;
            }
            int open = allowed[holder] & ~bits;
            for (int held = 0; held < helds; held++) {
                if (((open >> held) & 1) == 1) {
                    waysTo[bits | (1 << held)] += waysTo[bits];
                }
            }
        }

        private void reckonFrom(int bits) {
            int holder = Integer.bitCount(bits);
            if (holder >= holders) {
                waysFrom[bits] = holder == holders ? 1 : 0;
                return;
            }
            int open = allowed[holder] & ~bits;
            for (int held = 0; held < helds; held++) {
                if (((open >> held) & 1) == 1) {
                    int from = waysFrom[bits | (1 << held)];
                    waysFrom[bits] += from;
                    counts[holder * PEOPLE + held] += waysTo[bits] * from;
                }
            }
        }

        /** Whom a holder can have, as bits of the held. */
        int possible(int holder) {
            int bits = 0;
            for (int held = 0; held < helds; held++) {
                bits |= counts[holder * PEOPLE + held] > 0 ? 1 << held : 0;
            }
            return bits;
        }

        /** Holder times six and held. */
        int bestQuestion() {
            int best = 0;
            for (int holder = 0; holder < holders; holder++) {
                for (int held = 0; held < helds; held++) {
                    int question = holder * PEOPLE + held;
                    best = leftAtMost(question) < leftAtMost(best) ? question : best;
                }
            }
            return best;
        }

        int leftAtMost(int question) {
            return Math.max(counts[question], ways - counts[question]);
        }
    }
}
