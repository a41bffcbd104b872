/** Hulls pulled at their corners, trials of pieces, stories of what happened and the sea's bed, as DOC.md promises. */
public final class HullTank {
    public static final int NONE = -1;

    private static final int NO_ANSWER = -2;
    private static final int NOT_TO_COMPARE = -100000;
    private static final int LOST = 8;
    private static final int HALF = 500;
    private static final int MOST_PRESSURE = 99;
    private static final int MOST_PULLS = 2000;
    private static final int MOST_FLOWN = 100000;
    private static final int PROGRAMS = 8;
    // Run times are remembered by a number for each text of pulls: programs, then trials, then this one.
    private static final int NO_PROGRAM = 16;

    private final Tape tape = new Tape();
    private final Corners corners = new Corners();
    private final LawReader lawReader = new LawReader(tape, corners.spareLaw());
    private final Program[] programs = new Program[PROGRAMS];
    private final Program noProgram = new Program();
    private final Hulls hulls = new Hulls(corners);
    private final Odds odds = new Odds(corners);
    private final Trials trials = new Trials();
    private final Stories stories = new Stories();
    private final Bed bed = new Bed();
    private final Strain fresh = new Strain(corners);
    private final Program spare = new Program();

    public HullTank() {
        for (int k = 0; k < programs.length; k++) {
            programs[k] = new Program();
        }
    }

    public int corner(int kind, int radius, int thick, int reach) {
        if (!within(kind, 0, 3) || !within(radius, 1, 50) || !within(thick, 1, 50) || !within(reach, 1, 10000)) {
            return NONE;
        }
        if (corners.size() >= Corners.MOST || hulls.size() > 0) {
            return NONE;
        }
        return corners.add(kind, radius, thick, reach);
    }

    public int life(int c, int life, int weight) {
        if (!corners.has(c) || !within(life, 1, 1000000) || !within(weight, 1, 5)) {
            return NONE;
        }
        if (corners.livesOf(c) >= Corners.MOST_LIVES || hulls.size() > 0) {
            return NONE;
        }
        return corners.addLife(c, life, weight);
    }

    public int feed(int a, int b, int c, int d, int e) {
        if (!tape.hasRoomFor(20)) {
            return NONE;
        }
        tape.add(a);
        tape.add(b);
        tape.add(c);
        tape.add(d);
        tape.add(e);
        return tape.size();
    }

    public int law(int n) {
        if (!within(n, 1, Law.MOST_TEXT) || n > tape.size()) {
            return NONE;
        }
        Law law = corners.spareLaw();
        tape.open(n);
        lawReader.read(law);
        tape.clear();
        if (!tape.sound()) {
            return tape.faultTold();
        }
        corners.takeSpareLaw();
        return law.clauses();
    }

    public int program(int k, int n) {
        Program program = programOf(k);
        if (program == null || !within(n, 1, Program.MOST_TEXT) || n > tape.size()) {
            return NONE;
        }
        tape.open(n);
        spare.read(tape);
        tape.clear();
        if (!tape.sound()) {
            return tape.faultTold();
        }
        program.copy(spare);
        corners.changed();
        return program.pulls();
    }

    public int pull(int c, int pressure, int what) {
        if (!corners.has(c) || !within(pressure, 0, MOST_PRESSURE) || !within(what, 0, 1)) {
            return NONE;
        }
        fresh.begin(c, 0);
        fresh.reckon(pressure);
        return what == 0 ? fresh.pulled() : fresh.more();
    }

    public int hull(int lives) {
        if (!corners.fits(lives) || hulls.size() >= Hulls.MOST || corners.size() == 0) {
            return NONE;
        }
        return hulls.add(lives);
    }

    public int flown(int h, int pressure, int times) {
        if (!hulls.has(h) || !within(pressure, 0, MOST_PRESSURE) || !within(times, 1, MOST_PULLS)) {
            return NONE;
        }
        if (hulls.lostBy(h) != NONE || hulls.pulls(h) + times > MOST_FLOWN) {
            return NONE;
        }
        return hulls.goOn(h, pressure, times);
    }

    public int hullIs(int h, int what) {
        if (!hulls.has(h) || !within(what, 0, 1)) {
            return NONE;
        }
        return what == 0 ? hulls.pulls(h) : hulls.lostBy(h);
    }

    public int cornerIs(int h, int c, int what) {
        if (!hulls.has(h) || !corners.has(c) || !within(what, 0, 2)) {
            return NONE;
        }
        return hulls.stateOf(h, c, what);
    }

    public int runs(int k, int c, int i, int what) {
        Program program = programOf(k);
        if (program == null || !corners.hasLife(c, i) || !within(what, 0, 1)) {
            return NONE;
        }
        return what == 0 ? odds.crackedBy(c, i, program) : odds.ranBy(c, i, program);
    }

    public long odds(int k, int pressure, int n, int what) {
        Program program = programOf(k);
        if (!canFly(program, pressure, n) || !(what == NONE || what == LOST || corners.has(what))) {
            return NONE;
        }
        int every = corners.every();
        if (what == NONE) {
            return odds.ways(every);
        }
        int total = pullsOf(program) + n;
        odds.prepare(every, k, program, pressure, total);
        return what == LOST ? odds.lost(every, total) : odds.first(what, total);
    }

    public long left(int k, int pressure, int n, int what) {
        Program program = programOf(k);
        if (!canFly(program, pressure, n) || !within(what, 0, 1)) {
            return NONE;
        }
        int every = corners.every();
        int pulls = pullsOf(program);
        odds.prepare(every, k, program, pressure, pulls + n);
        long gone = odds.lost(every, pulls);
        long below = odds.ways(every) - gone;
        if (below == 0) {
            return NO_ANSWER;
        }
        return shortened(odds.lost(every, pulls + n) - gone, below, what);
    }

    public int likely(int piece, int k, int pressure, int thousandths) {
        Program program = programOf(k);
        if (!corners.hasPiece(piece) || !canFly(program, pressure, 0) || !within(thousandths, 1, 1000)) {
            return NONE;
        }
        odds.prepare(piece, k, program, pressure, MOST_PULLS);
        return odds.flightsTill(piece, pullsOf(program), thousandths);
    }

    public int off(int piece, int k, int pressure) {
        Program program = programOf(k);
        if (!corners.hasPiece(piece) || !canFly(program, pressure, 0)) {
            return NOT_TO_COMPARE;
        }
        odds.prepare(piece, k, program, pressure, MOST_PULLS);
        int ofPiece = odds.flightsTill(piece, pullsOf(program), HALF);
        int every = corners.every();
        odds.prepare(every, NO_PROGRAM, noProgram, pressure, MOST_PULLS);
        int ofHull = odds.flightsTill(every, 0, HALF);
        return ofPiece < 0 || ofHull < 0 ? NOT_TO_COMPARE : ofPiece - ofHull;
    }

    public int trial(int piece, int k, int pressure, int n, int cost) {
        Program program = programOf(k);
        if (!corners.hasPiece(piece) || !canFly(program, pressure, n) || !within(cost, 1, 10000)) {
            return NONE;
        }
        if (trials.size() >= Trials.MOST) {
            return NONE;
        }
        return trials.add(piece, program, pressure, n, cost);
    }

    public long says(int i, int what) {
        if (!trials.has(i) || !within(what, 0, 1)) {
            return NONE;
        }
        int piece = trials.piece(i);
        odds.prepare(piece, PROGRAMS + i, trials.program(i), trials.pressure(i), trials.pulls(i));
        return shortened(odds.lost(piece, trials.pulls(i)), odds.ways(piece), what);
    }

    public int cheapest(int thousandths) {
        if (!within(thousandths, 1, 1000)) {
            return NONE;
        }
        int best = NONE;
        for (int i = 0; i < trials.size(); i++) {
            if (best == NONE || trials.cost(i) < trials.cost(best)) {
                int piece = trials.piece(i);
                odds.prepare(piece, PROGRAMS + i, trials.program(i), trials.pressure(i), trials.pulls(i));
                boolean says = odds.lost(piece, trials.pulls(i)) * 1000 >= thousandths * odds.ways(piece);
                best = says ? i : best;
            }
        }
        return best;
    }

    public int story(int prior) {
        if (!within(prior, 1, 100) || stories.size() >= Stories.MOST) {
            return NONE;
        }
        return stories.add(prior);
    }

    public int find() {
        return stories.finds() >= Stories.MOST_FINDS ? NONE : stories.addFind();
    }

    public boolean tells(int f, int s, int ten) {
        if (!stories.hasFind(f) || !stories.has(s) || !within(ten, 0, 10)) {
            return false;
        }
        stories.foretell(f, s, ten);
        return true;
    }

    public boolean seen(int f, int is) {
        if (!stories.hasFind(f) || !within(is, NONE, 1)) {
            return false;
        }
        stories.know(f, is);
        return true;
    }

    public long weighs(int s) {
        if (s == NONE) {
            return stories.together();
        }
        return stories.has(s) ? stories.oddsOf(s) : NONE;
    }

    public int moves() {
        return stories.mostMoving();
    }

    public boolean wind(int speed, int least, int greatest) {
        if (!within(speed, 1, 50) || !within(least, -20, 20) || !within(greatest, least, 20)) {
            return false;
        }
        bed.blow(speed, least, greatest);
        return true;
    }

    public int lies(int place, int fall) {
        if (!within(place, 0, 100000) || !within(fall, 0, 1000) || bed.size() >= Bed.MOST) {
            return NONE;
        }
        return bed.add(place, fall);
    }

    public int span(int i, int what) {
        if (!bed.has(i) || !within(what, 0, 1)) {
            return NONE;
        }
        return what == 0 ? bed.earliest(i) : bed.latest(i);
    }

    public int order(int x, int y) {
        return bed.has(x) && bed.has(y) ? bed.compare(x, y) : NONE;
    }

    public boolean cell(int s, int cell, int weight) {
        if (!stories.has(s) || !within(cell, 0, Stories.CELLS - 1) || !within(weight, 0, 100)) {
            return false;
        }
        stories.weigh(s, cell, weight);
        return true;
    }

    public long nets(int k, int w, int what) {
        if (!within(k, 1, Stories.MOST_NETS) || !within(w, 1, 10) || k * w > Stories.CELLS || !within(what, NONE, k - 1)) {
            return NONE;
        }
        long worth = stories.castNets(k, w);
        return what == NONE ? worth : stories.net(what);
    }

    public int fly(int k, int pressure, int greatest, int lost, int idle) {
        Program program = programOf(k);
        if (!within(greatest, 0, 200) || !within(lost, 0, 1000000) || !within(idle, 0, 1000)) {
            return NONE;
        }
        if (!canFly(program, pressure, greatest)) {
            return NONE;
        }
        odds.prepare(corners.every(), k, program, pressure, pullsOf(program) + greatest);
        return odds.cheapestFlights(pullsOf(program), greatest, lost, idle);
    }

    public int check(int h, int n) {
        if (!hulls.has(h) || n < 0 || n > tape.size() / 12) {
            return NO_ANSWER;
        }
        int wrong = hulls.firstWrong(h, n, tape);
        tape.clear();
        return wrong;
    }

    public int count(int what) {
        switch (what) {
            case 0: return corners.size();
            case 1: return hulls.size();
            case 2: return trials.size();
            case 3: return stories.size();
            case 4: return stories.finds();
            case 5: return bed.size();
            case 6: return corners.lawNow().clauses();
            case 7: return tape.size();
            default: return countOfOne(what);
        }
    }

    private int countOfOne(int what) {
        if (within(what, 10, 17) && corners.has(what - 10)) {
            return corners.livesOf(what - 10);
        }
        if (within(what, 20, 27)) {
            return pullsOf(programOf(what - 20));
        }
        return NONE;
    }

    private Program programOf(int k) {
        return k >= 0 && k < programs.length ? programs[k] : null;
    }

    private static int pullsOf(Program program) {
        return program == null ? 0 : program.pulls();
    }

    private static boolean canFly(Program program, int pressure, int n) {
        return program != null && within(pressure, 0, MOST_PRESSURE)
            && within(n, 0, MOST_PULLS) && program.pulls() + n <= MOST_PULLS;
    }

    private static boolean within(int x, int least, int greatest) {
        return x >= least && x <= greatest;
    }

    private static int at(int[] row, int i) {
        return i >= 0 && i < row.length ? row[i] : 0;
    }

    private static void put(int[] row, int i, int x) {
        if (i >= 0 && i < row.length) {
            row[i] = x;
        }
    }

    private static long longAt(long[] row, int i) {
        return i >= 0 && i < row.length ? row[i] : 0;
    }

    private static void putLong(long[] row, int i, long x) {
        if (i >= 0 && i < row.length) {
            row[i] = x;
        }
    }

    private static long shortened(long above, long below, int what) {
        long a = above;
        long b = below;
        // A hundred rounds are more than two longs can need.
        for (int i = 0; i < 100 && b != 0; i++) {
            long rest = a % b;
            a = b;
            b = rest;
        }
        if (a == 0) {
            return 0;
        }
        return what == 0 ? above / a : below / a;
    }

    /** The bytes that were fed, and the place up to which a text of them is read. */
    private static final class Tape {
        static final int END = -1;
        static final int CANNOT_STAND = 1;
        static final int DIGIT_TOO_MANY = 2;
        static final int NO_SUCH_TIMES = 3;
        static final int PART_TOO_MANY = 4;
        static final int TOO_DEEP = 5;

        private final int[] bytes = new int[200];
        private int size;
        private int length;
        private int place;
        private int fault;
        private int faultPlace;

        int size() {
            return size;
        }

        boolean hasRoomFor(int more) {
            return size + more <= bytes.length;
        }

        void add(int word) {
            for (int shift = 24; shift >= 0; shift -= 8) {
                put(bytes, size, word >>> shift & 255);
                size++;
            }
        }

        void clear() {
            size = 0;
        }

        int word(int i) {
            int word = 0;
            for (int j = 0; j < 4; j++) {
                word = word << 8 | at(bytes, 4 * i + j);
            }
            return word;
        }

        void open(int n) {
            length = n;
            place = 0;
            fault = 0;
            faultPlace = 0;
        }

        /** Behind a fault nothing more is read, so that every reader comes to its end. */
        int sign() {
            return fault == 0 && place >= 0 && place < length && place < bytes.length ? bytes[place] : END;
        }

        boolean onDigit() {
            int sign = sign();
            return sign >= '0' && sign <= '9';
        }

        boolean atEnd() {
            return fault == 0 && place >= length;
        }

        int place() {
            return place;
        }

        void pass(int due) {
            if (sign() == due) {
                place++;
            } else {
                fail(CANNOT_STAND, place);
            }
        }

        int number(int mostDigits) {
            if (!onDigit()) {
                fail(CANNOT_STAND, place);
            }
            int value = 0;
            for (int i = 0; i <= mostDigits && onDigit(); i++) {
                if (i == mostDigits) {
                    fail(DIGIT_TOO_MANY, place);
                } else {
                    value = value * 10 + sign() - '0';
                    place++;
                }
            }
            return value;
        }

        /** The fault that is told first stays. */
        void fail(int number, int where) {
            if (fault == 0) {
                fault = number;
                faultPlace = where;
            }
        }

        boolean sound() {
            return fault == 0;
        }

        int faultTold() {
            return -1000 * fault - faultPlace;
        }
    }

    /** The clauses as steps for a small machine with a stack; a step is its kind and what belongs to it in one int. */
    private static final class Law {
        static final int MOST_TEXT = 160;
        static final int MOST_CLAUSES = 12;
        static final int MOST_PULLED = 10000;
        static final int MOST_WORN = 100000;
        static final int MOST_GROWN = 10000;

        static final String LETTERS = "prtkcnqhlw";
        static final int NUMBER_OF_PULLS = 5;
        static final int PULLED_NOW = 6;
        static final int MOST_BEFORE = 7;
        static final int LENGTH = 8;
        static final int WEAR = 9;

        static final int NUMBER = 1;
        static final int LETTER = 2;
        static final int NOT = 3;
        static final int SKIP_IF = 4;
        static final int SKIP_UNLESS = 5;

        private static final int SHIFT = 20;
        private static final int REST = (1 << SHIFT) - 1;
        private static final int DEEPEST_STACK = 40;

        private final int[] steps = new int[MOST_TEXT];
        private final int[] clauseLetters = new int[MOST_CLAUSES];
        private final int[] sumStarts = new int[MOST_CLAUSES];
        private final int[] conditionStarts = new int[MOST_CLAUSES];
        private final int[] ends = new int[MOST_CLAUSES];
        private final int[] values = new int[10];
        private final int[] stack = new int[DEEPEST_STACK];
        private int size;
        private int clauses;
        private int lettersUsed;
        private int top;
        private boolean holds;
        private boolean refused;

        int clauses() {
            return clauses;
        }

        boolean uses(int letter) {
            return (lettersUsed >> letter & 1) == 1;
        }

        void empty() {
            size = 0;
            clauses = 0;
            lettersUsed = 0;
        }

        void openClause(int letter) {
            put(clauseLetters, clauses, letter);
            put(sumStarts, clauses, size);
        }

        void openCondition() {
            put(conditionStarts, clauses, size);
        }

        void closeClause() {
            put(ends, clauses, size);
            clauses++;
        }

        void add(int kind, int rest) {
            put(steps, size, kind << SHIFT | rest);
            size++;
        }

        void addLetter(int letter) {
            lettersUsed |= 1 << letter;
            add(LETTER, letter);
        }

        /** A skip whose end is not known yet keeps the skip before it that ends there too. */
        int addSkip(int kind, int skipBefore) {
            add(kind, skipBefore + 1);
            return size - 1;
        }

        void endSkipsHere(int lastSkip) {
            int skip = lastSkip;
            for (int i = 0; i < steps.length && skip >= 0 && skip < steps.length; i++) {
                int before = (steps[skip] & REST) - 1;
                steps[skip] = steps[skip] & ~REST | size;
                skip = before;
            }
        }

        void setCorner(int radius, int thick, int kind, int number) {
            values[1] = radius;
            values[2] = thick;
            values[3] = kind;
            values[4] = number;
        }

        void setState(int pressure, int pulls, int most, int crack, int wear) {
            values[0] = pressure;
            values[NUMBER_OF_PULLS] = pulls;
            values[PULLED_NOW] = 0;
            values[MOST_BEFORE] = most;
            values[LENGTH] = crack;
            values[WEAR] = wear;
        }

        void setPulled(int pulled) {
            values[PULLED_NOW] = pulled;
        }

        int amount(int letter, int most) {
            for (int i = 0; i < clauses && i < MOST_CLAUSES; i++) {
                if (clauseLetters[i] == letter) {
                    run(conditionStarts[i], ends[i]);
                    if (holds && !refused) {
                        run(sumStarts[i], conditionStarts[i]);
                        return refused ? 0 : Math.max(0, Math.min(most, stack[0]));
                    }
                }
            }
            return 0;
        }

        /** Skips lead forward alone: each round comes nearer to the end. */
        private void run(int from, int to) {
            top = 0;
            holds = false;
            refused = false;
            int here = from;
            while (here < to && !refused) {
                int step = at(steps, here);
                int rest = step & REST;
                here++;
                switch (step >> SHIFT) {
                    case NUMBER:
                        push(rest);
                        break;
                    case LETTER:
                        push(at(values, rest));
                        break;
                    case NOT:
                        holds = !holds;
                        break;
                    case SKIP_IF:
                        here = holds ? Math.max(here, rest) : here;
                        break;
                    case SKIP_UNLESS:
                        here = holds ? here : Math.max(here, rest);
                        break;
                    default:
                        reckon(step >> SHIFT);
                }
            }
        }

        private void push(int x) {
            if (top >= 0 && top < stack.length) {
                stack[top] = x;
                top++;
            } else {
                refused = true;
            }
        }

        /** The kinds of these steps are their signs in the text. */
        private void reckon(int sign) {
            if (top < 2 || top > stack.length || (sign == '/' || sign == '%') && stack[top - 1] == 0) {
                refused = true;
                return;
            }
            int b = stack[top - 1];
            int a = stack[top - 2];
            top--;
            switch (sign) {
                case '+':
                    stack[top - 1] = a + b;
                    break;
                case '-':
                    stack[top - 1] = a - b;
                    break;
                case '*':
                    stack[top - 1] = a * b;
                    break;
                case '/':
                    stack[top - 1] = a / b;
                    break;
                case '%':
                    stack[top - 1] = a % b;
                    break;
                default:
                    holds = sign == '<' ? a < b : sign == '>' ? a > b : a == b;
                    top--;
            }
        }
    }

    /** Reads the text of the law and writes its steps. */
    private static final class LawReader {
        private static final int DEEPEST = 6;
        private static final int MOST_DIGITS = 5;

        private final Tape tape;
        private Law law;

        LawReader(Tape tape, Law law) {
            this.tape = tape;
            this.law = law;
        }

        void read(Law into) {
            law = into;
            law.empty();
            for (int i = 0; i <= Law.MOST_CLAUSES && tape.sound(); i++) {
                readClause(i);
                if (tape.atEnd()) {
                    return;
                }
                tape.pass(';');
            }
        }

        private void readClause(int i) {
            int letter = tape.sign();
            if (letter != 'q' && letter != 'd' && letter != 'g') {
                tape.fail(Tape.CANNOT_STAND, tape.place());
                return;
            }
            if (i >= Law.MOST_CLAUSES) {
                tape.fail(Tape.PART_TOO_MANY, tape.place());
                return;
            }
            tape.pass(letter);
            law.openClause(letter);
            readSum(0);
            law.openCondition();
            tape.pass('(');
            readChoice(1);
            tape.pass(')');
            law.closeClause();
        }

        private void readChoice(int open) {
            int skips = NONE;
            readPart(open);
            for (int i = 0; i < Law.MOST_TEXT && tape.sign() == '|'; i++) {
                tape.pass('|');
                skips = law.addSkip(Law.SKIP_IF, skips);
                readPart(open);
            }
            law.endSkipsHere(skips);
        }

        private void readPart(int open) {
            int skips = NONE;
            readPiece(open);
            for (int i = 0; i < Law.MOST_TEXT && tape.sign() == '&'; i++) {
                tape.pass('&');
                skips = law.addSkip(Law.SKIP_UNLESS, skips);
                readPiece(open);
            }
            law.endSkipsHere(skips);
        }

        private void readPiece(int open) {
            int sign = tape.sign();
            if (sign == '!' || sign == '(') {
                readInside(sign, open);
                return;
            }
            readSum(open);
            int compared = tape.sign();
            if (compared != '<' && compared != '>' && compared != '=') {
                tape.fail(Tape.CANNOT_STAND, tape.place());
                return;
            }
            tape.pass(compared);
            readSum(open);
            law.add(compared, 0);
        }

        private void readInside(int sign, int open) {
            if (open >= DEEPEST) {
                tape.fail(Tape.TOO_DEEP, tape.place());
                return;
            }
            tape.pass(sign);
            if (sign == '!') {
                readPiece(open + 1);
                law.add(Law.NOT, 0);
            } else {
                readChoice(open + 1);
                tape.pass(')');
            }
        }

        private void readSum(int open) {
            readTerm(open);
            int sign = tape.sign();
            for (int i = 0; i < Law.MOST_TEXT && (sign == '+' || sign == '-'); i++) {
                tape.pass(sign);
                readTerm(open);
                law.add(sign, 0);
                sign = tape.sign();
            }
        }

        private void readTerm(int open) {
            readFactor(open);
            int sign = tape.sign();
            for (int i = 0; i < Law.MOST_TEXT && (sign == '*' || sign == '/' || sign == '%'); i++) {
                tape.pass(sign);
                readFactor(open);
                law.add(sign, 0);
                sign = tape.sign();
            }
        }

        private void readFactor(int open) {
            int sign = tape.sign();
            int letter = sign == Tape.END ? NONE : Law.LETTERS.indexOf((char) sign);
            if (letter >= 0) {
                tape.pass(sign);
                law.addLetter(letter);
            } else if (sign != '[') {
                law.add(Law.NUMBER, tape.number(MOST_DIGITS));
            } else if (open >= DEEPEST) {
                tape.fail(Tape.TOO_DEEP, tape.place());
            } else {
                tape.pass('[');
                readSum(open + 1);
                tape.pass(']');
            }
        }
    }

    /** Pulls by pressures, so many times each. */
    private static final class Program {
        static final int MOST_TEXT = 60;
        private static final int MOST_PARTS = 8;

        private final int[] pressures = new int[MOST_PARTS];
        private final int[] times = new int[MOST_PARTS];
        private int parts;
        private int pulls;

        int pulls() {
            return pulls;
        }

        void copy(Program other) {
            for (int i = 0; i < MOST_PARTS; i++) {
                pressures[i] = other.pressures[i];
                times[i] = other.times[i];
            }
            parts = other.parts;
            pulls = other.pulls;
        }

        void read(Tape tape) {
            parts = 0;
            pulls = 0;
            for (int i = 0; i <= MOST_PARTS && tape.sound(); i++) {
                readPart(tape, i);
                if (tape.atEnd()) {
                    return;
                }
                tape.pass(';');
            }
        }

        private void readPart(Tape tape, int i) {
            int first = tape.place();
            if (tape.onDigit() && i >= MOST_PARTS) {
                tape.fail(Tape.PART_TOO_MANY, first);
            }
            int pressure = tape.number(2);
            int often = 1;
            if (tape.sign() == '*') {
                tape.pass('*');
                first = tape.place();
                often = tape.number(4);
            }
            if (often == 0 || pulls + often > MOST_PULLS) {
                tape.fail(Tape.NO_SUCH_TIMES, first);
            }
            put(pressures, i, pressure);
            put(times, i, often);
            parts = i + 1;
            pulls += often;
        }

        /** The pressure of each pull, as far as it goes; behind the program that of the flights. */
        void layOut(int[] row, int pressure, int total) {
            int filled = 0;
            for (int i = 0; i < parts && i < MOST_PARTS; i++) {
                for (int j = 0; j < times[i] && filled < row.length; j++) {
                    row[filled] = pressures[i];
                    filled++;
                }
            }
            while (filled < total && filled < row.length) {
                row[filled] = pressure;
                filled++;
            }
        }
    }

    /** The corners with their lives, and the law that they are under. */
    private static final class Corners {
        static final int MOST = 8;
        static final int MOST_LIVES = 4;

        private final int[] kinds = new int[MOST];
        private final int[] radii = new int[MOST];
        private final int[] thicks = new int[MOST];
        private final int[] reaches = new int[MOST];
        private final int[] livesOf = new int[MOST];
        private final int[] lives = new int[MOST * MOST_LIVES];
        private final int[] weights = new int[MOST * MOST_LIVES];
        private int size;
        private int stamp;
        private Law law = new Law();
        private Law spareLaw = new Law();

        int size() {
            return size;
        }

        boolean has(int c) {
            return c >= 0 && c < size;
        }

        boolean hasLife(int c, int i) {
            return has(c) && i >= 0 && i < at(livesOf, c);
        }

        int every() {
            return (1 << size) - 1;
        }

        boolean hasPiece(int piece) {
            return piece > 0 && piece <= every();
        }

        /** What was reckoned under an earlier stamp holds no more. */
        void changed() {
            stamp++;
        }

        int stamp() {
            return stamp;
        }

        Law lawNow() {
            return law;
        }

        Law spareLaw() {
            return spareLaw;
        }

        void takeSpareLaw() {
            Law before = law;
            law = spareLaw;
            spareLaw = before;
            changed();
        }

        int add(int kind, int radius, int thick, int reach) {
            put(kinds, size, kind);
            put(radii, size, radius);
            put(thicks, size, thick);
            put(reaches, size, reach);
            size++;
            changed();
            return size - 1;
        }

        int addLife(int c, int life, int weight) {
            int i = livesOf(c);
            put(lives, c * MOST_LIVES + i, life);
            put(weights, c * MOST_LIVES + i, weight);
            put(livesOf, c, i + 1);
            changed();
            return i;
        }

        int livesOf(int c) {
            return at(livesOf, c);
        }

        /** 0 where there is none. */
        int lifeOf(int c, int i) {
            return hasLife(c, i) ? at(lives, c * MOST_LIVES + i) : 0;
        }

        int weightOf(int c, int i) {
            return at(weights, c * MOST_LIVES + i);
        }

        int reachOf(int c) {
            return at(reaches, c);
        }

        void tellLaw(int c) {
            law.setCorner(at(radii, c), at(thicks, c), at(kinds, c), c);
        }

        boolean fits(int digits) {
            if (digits < 0 || digits >> 2 * MOST != 0) {
                return false;
            }
            for (int c = 0; c < MOST; c++) {
                int digit = digits >> 2 * c & 3;
                if (digit > 0 && digit >= livesOf[c]) {
                    return false;
                }
            }
            return true;
        }
    }

    /** What the pulls have done to one corner with one life. */
    private static final class Strain {
        private static final int MOST_WEAR = 1000000;

        private final Corners corners;
        private int corner;
        private int life;
        private int wear;
        private int crack;
        private int most;
        private int pulls;
        private int crackedBy;
        private int ranBy;
        private boolean known;
        private int knownPressure;
        private int knownWear;
        private int knownCrack;
        private int knownMost;
        private int pulled;
        private int more;

        Strain(Corners corners) {
            this.corners = corners;
        }

        /** With a life of 0 nothing happens to it. */
        void begin(int c, int itsLife) {
            corner = c;
            life = itsLife;
            wear = 0;
            crack = 0;
            most = 0;
            pulls = 0;
            crackedBy = 0;
            ranBy = 0;
            known = false;
        }

        /** The law may have changed. */
        void forget() {
            known = false;
        }

        int wear() {
            return wear;
        }

        int crack() {
            return crack;
        }

        int most() {
            return most;
        }

        int crackedBy() {
            return crackedBy;
        }

        int ranBy() {
            return ranBy;
        }

        int pulled() {
            return pulled;
        }

        int more() {
            return more;
        }

        void pullBy(int pressure) {
            if (life == 0 || ranBy > 0) {
                return;
            }
            if (!isLikeBefore(pressure)) {
                reckon(pressure);
            }
            pulls++;
            most = Math.max(most, pulled);
            if (crack > 0) {
                crack += more;
            } else {
                wear = Math.min(MOST_WEAR, wear + more);
                if (wear >= life) {
                    crack = 1;
                    crackedBy = pulls;
                }
            }
            if (crack > 0 && crack >= corners.reachOf(corner)) {
                ranBy = pulls;
            }
        }

        /** Pulls come by thousands and most are like the one before: then the law needn't be asked again. */
        private boolean isLikeBefore(int pressure) {
            Law law = corners.lawNow();
            return known && pressure == knownPressure
                && crack > 0 == knownCrack > 0
                && !law.uses(Law.NUMBER_OF_PULLS)
                && (most == knownMost || !law.uses(Law.MOST_BEFORE))
                && (crack == knownCrack || !law.uses(Law.LENGTH))
                && (wear == knownWear || !law.uses(Law.WEAR));
        }

        void reckon(int pressure) {
            Law law = corners.lawNow();
            corners.tellLaw(corner);
            law.setState(pressure, pulls, most, crack, wear);
            pulled = law.amount('q', Law.MOST_PULLED);
            law.setPulled(pulled);
            more = crack > 0 ? law.amount('g', Law.MOST_GROWN) : law.amount('d', Law.MOST_WORN);
            known = true;
            knownPressure = pressure;
            knownWear = wear;
            knownCrack = crack;
            knownMost = most;
        }
    }

    /** The hulls that are told. */
    private static final class Hulls {
        static final int MOST = 10;

        private final Corners corners;
        private final Strain[] strains = new Strain[MOST * Corners.MOST];
        private final int[] pulls = new int[MOST];
        private final int[] lostBy = new int[MOST];
        private int size;

        Hulls(Corners corners) {
            this.corners = corners;
            for (int i = 0; i < strains.length; i++) {
                strains[i] = new Strain(corners);
            }
        }

        int size() {
            return size;
        }

        boolean has(int h) {
            return h >= 0 && h < size;
        }

        int add(int digits) {
            for (int c = 0; c < corners.size(); c++) {
                Strain strain = strainOf(size, c);
                if (strain != null) {
                    strain.begin(c, corners.lifeOf(c, digits >> 2 * c & 3));
                }
            }
            put(pulls, size, 0);
            put(lostBy, size, NONE);
            size++;
            return size - 1;
        }

        int pulls(int h) {
            return at(pulls, h);
        }

        int lostBy(int h) {
            return at(lostBy, h);
        }

        int stateOf(int h, int c, int what) {
            Strain strain = strainOf(h, c);
            if (strain == null) {
                return NONE;
            }
            return what == 0 ? strain.wear() : what == 1 ? strain.crack() : strain.most();
        }

        int goOn(int h, int pressure, int times) {
            for (int c = 0; c < corners.size(); c++) {
                Strain strain = strainOf(h, c);
                if (strain != null) {
                    strain.forget();
                }
            }
            int had = 0;
            for (int i = 0; i < times && lostBy(h) == NONE; i++) {
                put(lostBy, h, pullAll(h, pressure));
                had++;
            }
            put(pulls, h, pulls(h) + had);
            return had;
        }

        /** The corner by which the hull is lost. All are pulled, also those behind it. */
        private int pullAll(int h, int pressure) {
            int lost = NONE;
            for (int c = 0; c < corners.size(); c++) {
                Strain strain = strainOf(h, c);
                if (strain != null) {
                    strain.pullBy(pressure);
                    lost = lost == NONE && strain.ranBy() > 0 ? c : lost;
                }
            }
            return lost;
        }

        int firstWrong(int h, int threes, Tape tape) {
            for (int c = 0; c < threes; c++) {
                if (c >= corners.size() || tape.word(3 * c) != c) {
                    return 3 * c;
                }
                if (tape.word(3 * c + 1) != stateOf(h, c, 0)) {
                    return 3 * c + 1;
                }
                if (tape.word(3 * c + 2) != stateOf(h, c, 1)) {
                    return 3 * c + 2;
                }
            }
            return threes < corners.size() ? 3 * threes : NONE;
        }

        private Strain strainOf(int h, int c) {
            int i = h * Corners.MOST + c;
            return i >= 0 && i < strains.length ? strains[i] : null;
        }
    }

    /** By which pull each corner runs with each of its lives, and the weights of all ways. */
    private static final class Odds {
        private final Corners corners;
        private final Strain strain;
        private final int[] row = new int[MOST_PULLS];
        private final int[] ran = new int[Corners.MOST * Corners.MOST_LIVES];
        private final int[] stampOf = new int[Corners.MOST];
        private final int[] textOf = new int[Corners.MOST];
        private final int[] pressureOf = new int[Corners.MOST];
        private final int[] totalOf = new int[Corners.MOST];

        Odds(Corners corners) {
            this.corners = corners;
            this.strain = new Strain(corners);
        }

        int crackedBy(int c, int i, Program program) {
            program.layOut(row, 0, 0);
            follow(c, i, program.pulls());
            return strain.crackedBy();
        }

        int ranBy(int c, int i, Program program) {
            program.layOut(row, 0, 0);
            follow(c, i, program.pulls());
            return strain.ranBy();
        }

        private void follow(int c, int i, int total) {
            strain.begin(c, corners.lifeOf(c, i));
            for (int n = 0; n < total && n < row.length && strain.ranBy() == 0; n++) {
                strain.pullBy(row[n]);
            }
        }

        /** Reckons when the corners of a piece run; text is the number of the program, under which it is kept. */
        void prepare(int piece, int text, Program program, int pressure, int total) {
            if (program == null) {
                return;
            }
            boolean laid = false;
            for (int c = 0; c < corners.size(); c++) {
                if (isIn(piece, c) && !isKnown(c, text, pressure, total)) {
                    if (!laid) {
                        program.layOut(row, pressure, total);
                        laid = true;
                    }
                    for (int i = 0; i < corners.livesOf(c); i++) {
                        follow(c, i, total);
                        put(ran, c * Corners.MOST_LIVES + i, strain.ranBy());
                    }
                    put(stampOf, c, corners.stamp());
                    put(textOf, c, text);
                    put(pressureOf, c, pressure);
                    put(totalOf, c, total);
                }
            }
        }

        private boolean isKnown(int c, int text, int pressure, int total) {
            return at(stampOf, c) == corners.stamp() && at(textOf, c) == text
                && at(pressureOf, c) == pressure && at(totalOf, c) >= total;
        }

        private static boolean isIn(int piece, int c) {
            return (piece >> c & 1) == 1;
        }

        long ways(int piece) {
            long product = 1;
            for (int c = 0; c < corners.size(); c++) {
                if (isIn(piece, c)) {
                    product *= weightPast(c, 0);
                }
            }
            return product;
        }

        /** All the weight of a corner whose life lets it run behind this pull or never; 1 if it has no lives. */
        private long weightPast(int c, int pull) {
            int lives = corners.livesOf(c);
            long sum = lives == 0 ? 1 : 0;
            for (int i = 0; i < lives; i++) {
                int by = at(ran, c * Corners.MOST_LIVES + i);
                if (pull == 0 || by == 0 || by > pull) {
                    sum += corners.weightOf(c, i);
                }
            }
            return sum;
        }

        long lost(int piece, int pull) {
            long past = 1;
            for (int c = 0; c < corners.size(); c++) {
                if (isIn(piece, c)) {
                    past *= weightPast(c, pull);
                }
            }
            return ways(piece) - past;
        }

        long first(int c, int total) {
            long sum = 0;
            for (int i = 0; i < corners.livesOf(c); i++) {
                int by = at(ran, c * Corners.MOST_LIVES + i);
                if (by > 0 && by <= total) {
                    long product = corners.weightOf(c, i);
                    for (int other = 0; other < corners.size(); other++) {
                        // By one and the same pull the lowest is first.
                        product *= other == c ? 1 : weightPast(other, other < c ? by : by - 1);
                    }
                    sum += product;
                }
            }
            return sum;
        }

        /** Odds to be lost change only where some corner runs, so these pulls alone are looked at. */
        int flightsTill(int piece, int pulls, int thousandths) {
            long gone = lost(piece, pulls);
            long left = ways(piece) - gone;
            if (left == 0) {
                return NO_ANSWER;
            }
            int best = NO_ANSWER;
            for (int c = 0; c < corners.size(); c++) {
                for (int i = 0; i < corners.livesOf(c) && isIn(piece, c); i++) {
                    int by = at(ran, c * Corners.MOST_LIVES + i);
                    boolean sooner = by > pulls && (best < 0 || by - pulls < best);
                    if (sooner && (lost(piece, by) - gone) * 1000 >= thousandths * left) {
                        best = by - pulls;
                    }
                }
            }
            return best;
        }

        int cheapestFlights(int pulls, int greatest, int lostCost, int idleCost) {
            int every = corners.every();
            long gone = lost(every, pulls);
            long left = ways(every) - gone;
            if (left == 0) {
                return NO_ANSWER;
            }
            int best = 0;
            long least = idleCost * left * greatest;
            for (int n = 1; n <= greatest; n++) {
                long cost = lostCost * (lost(every, pulls + n) - gone) + idleCost * left * (greatest - n);
                if (cost < least) {
                    least = cost;
                    best = n;
                }
            }
            return best;
        }
    }

    /** The trials, each with the program that it was made with. */
    private static final class Trials {
        static final int MOST = 8;

        private final int[] pieces = new int[MOST];
        private final int[] pressures = new int[MOST];
        private final int[] pulls = new int[MOST];
        private final int[] costs = new int[MOST];
        private final Program[] programs = new Program[MOST];
        private int size;

        Trials() {
            for (int i = 0; i < programs.length; i++) {
                programs[i] = new Program();
            }
        }

        int size() {
            return size;
        }

        boolean has(int i) {
            return i >= 0 && i < size;
        }

        int add(int piece, Program program, int pressure, int n, int cost) {
            Program kept = program(size);
            if (kept == null || program == null) {
                return NONE;
            }
            kept.copy(program);
            put(pieces, size, piece);
            put(pressures, size, pressure);
            put(pulls, size, program.pulls() + n);
            put(costs, size, cost);
            size++;
            return size - 1;
        }

        int piece(int i) {
            return at(pieces, i);
        }

        int pressure(int i) {
            return at(pressures, i);
        }

        /** Those of the program and the flights behind it. */
        int pulls(int i) {
            return at(pulls, i);
        }

        int cost(int i) {
            return at(costs, i);
        }

        Program program(int i) {
            return i >= 0 && i < programs.length ? programs[i] : null;
        }
    }

    /** The stories, what was found, and the nets that follow from both. */
    private static final class Stories {
        static final int MOST = 6;
        static final int MOST_FINDS = 10;
        static final int CELLS = 40;
        static final int MOST_NETS = 4;

        private final int[] priors = new int[MOST];
        private final int[] tens = new int[MOST_FINDS * MOST];
        private final int[] knowns = new int[MOST_FINDS];
        private final int[] weights = new int[MOST * CELLS];
        private final long[] worthAhead = new long[CELLS + 1];
        private final long[] best = new long[(MOST_NETS + 1) * (CELLS + 1)];
        private final int[] firsts = new int[MOST_NETS];
        private int size;
        private int finds;

        Stories() {
            for (int i = 0; i < tens.length; i++) {
                tens[i] = 5;
            }
            for (int f = 0; f < knowns.length; f++) {
                knowns[f] = NONE;
            }
        }

        int size() {
            return size;
        }

        int finds() {
            return finds;
        }

        boolean has(int s) {
            return s >= 0 && s < size;
        }

        boolean hasFind(int f) {
            return f >= 0 && f < finds;
        }

        int add(int prior) {
            put(priors, size, prior);
            size++;
            return size - 1;
        }

        int addFind() {
            finds++;
            return finds - 1;
        }

        void foretell(int f, int s, int ten) {
            put(tens, f * MOST + s, ten);
        }

        void know(int f, int is) {
            put(knowns, f, is);
        }

        void weigh(int s, int cell, int weight) {
            put(weights, s * CELLS + cell, weight);
        }

        long oddsOf(int s) {
            long product = at(priors, s);
            for (int f = 0; f < finds; f++) {
                int known = at(knowns, f);
                int ten = at(tens, f * MOST + s);
                product *= known == NONE ? 1 : known == 1 ? ten : 10 - ten;
            }
            return product;
        }

        long together() {
            long sum = 0;
            for (int s = 0; s < size; s++) {
                sum += oddsOf(s);
            }
            return sum;
        }

        int mostMoving() {
            int moving = NONE;
            long most = -1;
            for (int f = 0; f < finds && size > 0; f++) {
                long both = at(knowns, f) == NONE ? greatestOfBoth(f) : -1;
                if (both > most) {
                    most = both;
                    moving = f;
                }
            }
            return moving;
        }

        private long greatestOfBoth(int f) {
            long ifSeen = 0;
            long ifNot = 0;
            for (int s = 0; s < size; s++) {
                long odds = oddsOf(s);
                int ten = at(tens, f * MOST + s);
                ifSeen = Math.max(ifSeen, odds * ten);
                ifNot = Math.max(ifNot, odds * (10 - ten));
            }
            return ifSeen + ifNot;
        }

        /** The worth of the nets; where they lie is told by net. */
        long castNets(int k, int w) {
            sumWorths();
            for (int here = CELLS; here >= 0; here--) {
                setBest(0, here, 0);
                for (int nets = 1; nets <= k; nets++) {
                    long later = here < CELLS ? bestOf(nets, here + 1) : NONE;
                    setBest(nets, here, Math.max(later, worthFrom(nets, here, w)));
                }
            }
            int from = 0;
            for (int i = 0; i < k; i++) {
                int first = from;
                // Of like ones the least row: the lowest cell from which as much can be had.
                while (first < CELLS && worthFrom(k - i, first, w) != bestOf(k - i, from)) {
                    first++;
                }
                put(firsts, i, first);
                from = first + w;
            }
            return bestOf(k, 0);
        }

        int net(int i) {
            return at(firsts, i);
        }

        private void sumWorths() {
            for (int cell = 0; cell < CELLS; cell++) {
                putLong(worthAhead, cell + 1, longAt(worthAhead, cell) + worthOf(cell));
            }
        }

        private long worthOf(int cell) {
            long sum = 0;
            for (int s = 0; s < size; s++) {
                int weight = at(weights, s * CELLS + cell);
                sum += weight == 0 ? 0 : weight * oddsOf(s);
            }
            return sum;
        }

        /** With the first of so many nets from this cell on; NONE if they have no room. */
        private long worthFrom(int nets, int cell, int w) {
            if (cell + w > CELLS || bestOf(nets - 1, cell + w) < 0) {
                return NONE;
            }
            return longAt(worthAhead, cell + w) - longAt(worthAhead, cell) + bestOf(nets - 1, cell + w);
        }

        private long bestOf(int nets, int from) {
            return longAt(best, nets * (CELLS + 1) + from);
        }

        private void setBest(int nets, int from, long worth) {
            putLong(best, nets * (CELLS + 1) + from, worth);
        }
    }

    /** The pieces on the sea's bed, and the wind that drove them. */
    private static final class Bed {
        static final int MOST = 10;
        private static final int LAST_SECOND = 9999;
        private static final int FIRST_AHEAD = 0;
        private static final int SECOND_AHEAD = 1;
        private static final int AT_ONCE = 2;
        private static final int NOT_SURE = 3;
        private static final int NO_WIND = 4;

        private final int[] places = new int[MOST];
        private final int[] falls = new int[MOST];
        private int size;
        private int speed = 1;
        private int least;
        private int greatest;

        int size() {
            return size;
        }

        boolean has(int i) {
            return i >= 0 && i < size;
        }

        int add(int place, int fall) {
            put(places, size, place);
            put(falls, size, fall);
            size++;
            return size - 1;
        }

        void blow(int newSpeed, int newLeast, int newGreatest) {
            speed = newSpeed;
            least = newLeast;
            greatest = newGreatest;
        }

        /** The second at which a piece came off by this wind; NONE if it doesn't fit. */
        private int secondBy(int i, int wind) {
            int flown = at(places, i) - wind * at(falls, i);
            if (flown < 0 || speed < 1 || flown % speed != 0 || flown / speed > LAST_SECOND) {
                return NONE;
            }
            return flown / speed;
        }

        int earliest(int i) {
            int earliest = NO_ANSWER;
            for (int wind = least; wind <= greatest; wind++) {
                int second = secondBy(i, wind);
                if (second >= 0 && (earliest < 0 || second < earliest)) {
                    earliest = second;
                }
            }
            return earliest;
        }

        int latest(int i) {
            int latest = NO_ANSWER;
            for (int wind = least; wind <= greatest; wind++) {
                int second = secondBy(i, wind);
                if (second >= 0 && second > latest) {
                    latest = second;
                }
            }
            return latest;
        }

        int compare(int x, int y) {
            int answer = NO_WIND;
            for (int wind = least; wind <= greatest; wind++) {
                int one = secondBy(x, wind);
                int other = secondBy(y, wind);
                if (one >= 0 && other >= 0) {
                    int now = one < other ? FIRST_AHEAD : one > other ? SECOND_AHEAD : AT_ONCE;
                    answer = answer == NO_WIND || answer == now ? now : NOT_SURE;
                }
            }
            return answer;
        }
    }
}
