import java.util.Arrays;

/** A bench of tables of chances of two who are asked apart. See README.md; the document numbers the promises. */
public final class FarPairs {
    public static final long BAD = -9000000000000000001L, NO = -9000000000000000002L, FULL = -9000000000000000003L, LARGE = -9000000000000000004L, NONE = -9000000000000000005L;

    private static final int TABLES = 8;
    private static final int ROWS = 9;
    private static final int CELLS = ROWS * ROWS;
    private static final int MOST_QUESTIONS = 3;
    private static final int MOST_WHOLE = 1000000;
    private static final int MOST_WEIGHT = 1000;
    private static final int MOST_TWICE_WEIGHT = 100;
    private static final int MOST_SHARE = 1000000;
    private static final int SHARES = 30;
    private static final int KEPT = 6;
    private static final int SURE_CORNERS = 16;
    private static final int CORNERS = 24;
    private static final int CORNER_LAWS = 8;
    private static final int BLEND_BASE = 1001;
    private static final int MOST_BLEND = BLEND_BASE * 1000 + 1000;
    // Euclid's steps on two longs stay under a hundred.
    private static final int DIVISOR_STEPS = 200;

    private final Table[] tables;
    private final History history;
    private final Law lawInHand;
    private final Shares shares;
    private final Draft draft;
    private final DoublePlay doublePlay;

    public FarPairs() {
        tables = new Table[TABLES];
        for (int t = 0; t < TABLES; t++) {
            tables[t] = new Table();
        }
        history = new History();
        lawInHand = new Law();
        shares = new Shares();
        draft = new Draft();
        doublePlay = new DoublePlay();
    }

    // ---- tables

    public long shape(int t, int q, int a, int whole) {
        if (!isTable(t) || !isShape(q, a) || whole < 1 || whole > MOST_WHOLE) {
            return BAD;
        }
        changing(t).restart(q, a, whole);
        return q * q * a * a;
    }

    public long lose(int t) {
        if (!isTable(t)) {
            return BAD;
        }
        if (tables[t].isMissing()) {
            return NO;
        }
        changing(t).restart(0, 0, 0);
        return 0;
    }

    public long cell(int t, int questions, int answers, int v) {
        if (!isTable(t)) {
            return BAD;
        }
        Table table = tables[t];
        if (table.isMissing()) {
            return NO;
        }
        if (!table.hasRows(questions, answers) || v < 0 || v > table.whole) {
            return BAD;
        }
        int place = ROWS * questions + answers;
        int was = table.cells[place];
        changing(t).cells[place] = v;
        return was;
    }

    public long sure(int t, int q, int a, int n) {
        if (!isTable(t) || !isShape(q, a) || n < 0 || n >= sureTables(q, a)) {
            return BAD;
        }
        draft.start(q, a);
        draft.addSure(n, 1);
        draft.putInto(changing(t));
        return 0;
    }

    public long corner(int t, int k) {
        if (!isTable(t) || k < 0 || k >= CORNERS) {
            return BAD;
        }
        draft.startCorner(k);
        draft.putInto(changing(t));
        return 0;
    }

    public long about(int t, int what) {
        if (!isTable(t) || what < 0 || what > 3) {
            return BAD;
        }
        Table table = tables[t];
        if (table.isMissing()) {
            return NO;
        }
        switch (what) {
            case 0:
                return table.questions;
            case 1:
                return table.answers;
            case 2:
                return table.whole;
            default:
                return countNotZero(table.cells);
        }
    }

    public long chance(int t, int questions, int answers) {
        if (!isTable(t)) {
            return BAD;
        }
        Table table = tables[t];
        if (table.isMissing()) {
            return NO;
        }
        if (!table.hasRows(questions, answers)) {
            return BAD;
        }
        return table.cells[ROWS * questions + answers];
    }

    public long swap(int t, int personAndQuestion, int a, int b) {
        if (!isTable(t)) {
            return BAD;
        }
        Table table = tables[t];
        if (table.isMissing()) {
            return NO;
        }
        if (personAndQuestion < 0 || personAndQuestion >= 2 * MOST_QUESTIONS) {
            return BAD;
        }
        int question = personAndQuestion % MOST_QUESTIONS;
        if (question >= table.questions || !table.isAnswer(a) || !table.isAnswer(b)) {
            return BAD;
        }
        changing(t).exchangeAnswers(personAndQuestion / MOST_QUESTIONS, question, a, b);
        return 0;
    }

    public long turn(int t, int how) {
        if (!isTable(t)) {
            return BAD;
        }
        if (tables[t].isMissing()) {
            return NO;
        }
        if (how < 0 || how > 2) {
            return BAD;
        }
        Table table = changing(t);
        if (how == 0) {
            table.exchangePeople();
        } else {
            table.reverseQuestions(how - 1);
        }
        return 0;
    }

    public long same(int t, int s) {
        if (!isTable(t) || !isTable(s)) {
            return BAD;
        }
        if (tables[t].isMissing() || tables[s].isMissing()) {
            return NO;
        }
        return tables[t].hasChancesOf(tables[s]) ? 1 : 0;
    }

    // ---- kinds

    public long isOf(int t, int kind) {
        if (!isTable(t) || kind < 0 || kind > 4) {
            return BAD;
        }
        Table table = tables[t];
        if (table.isMissing()) {
            return NO;
        }
        switch (kind) {
            case 0:
                return 1;
            case 1:
                return table.isProper() ? 1 : 0;
            case 2:
                return table.isSilent() ? 1 : 0;
            case 3:
                return localAnswer(table);
            default:
                return table.sureNumber() >= 0 ? 1 : 0;
        }
    }

    public long who(int t) {
        if (!isTable(t)) {
            return BAD;
        }
        Table table = tables[t];
        if (table.isMissing() || !table.isProper()) {
            return NO;
        }
        int shows = table.firstThatShows();
        return shows < 0 ? NONE : shows;
    }

    public long number(int t) {
        if (!isTable(t)) {
            return BAD;
        }
        Table table = tables[t];
        if (table.isMissing()) {
            return NO;
        }
        int n = table.sureNumber();
        return n < 0 ? NONE : n;
    }

    public long law(int t, int k) {
        if (!isTable(t) || k < 0 || k >= CORNER_LAWS) {
            return BAD;
        }
        Table table = tables[t];
        if (!table.isTwoByTwo() || !table.isProper()) {
            return NO;
        }
        return table.cornerLaw(k);
    }

    public long broken(int t) {
        if (!isTable(t)) {
            return BAD;
        }
        Table table = tables[t];
        if (!table.isTwoByTwo() || !table.isSilent()) {
            return NO;
        }
        int k = table.greatestCornerLaw();
        return table.cornerLaw(k) > 2L * table.whole ? k : NONE;
    }

    public long near(int t, int what, int part) {
        if (!isTable(t) || what < 0 || what > 1 || !isPart(part)) {
            return BAD;
        }
        Table table = tables[t];
        if (!table.isTwoByTwo() || !table.isSilent()) {
            return NO;
        }
        long greatest = table.cornerLaw(table.greatestCornerLaw());
        long twoWholes = 2L * table.whole;
        if (greatest <= twoWholes) {
            return fraction(1 - what, 1, part);
        }
        if (what == 0) {
            return fraction(2 * twoWholes - greatest, twoWholes, part);
        }
        return fraction(greatest - twoWholes, greatest, part);
    }

    // ---- laws, games

    public long begin(int q, int a) {
        if (!isShape(q, a)) {
            return BAD;
        }
        lawInHand.restart(q, a);
        shares.drop();
        return 0;
    }

    public long weigh(int questions, int answers, int v) {
        if (!lawInHand.hasRows(questions, answers) || v < -MOST_WEIGHT || v > MOST_WEIGHT) {
            return BAD;
        }
        int place = ROWS * questions + answers;
        int was = lawInHand.weights[place];
        lawInHand.weights[place] = v;
        return was;
    }

    public long take(int k) {
        if (k < 0 || k >= CORNER_LAWS) {
            return BAD;
        }
        lawInHand.becomeCornerLaw(k);
        shares.drop();
        return 0;
    }

    public long value(int t, int part) {
        if (!isTable(t) || !isPart(part)) {
            return BAD;
        }
        Table table = tables[t];
        if (!lawInHand.fits(table)) {
            return NO;
        }
        return fraction(lawInHand.sumAt(table), table.whole, part);
    }

    public long bound(int what) {
        if (what < 0 || what > 3) {
            return BAD;
        }
        lawInHand.survey(lawInHand.allQuestions());
        switch (what) {
            case 0:
                return lawInHand.most;
            case 1:
                return lawInHand.mostNumber;
            case 2:
                return lawInHand.mostWays;
            default:
                return lawInHand.least;
        }
    }

    public long breaks(int t) {
        if (!isTable(t)) {
            return BAD;
        }
        Table table = tables[t];
        if (!lawInHand.fits(table)) {
            return NO;
        }
        lawInHand.survey(lawInHand.allQuestions());
        return lawInHand.sumAt(table) > (long) lawInHand.most * table.whole ? 1 : 0;
    }

    public long best(int what) {
        if (what < 0 || what > 3) {
            return BAD;
        }
        if (what == 2) {
            return lawInHand.bestTold();
        }
        if (!lawInHand.isTwoByTwo()) {
            return NO;
        }
        if (what == 3) {
            return lawInHand.allWeightsWithin(0, MOST_TWICE_WEIGHT) ? doublePlay.greatestSum(lawInHand) : NO;
        }
        int k = bestCorner();
        return what == 0 ? twiceAtCorner(k) : k;
    }

    // ---- shares

    public long share(int n, int v) {
        if (n < 0 || n >= lawInHand.sures() || v < 0 || v > MOST_SHARE) {
            return BAD;
        }
        int place = shares.find(n);
        if (place < 0 && v != 0 && shares.size >= SHARES) {
            return FULL;
        }
        int was = place < 0 ? 0 : shares.amounts[place];
        shares.put(place, n, v);
        return was;
    }

    public long mixed(int t) {
        if (!isTable(t)) {
            return BAD;
        }
        if (shares.size == 0) {
            return NO;
        }
        draft.startMix(lawInHand, shares);
        return settle(t);
    }

    public long makes(int t) {
        if (!isTable(t)) {
            return BAD;
        }
        Table table = tables[t];
        if (!lawInHand.fits(table) || shares.size == 0) {
            return NO;
        }
        draft.startMix(lawInHand, shares);
        int other = draft.firstOtherChance(table);
        return other < 0 ? 0 : 1 + other;
    }

    // ---- made of two

    public long wire(int t, int s, int r) {
        if (!isTable(t) || !isTable(s) || !isTable(r)) {
            return BAD;
        }
        if (!areProper(t, s) || tables[t].answers != tables[s].questions) {
            return NO;
        }
        draft.startWired(tables[t], tables[s]);
        return settle(r);
    }

    public long blend(int t, int s, int r, int vAndW) {
        if (!isTable(t) || !isTable(s) || !isTable(r) || vAndW < 1 || vAndW > MOST_BLEND) {
            return BAD;
        }
        if (!areProper(t, s) || !tables[t].hasShapeOf(tables[s])) {
            return NO;
        }
        draft.startBlended(tables[t], tables[s], vAndW / BLEND_BASE, vAndW % BLEND_BASE);
        return settle(r);
    }

    public long parity(int t, int s, int r) {
        if (!isTable(t) || !isTable(s) || !isTable(r)) {
            return BAD;
        }
        if (!areProper(t, s) || !tables[t].hasShapeOf(tables[s]) || tables[t].answers != 2) {
            return NO;
        }
        draft.startParity(tables[t], tables[s]);
        return settle(r);
    }

    public long undo() {
        if (history.size == 0) {
            return NO;
        }
        history.takeBack(tables);
        return history.size;
    }

    public long count(int what) {
        switch (what) {
            case 0:
                return tablesThere();
            case 1:
                return shares.size;
            case 2:
                return shares.together();
            case 3:
                return history.size;
            case 4:
                return countNotZero(lawInHand.weights);
            case 5:
                return lawInHand.sures();
            default:
                return BAD;
        }
    }

    // ---- what the calls share

    /** Only calls that can no longer be refused may ask for a table to change: it is kept for undo here. */
    private Table changing(int t) {
        history.keep(t, tables[t]);
        return tables[t];
    }

    private long settle(int r) {
        draft.reduce();
        if (draft.whole > MOST_WHOLE) {
            return FULL;
        }
        draft.putInto(changing(r));
        return draft.whole;
    }

    private boolean areProper(int t, int s) {
        return !tables[t].isMissing() && !tables[s].isMissing() && tables[t].isProper() && tables[s].isProper();
    }

    private int tablesThere() {
        int there = 0;
        for (int t = 0; t < TABLES; t++) {
            if (!tables[t].isMissing()) {
                there++;
            }
        }
        return there;
    }

    private int bestCorner() {
        int found = 0;
        long most = twiceAtCorner(0);
        for (int k = 1; k < CORNERS; k++) {
            long here = twiceAtCorner(k);
            if (here > most) {
                most = here;
                found = k;
            }
        }
        return found;
    }

    private long twiceAtCorner(int k) {
        draft.startCorner(k);
        // Some corners have halves as chances, the others wholes: twice the value is whole for all.
        return draft.whole == 1 ? 2 * lawInHand.sumOver(draft.cells) : lawInHand.sumOver(draft.cells);
    }

    private static long localAnswer(Table table) {
        if (!table.isSilent()) {
            return 0;
        }
        if (table.questions == 1 || table.sureNumber() >= 0) {
            return 1;
        }
        if (!table.isTwoByTwo()) {
            return LARGE;
        }
        return table.cornerLaw(table.greatestCornerLaw()) <= 2L * table.whole ? 1 : 0;
    }

    private static boolean isTable(int t) {
        return t >= 0 && t < TABLES;
    }

    private static boolean isShape(int q, int a) {
        return q >= 1 && q <= MOST_QUESTIONS && (a == 2 || a == 3);
    }

    private static boolean isPart(int part) {
        return part == 0 || part == 1;
    }

    private static boolean isRow(int row, int limit) {
        return row >= 0 && row < ROWS && row / 3 < limit && row % 3 < limit;
    }

    private static int spot(int x, int y, int a, int b) {
        return 27 * x + 9 * y + 3 * a + b;
    }

    private static int power(int base, int exponent) {
        int result = 1;
        for (int i = 0; i < exponent; i++) {
            result *= base;
        }
        return result;
    }

    private static int sureTables(int q, int a) {
        return power(a, 2 * q);
    }

    /** Digit number place of n; of a base that is none, 0. */
    private static int digit(int n, int base, int place) {
        if (base < 2) {
            return 0;
        }
        int rest = n;
        for (int i = 0; i < place; i++) {
            rest /= base;
        }
        return rest % base;
    }

    private static int countNotZero(int[] numbers) {
        int found = 0;
        for (int i = 0; i < numbers.length; i++) {
            if (numbers[i] != 0) {
                found++;
            }
        }
        return found;
    }

    /** Never below 1, so that it may always divide. */
    private static long commonDivisor(long a, long b) {
        long high = Math.abs(a);
        long low = Math.abs(b);
        for (int i = 0; i < DIVISOR_STEPS && low != 0; i++) {
            long rest = high % low;
            high = low;
            low = rest;
        }
        return Math.max(1, high);
    }

    private static long fraction(long above, long below, int part) {
        long divisor = commonDivisor(above, below);
        return part == 0 ? above / divisor : below / divisor;
    }

    /** Cells outside the shape are always 0, so that sums may run over all of them. */
    private static final class Table {
        // 0 questions: the table is MISSING.
        int questions;
        int answers;
        int whole;
        final int[] cells = new int[CELLS];

        boolean isMissing() {
            return questions == 0;
        }

        boolean isTwoByTwo() {
            return questions == 2 && answers == 2;
        }

        boolean isAnswer(int a) {
            return a >= 0 && a < answers;
        }

        boolean hasRows(int rowOfQuestions, int rowOfAnswers) {
            return isRow(rowOfQuestions, questions) && isRow(rowOfAnswers, answers);
        }

        boolean hasShapeOf(Table other) {
            return questions == other.questions && answers == other.answers;
        }

        void restart(int q, int a, int newWhole) {
            questions = q;
            answers = a;
            whole = newWhole;
            Arrays.fill(cells, 0);
        }

        void copyFrom(Table other) {
            questions = other.questions;
            answers = other.answers;
            whole = other.whole;
            System.arraycopy(other.cells, 0, cells, 0, CELLS);
        }

        boolean hasChancesOf(Table other) {
            if (!hasShapeOf(other)) {
                return false;
            }
            for (int i = 0; i < CELLS; i++) {
                if ((long) cells[i] * other.whole != (long) other.cells[i] * whole) {
                    return false;
                }
            }
            return true;
        }

        void exchange(int one, int other) {
            int kept = cells[one];
            cells[one] = cells[other];
            cells[other] = kept;
        }

        void exchangeAnswers(int person, int own, int a, int b) {
            for (int asked = 0; asked < questions; asked++) {
                for (int answer = 0; answer < answers; answer++) {
                    exchange(spotOf(person, own, asked, a, answer), spotOf(person, own, asked, b, answer));
                }
            }
        }

        void exchangePeople() {
            for (int i = 0; i < CELLS; i++) {
                int mirrored = spot(i / 9 % 3, i / 27, i % 3, i / 3 % 3);
                if (i < mirrored) {
                    exchange(i, mirrored);
                }
            }
        }

        void reverseQuestions(int person) {
            // With three questions the middle one stays, with one nothing moves.
            int last = questions - 1;
            for (int asked = 0; asked < questions; asked++) {
                for (int a = 0; a < answers; a++) {
                    for (int b = 0; b < answers; b++) {
                        if (last > 0) {
                            exchange(spotOf(person, 0, asked, a, b), spotOf(person, last, asked, a, b));
                        }
                    }
                }
            }
        }

        /** The place of a cell as one person sees it: own question and answer, and those of the other one. */
        static int spotOf(int person, int own, int asked, int answer, int otherAnswer) {
            return person == 0 ? 27 * own + 9 * asked + 3 * answer + otherAnswer
                : 27 * asked + 9 * own + 3 * otherAnswer + answer;
        }

        boolean isProper() {
            for (int x = 0; x < questions; x++) {
                for (int y = 0; y < questions; y++) {
                    if (rowSum(x, y) != whole) {
                        return false;
                    }
                }
            }
            return true;
        }

        int rowSum(int x, int y) {
            int start = spot(x, y, 0, 0);
            int sum = 0;
            for (int i = 0; i < ROWS; i++) {
                sum += cells[start + i];
            }
            return sum;
        }

        boolean isSilent() {
            return isProper() && firstThatShows() < 0;
        }

        /** As who() tells it; below 0, if nothing shows. */
        int firstThatShows() {
            for (int person = 0; person < 2; person++) {
                for (int own = 0; own < questions; own++) {
                    for (int answer = 0; answer < answers; answer++) {
                        int asked = firstOtherMargin(person, own, answer);
                        if (asked > 0) {
                            return 27 * person + 9 * own + 3 * answer + asked;
                        }
                    }
                }
            }
            return -1;
        }

        int firstOtherMargin(int person, int own, int answer) {
            int first = margin(person, own, 0, answer);
            for (int asked = 1; asked < questions; asked++) {
                if (margin(person, own, asked, answer) != first) {
                    return asked;
                }
            }
            return 0;
        }

        int margin(int person, int own, int asked, int answer) {
            int sum = 0;
            for (int other = 0; other < answers; other++) {
                sum += cells[spotOf(person, own, asked, answer, other)];
            }
            return sum;
        }

        /** Below 0, if the table is not SURE. */
        int sureNumber() {
            int first = 0;
            int second = 0;
            // The highest question is the highest digit.
            for (int i = questions - 1; i >= 0; i--) {
                int own = sureAnswers(i, 0);
                int other = sureAnswers(0, i);
                if (own < 0 || other < 0) {
                    return -1;
                }
                first = first * answers + own / 3;
                second = second * answers + other % 3;
            }
            return isSure(first, second) ? first * power(answers, questions) + second : -1;
        }

        /** The row of answers that has the WHOLE; below 0, if there is none. */
        int sureAnswers(int x, int y) {
            int start = spot(x, y, 0, 0);
            for (int i = 0; i < ROWS; i++) {
                if (cells[start + i] == whole) {
                    return i;
                }
            }
            return -1;
        }

        boolean isSure(int first, int second) {
            for (int x = 0; x < questions; x++) {
                int a = digit(first, answers, x);
                for (int y = 0; y < questions; y++) {
                    int b = digit(second, answers, y);
                    if (cells[spot(x, y, a, b)] != whole || rowSum(x, y) != whole) {
                        return false;
                    }
                }
            }
            return true;
        }

        long agreement(int x, int y) {
            return (long) cells[spot(x, y, 0, 0)] + cells[spot(x, y, 1, 1)]
                - cells[spot(x, y, 0, 1)] - cells[spot(x, y, 1, 0)];
        }

        /** Only of shape (2, 2). */
        long cornerLaw(int k) {
            int i = k / 2;
            long all = agreement(0, 0) + agreement(0, 1) + agreement(1, 0) + agreement(1, 1);
            long result = all - 2 * agreement(i / 2, i % 2);
            return k % 2 == 0 ? result : -result;
        }

        int greatestCornerLaw() {
            int found = 0;
            for (int k = 1; k < CORNER_LAWS; k++) {
                if (cornerLaw(k) > cornerLaw(found)) {
                    found = k;
                }
            }
            return found;
        }
    }

    /** A table that is being made, with numbers that may still be too large for one. */
    private static final class Draft {
        int questions;
        int answers;
        long whole;
        final long[] cells = new long[CELLS];

        void start(int q, int a) {
            questions = q;
            answers = a;
            whole = 0;
            Arrays.fill(cells, 0L);
        }

        void addSure(int n, int amount) {
            int others = power(answers, questions);
            if (others < 1) {
                return;
            }
            for (int x = 0; x < questions; x++) {
                int a = digit(n / others, answers, x);
                for (int y = 0; y < questions; y++) {
                    cells[spot(x, y, a, digit(n % others, answers, y))] += amount;
                }
            }
            whole += amount;
        }

        void startCorner(int k) {
            start(2, 2);
            if (k < SURE_CORNERS) {
                addSure(k, 1);
                return;
            }
            whole = 2;
            for (int x = 0; x < 2; x++) {
                for (int y = 0; y < 2; y++) {
                    int odd = (x * y + digit(k, 2, 2) * x + digit(k, 2, 1) * y + digit(k, 2, 0)) % 2;
                    cells[spot(x, y, 0, odd)] = 1;
                    cells[spot(x, y, 1, 1 - odd)] = 1;
                }
            }
        }

        void startMix(Law law, Shares shares) {
            start(law.questions, law.answers);
            for (int i = 0; i < shares.size; i++) {
                addSure(shares.numbers[i], shares.amounts[i]);
            }
        }

        /** A row of answers of t has the number of the row of questions of s that it becomes. */
        void startWired(Table t, Table s) {
            start(t.questions, s.answers);
            whole = (long) t.whole * s.whole;
            for (int asked = 0; asked < ROWS; asked++) {
                for (int between = 0; between < ROWS; between++) {
                    long weight = t.cells[ROWS * asked + between];
                    for (int answered = 0; answered < ROWS; answered++) {
                        cells[ROWS * asked + answered] += weight * s.cells[ROWS * between + answered];
                    }
                }
            }
        }

        void startBlended(Table t, Table s, int v, int w) {
            start(t.questions, t.answers);
            whole = (long) (v + w) * t.whole * s.whole;
            for (int i = 0; i < CELLS; i++) {
                cells[i] = (long) v * t.cells[i] * s.whole + (long) w * s.cells[i] * t.whole;
            }
        }

        void startParity(Table t, Table s) {
            start(t.questions, 2);
            whole = (long) t.whole * s.whole;
            for (int asked = 0; asked < ROWS; asked++) {
                for (int pair = 0; pair < 4; pair++) {
                    for (int other = 0; other < 4; other++) {
                        cells[ROWS * asked + rowOfBits(pair ^ other)] +=
                            (long) t.cells[ROWS * asked + rowOfBits(pair)] * s.cells[ROWS * asked + rowOfBits(other)];
                    }
                }
            }
        }

        static int rowOfBits(int pair) {
            return 3 * (pair / 2) + pair % 2;
        }

        void reduce() {
            long divisor = whole;
            for (int i = 0; i < CELLS && divisor != 1; i++) {
                divisor = commonDivisor(divisor, cells[i]);
            }
            if (divisor <= 1) {
                return;
            }
            whole /= divisor;
            for (int i = 0; i < CELLS; i++) {
                cells[i] /= divisor;
            }
        }

        /** Below 0, if the table's chances are those of the draft, which has its shape. */
        int firstOtherChance(Table table) {
            for (int i = 0; i < CELLS; i++) {
                if (cells[i] * table.whole != whole * table.cells[i]) {
                    return i;
                }
            }
            return -1;
        }

        /** Only with a WHOLE that a table may have. */
        void putInto(Table table) {
            table.restart(questions, answers, (int) whole);
            for (int i = 0; i < CELLS; i++) {
                table.cells[i] = (int) cells[i];
            }
        }
    }

    /** The tables as they were ahead of the latest changes, in a ring. */
    private static final class History {
        final Table[] kept = new Table[KEPT];
        final int[] places = new int[KEPT];
        int next;
        int size;

        History() {
            for (int i = 0; i < KEPT; i++) {
                kept[i] = new Table();
            }
        }

        void keep(int t, Table table) {
            kept[next].copyFrom(table);
            places[next] = t;
            next = (next + 1) % KEPT;
            size = Math.min(KEPT, size + 1);
        }

        void takeBack(Table[] tables) {
            next = (next + KEPT - 1) % KEPT;
            tables[places[next]].copyFrom(kept[next]);
            size--;
        }
    }

    private static final class Law {
        int questions = 2;
        int answers = 2;
        final int[] weights = new int[CELLS];
        // What survey() found.
        int most;
        int mostNumber;
        int mostWays;
        int least;
        // What surveyOthers() found for one way to answer of the first one.
        int othersMost;
        int othersNumber;
        int othersWays;
        int othersLeast;
        final int[] firstAnswers = new int[MOST_QUESTIONS];

        void restart(int q, int a) {
            questions = q;
            answers = a;
            Arrays.fill(weights, 0);
        }

        void becomeCornerLaw(int k) {
            restart(2, 2);
            for (int i = 0; i < 4; i++) {
                boolean turned = (i == k / 2) != (k % 2 == 1);
                int sign = turned ? -1 : 1;
                weights[spot(i / 2, i % 2, 0, 0)] = sign;
                weights[spot(i / 2, i % 2, 1, 1)] = sign;
                weights[spot(i / 2, i % 2, 0, 1)] = -sign;
                weights[spot(i / 2, i % 2, 1, 0)] = -sign;
            }
        }

        boolean isTwoByTwo() {
            return questions == 2 && answers == 2;
        }

        boolean hasRows(int rowOfQuestions, int rowOfAnswers) {
            return isRow(rowOfQuestions, questions) && isRow(rowOfAnswers, answers);
        }

        boolean fits(Table table) {
            return table.questions == questions && table.answers == answers;
        }

        int sures() {
            return sureTables(questions, answers);
        }

        int allQuestions() {
            return power(2, questions) - 1;
        }

        boolean allWeightsWithin(int low, int high) {
            for (int i = 0; i < CELLS; i++) {
                if (weights[i] < low || weights[i] > high) {
                    return false;
                }
            }
            return true;
        }

        long sumAt(Table table) {
            long sum = 0;
            for (int i = 0; i < CELLS; i++) {
                sum += (long) weights[i] * table.cells[i];
            }
            return sum;
        }

        long sumOver(long[] cells) {
            long sum = 0;
            for (int i = 0; i < CELLS && i < cells.length; i++) {
                sum += weights[i] * cells[i];
            }
            return sum;
        }

        /** Looks at all SURE tables, where only those questions of the first one count that are bits of asked. */
        void survey(int asked) {
            int firsts = power(answers, questions);
            for (int first = 0; first < firsts; first++) {
                surveyOthers(first, asked);
                if (first == 0 || othersMost > most) {
                    most = othersMost;
                    mostNumber = first * firsts + othersNumber;
                    mostWays = othersWays;
                } else if (othersMost == most) {
                    mostWays += othersWays;
                }
                if (first == 0 || othersLeast < least) {
                    least = othersLeast;
                }
            }
        }

        /** With the first one's answers set, the other one's questions do not touch one another. */
        void surveyOthers(int first, int asked) {
            for (int x = 0; x < questions; x++) {
                firstAnswers[x] = digit(first, answers, x);
            }
            othersMost = 0;
            othersNumber = 0;
            othersWays = 1;
            othersLeast = 0;
            int place = 1;
            for (int y = 0; y < questions; y++) {
                surveyQuestion(y, asked, place);
                place *= answers;
            }
        }

        void surveyQuestion(int y, int asked, int place) {
            int high = sumOfFirst(y, 0, asked);
            int low = high;
            int answer = 0;
            int ways = 1;
            for (int b = 1; b < answers; b++) {
                int sum = sumOfFirst(y, b, asked);
                if (sum > high) {
                    high = sum;
                    answer = b;
                    ways = 1;
                } else if (sum == high) {
                    ways++;
                }
                low = Math.min(low, sum);
            }
            othersMost += high;
            othersNumber += answer * place;
            othersWays *= ways;
            othersLeast += low;
        }

        int sumOfFirst(int y, int b, int asked) {
            int sum = 0;
            for (int x = 0; x < questions; x++) {
                if ((asked >> x & 1) == 1) {
                    sum += weights[spot(x, y, firstAnswers[x], b)];
                }
            }
            return sum;
        }

        /** The bit parts the first one's questions in two, and each part is a game by lots of its own. */
        long bestTold() {
            int all = allQuestions();
            int found = 0;
            // A bit turned about tells the same: so the highest question may always be in the other part.
            for (int part = 0; part <= all / 2; part++) {
                survey(part);
                int sum = most;
                survey(all - part);
                sum += most;
                if (part == 0 || sum > found) {
                    found = sum;
                }
            }
            return found;
        }
    }

    /** SHARES that are not 0, in no order. */
    private static final class Shares {
        final int[] numbers = new int[SHARES];
        final int[] amounts = new int[SHARES];
        int size;

        void drop() {
            size = 0;
        }

        /** Below 0, if the share is 0. */
        int find(int n) {
            for (int i = 0; i < size; i++) {
                if (numbers[i] == n) {
                    return i;
                }
            }
            return -1;
        }

        /** At the place that find() told; where that is below 0, at the end, if there is room. */
        void put(int place, int n, int v) {
            if (place >= 0 && v == 0) {
                size--;
                numbers[place] = numbers[size];
                amounts[place] = amounts[size];
            } else if (place >= 0) {
                amounts[place] = v;
            } else if (v != 0 && size < SHARES) {
                numbers[size] = n;
                amounts[size] = v;
                size++;
            }
        }

        long together() {
            long sum = 0;
            for (int i = 0; i < size; i++) {
                sum += amounts[i];
            }
            return sum;
        }
    }

    /**
     * A game of shape (2, 2) played twice at once. Both questions of one are a number 0 .. 3, as are both answers.
     * The first one's 256 ways to answer are joined of 16 for the lower two numbers asked and 16 for the higher two.
     */
    private static final class DoublePlay {
        static final int WAYS = 16;
        static final int OTHERS = 16;
        // The sums for a half way, by what the other one is asked and answers.
        final int[] lower = new int[WAYS * OTHERS];
        final int[] higher = new int[WAYS * OTHERS];

        long greatestSum(Law law) {
            for (int way = 0; way < WAYS; way++) {
                for (int other = 0; other < OTHERS; other++) {
                    lower[way * OTHERS + other] = halfSum(law, 0, way, other);
                    higher[way * OTHERS + other] = halfSum(law, 2, way, other);
                }
            }
            int found = 0;
            for (int low = 0; low < WAYS; low++) {
                for (int high = 0; high < WAYS; high++) {
                    found = Math.max(found, joinedSum(low * OTHERS, high * OTHERS));
                }
            }
            return found;
        }

        static int halfSum(Law law, int asked, int way, int other) {
            return product(law, asked, way / 4, other) + product(law, asked + 1, way % 4, other);
        }

        static int product(Law law, int asked, int answered, int other) {
            int otherAsked = other / 4;
            int otherAnswered = other % 4;
            return law.weights[spot(asked / 2, otherAsked / 2, answered / 2, otherAnswered / 2)]
                * law.weights[spot(asked % 2, otherAsked % 2, answered % 2, otherAnswered % 2)];
        }

        int joinedSum(int low, int high) {
            int sum = 0;
            for (int otherAsked = 0; otherAsked < OTHERS; otherAsked += 4) {
                int most = 0;
                for (int answered = 0; answered < 4; answered++) {
                    int other = otherAsked + answered;
                    most = Math.max(most, lower[low + other] + higher[high + other]);
                }
                sum += most;
            }
            return sum;
        }
    }
}
