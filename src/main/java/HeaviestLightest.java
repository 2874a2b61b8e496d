/**
 * Stones alike to the eye on a balance: the scales, the book of weighings and what follows from it,
 * plans, nets, likings and bounds, as the document promises them.
 */
public final class HeaviestLightest {
    private static final int NOBODY = -1;
    private static final int OTHER = -2;
    private static final int STATE = -3;
    private static final int BELOW = -4;
    private static final int ROOM = -6;
    private static final int NONE = -9;
    private static final long REFUSED_LONG = 4000000000000000000L;

    private static final int STONES_LEAST = 2;
    private static final int STONES_MOST = 6;
    private static final int ROWS_OF_BITS = 64;
    private static final int WEIGHT_LEAST = 1;
    private static final int WEIGHT_MOST = 99;
    private static final int WEIGHT_FIRST = 10;
    private static final int KINDS = 6;
    private static final int FIGURE_MOST = 9;
    private static final int WEIGHINGS_MOST = 24;
    private static final int COMPARISONS_MOST = 12;
    private static final int LETTERS_MOST = 96;
    private static final int LETTER_GREATEST = 255;
    private static final int ROW_MOST = 12;
    private static final int DIGIT_MOST = 9;
    private static final int TIMES_MOST = 20;
    private static final int WANTED_KINDS = 6;
    private static final int LAWS = 4;

    private static final int HEAVIER = 2;
    private static final int ALIKE = 1;
    private static final int LIGHTER = 0;

    private final Barn now = new Barn();
    private final Barn image = new Barn();
    private boolean imageTaken = false;
    private final Reader reader = new Reader();
    private final Known known = new Known();
    private final Wants wants = new Wants();
    private final Plans plans = new Plans();
    private final Net net = new Net();
    private final Likings likings = new Likings();
    private final Seeds seedings = new Seeds();
    private final int[] numbers = new int[ROW_MOST];
    private int numbersSize = 0;
    private final int[] refusals = new int[7];

    public HeaviestLightest() {
    }

    public int feed(int letter) {
        if (letter < 0) {
            return refuse(BELOW);
        }
        if (letter > LETTER_GREATEST || reader.isFull()) {
            return refuse(ROOM);
        }
        return reader.take(letter);
    }

    public int barn() {
        return reader.read(now);
    }

    public int weight(int stone) {
        if (!now.isStone(stone)) {
            return refuse(NOBODY);
        }
        return now.weights[stone];
    }

    public int set(int stone, int v) {
        int no = now.refusalOfWeight(stone, v);
        return no != 0 ? refuse(no) : now.changeWeight(stone, v);
    }

    public int scale(int kind, int figure) {
        int no = now.refusalOfScale(kind, figure);
        return no != 0 ? refuse(no) : now.changeScale(kind, figure);
    }

    public int would(int a, int b) {
        if (!now.areTwo(a, b)) {
            return refuse(NOBODY);
        }
        return now.answer(a, b, now.weighings);
    }

    public int weigh(int a, int b) {
        int no = now.refusalOfWeighing(a, b);
        if (no != 0) {
            return refuse(no);
        }
        int told = now.answer(a, b, now.weighings);
        now.write(a, b, told);
        return told;
    }

    public int book(int i) {
        if (i < 0 || i >= now.weighings) {
            return refuse(NOBODY);
        }
        return 100 * now.firsts[i] + 10 * now.seconds[i] + now.tolds[i];
    }

    public int strike() {
        if (now.weighings == 0) {
            return refuse(STATE);
        }
        now.weighings--;
        return now.weighings;
    }

    public int above(int stone) {
        if (!now.isStone(stone)) {
            return refuse(NOBODY);
        }
        known.learn(now);
        return known.over[stone];
    }

    public int ringed() {
        known.learn(now);
        return known.ringedStones();
    }

    public int orders(int k) {
        if (k < -1) {
            return refuse(BELOW);
        }
        known.learn(now);
        return k < 0 ? known.allOrders() : known.stoneOfFirst(k);
    }

    public int next(int what) {
        if (what < 0 || what > 1) {
            return refuse(OTHER);
        }
        known.learn(now);
        return known.halving(what == 0);
    }

    public int lies() {
        return known.liesOf(now);
    }

    public int open() {
        known.learn(now);
        return known.openPairs();
    }

    public int tells(int wanted) {
        int no = refusalOfWanted(wanted);
        if (no != 0) {
            return refuse(no);
        }
        return wants.tellsAlready(known, wanted) ? 1 : 0;
    }

    public int worst(int wanted) {
        int no = refusalOfWanted(wanted);
        return no != 0 ? refuse(no) : wants.fewestAtWorst(known, wanted);
    }

    public long mean(int wanted, int part) {
        int no = part < 0 || part > 1 ? OTHER : refusalOfWanted(wanted);
        if (no != 0) {
            return REFUSED_LONG - refuse(no);
        }
        return wants.leastMean(known, wanted, part == 0);
    }

    public int plan(int kind) {
        if (!isKind(kind)) {
            return refuse(OTHER);
        }
        return plans.carryOut(kind, now.weights, now.stones);
    }

    public int found(int kind, int k) {
        if (!isKind(kind)) {
            return refuse(OTHER);
        }
        if (k < 0) {
            return refuse(BELOW);
        }
        plans.carryOut(kind, now.weights, now.stones);
        return plans.stoneAt(k);
    }

    public int compare(int place, int other) {
        int no = now.refusalOfComparison(place, other);
        return no != 0 ? refuse(no) : now.addComparison(place, other);
    }

    public int clear() {
        int had = now.comparisons;
        now.comparisons = 0;
        return had;
    }

    public int sorts() {
        return net.unsortedRows(now) == 0 ? 1 : 0;
    }

    public int gap() {
        return net.unsortedRows(now);
    }

    public int rounds() {
        return net.fewestRounds(now);
    }

    public int through(int place) {
        if (!now.isStone(place)) {
            return refuse(NOBODY);
        }
        return net.stoneBehind(now, place);
    }

    public int idle() {
        return net.idleOnes(now);
    }

    public int mends() {
        return net.mendingOne(now);
    }

    public int like(int a, int b) {
        if (!now.areTwo(a, b)) {
            return refuse(NOBODY);
        }
        return now.turnLiking(a, b);
    }

    public int loops() {
        return likings.ringsOfThree(now);
    }

    public int turns(int k) {
        if (k < -1) {
            return refuse(BELOW);
        }
        likings.reckon(now);
        return k < 0 ? likings.fewestTurned() : likings.stoneOfFirst(k);
    }

    public int law(int n, int what) {
        if (n < 1) {
            return refuse(BELOW);
        }
        if (n > TIMES_MOST) {
            return refuse(ROOM);
        }
        if (what < 0 || what >= LAWS) {
            return refuse(OTHER);
        }
        return Law.bound(n, what);
    }

    public int row(int v) {
        if (v < 0) {
            return refuse(BELOW);
        }
        if (v > DIGIT_MOST || numbersSize >= ROW_MOST) {
            return refuse(ROOM);
        }
        numbers[numbersSize] = v;
        numbersSize++;
        return numbersSize;
    }

    public int judge() {
        int size = numbersSize;
        numbersSize = 0;
        return now.firstWrong(numbers, size);
    }

    public int seeds(int kind, int n, int z) {
        if (!isKind(kind)) {
            return refuse(OTHER);
        }
        if (n < 1) {
            return refuse(BELOW);
        }
        if (n > TIMES_MOST) {
            return refuse(ROOM);
        }
        return seedings.weighingsOf(plans, kind, now.stones, n, z);
    }

    public int image() {
        image.takeFrom(now);
        imageTaken = true;
        return now.weighings;
    }

    public int restore() {
        if (!imageTaken) {
            return refuse(STATE);
        }
        now.takeFrom(image);
        return now.weighings;
    }

    public int count(int what) {
        if (what >= 11 && what <= 16) {
            return refusals[what - 10];
        }
        switch (what) {
            case 0: return now.stones;
            case 1: return now.weighings;
            case 2: return now.comparisons;
            case 3: return now.allLikings();
            case 4: return now.allWeights();
            case 5: return reader.size;
            case 6: return numbersSize;
            default: return NONE;
        }
    }

    private int refuse(int number) {
        if (number < 0 && -number < refusals.length) {
            refusals[-number]++;
        }
        return number;
    }

    /** Learns from the book on the way: whoever is not refused may ask what is known at once. */
    private int refusalOfWanted(int wanted) {
        if (wanted < 0 || wanted >= WANTED_KINDS) {
            return OTHER;
        }
        known.learn(now);
        return now.stones > Wants.STONES_MOST_WANTED || known.ringedStones() != 0 ? STATE : 0;
    }

    private static boolean isKind(int kind) {
        return kind >= 0 && kind < KINDS;
    }

    private static boolean hasBit(int bits, int i) {
        return (bits >> i & 1) != 0;
    }

    /** All that an image holds: stones, scale, book, net, likings. */
    static final class Barn {
        private int stones;
        private final int[] weights = new int[STONES_MOST];
        private int scaleKind;
        private int scaleFigure;
        private int weighings;
        private final int[] firsts = new int[WEIGHINGS_MOST];
        private final int[] seconds = new int[WEIGHINGS_MOST];
        private final int[] tolds = new int[WEIGHINGS_MOST];
        private int comparisons;
        private final int[] lessers = new int[COMPARISONS_MOST];
        private final int[] greaters = new int[COMPARISONS_MOST];
        private final int[] liked = new int[STONES_MOST];

        Barn() {
            scaleKind = 0;
            scaleFigure = 0;
            begin(3);
        }

        /** The scale stays as it is. */
        void begin(int n) {
            stones = n;
            weighings = 0;
            comparisons = 0;
            for (int s = 0; s < STONES_MOST; s++) {
                weights[s] = WEIGHT_FIRST;
                liked[s] = 0;
            }
        }

        void takeFrom(Barn other) {
            stones = other.stones;
            scaleKind = other.scaleKind;
            scaleFigure = other.scaleFigure;
            weighings = other.weighings;
            comparisons = other.comparisons;
            System.arraycopy(other.weights, 0, weights, 0, STONES_MOST);
            System.arraycopy(other.liked, 0, liked, 0, STONES_MOST);
            System.arraycopy(other.firsts, 0, firsts, 0, WEIGHINGS_MOST);
            System.arraycopy(other.seconds, 0, seconds, 0, WEIGHINGS_MOST);
            System.arraycopy(other.tolds, 0, tolds, 0, WEIGHINGS_MOST);
            System.arraycopy(other.lessers, 0, lessers, 0, COMPARISONS_MOST);
            System.arraycopy(other.greaters, 0, greaters, 0, COMPARISONS_MOST);
        }

        /** Places of the net are numbered as stones are, so this tells of both. */
        boolean isStone(int stone) {
            return stone >= 0 && stone < stones;
        }

        boolean areTwo(int a, int b) {
            return isStone(a) && isStone(b) && a != b;
        }

        int refusalOfWeight(int stone, int v) {
            if (!isStone(stone)) {
                return NOBODY;
            }
            if (v < WEIGHT_LEAST) {
                return BELOW;
            }
            return v > WEIGHT_MOST ? ROOM : 0;
        }

        int changeWeight(int stone, int v) {
            int was = weights[stone];
            weights[stone] = v;
            return was;
        }

        int refusalOfScale(int kind, int figure) {
            if (!isKind(kind)) {
                return OTHER;
            }
            if (figure < 0) {
                return BELOW;
            }
            return figure > FIGURE_MOST ? ROOM : 0;
        }

        int changeScale(int kind, int figure) {
            int was = 10 * scaleKind + scaleFigure;
            scaleKind = kind;
            scaleFigure = figure;
            return was;
        }

        int refusalOfWeighing(int a, int b) {
            if (!areTwo(a, b)) {
                return NOBODY;
            }
            return weighings >= WEIGHINGS_MOST ? ROOM : 0;
        }

        void write(int a, int b, int told) {
            firsts[weighings] = a;
            seconds[weighings] = b;
            tolds[weighings] = told;
            weighings++;
        }

        int refusalOfComparison(int place, int other) {
            if (!isStone(place) || !isStone(other) || place >= other) {
                return NOBODY;
            }
            return comparisons >= COMPARISONS_MOST ? ROOM : 0;
        }

        int addComparison(int place, int other) {
            lessers[comparisons] = place;
            greaters[comparisons] = other;
            comparisons++;
            return comparisons;
        }

        int turnLiking(int a, int b) {
            int was = hasBit(liked[a], b) ? 2 : hasBit(liked[b], a) ? 0 : 1;
            liked[a] |= 1 << b;
            liked[b] &= ~(1 << a);
            return was;
        }

        int allLikings() {
            int sum = 0;
            for (int s = 0; s < stones; s++) {
                sum += Integer.bitCount(liked[s]);
            }
            return sum;
        }

        int allWeights() {
            int sum = 0;
            for (int s = 0; s < stones; s++) {
                sum += weights[s];
            }
            return sum;
        }

        /** What the scale tells of two stones, if n weighings are in the book. */
        int answer(int a, int b, int n) {
            int right = byWeights(a, b, 0);
            boolean atFault = (n + 1) % (scaleFigure + 2) == 0;
            switch (scaleKind) {
                case 1: return byWeights(a, b, scaleFigure);
                case 2: return atFault ? otherWay(right) : right;
                case 3: return byWeights(a, b, scaleFigure) == ALIKE ? ALIKE : HEAVIER;
                case 4: return byWeights(a, b, scaleFigure + n / 5);
                case 5: return atFault ? right : otherWay(right);
                default: return right;
            }
        }

        private int byWeights(int a, int b, int slack) {
            int more = weights[a] - weights[b];
            if (Math.abs(more) <= slack) {
                return ALIKE;
            }
            return more > 0 ? HEAVIER : LIGHTER;
        }

        static int otherWay(int told) {
            return HEAVIER - told;
        }

        /** By threes; NONE if the scale would tell the whole row so, one behind the other. */
        int firstWrong(int[] numbers, int size) {
            for (int i = 0; i < size; i += 3) {
                if (i + 3 > size) {
                    return i;
                }
                int a = numbers[i];
                int b = numbers[i + 1];
                if (!isStone(a)) {
                    return i;
                }
                if (!areTwo(a, b)) {
                    return i + 1;
                }
                if (numbers[i + 2] != answer(a, b, weighings + i / 3)) {
                    return i + 2;
                }
            }
            return NONE;
        }
    }

    /** The letters, and what they do to a barn. */
    static final class Reader {
        private final int[] letters = new int[LETTERS_MOST];
        private int size = 0;
        private final Barn trial = new Barn();

        boolean isFull() {
            return size >= LETTERS_MOST;
        }

        int take(int letter) {
            letters[size] = letter;
            size++;
            return size;
        }

        /** Tried on a copy, so that with a fault nothing of it comes. */
        int read(Barn barn) {
            int length = size;
            size = 0;
            int fault = faultOfForm(length);
            if (fault < 0) {
                return fault;
            }
            trial.takeFrom(barn);
            int statements = 0;
            int start = 0;
            for (int i = 0; i < length; i++) {
                if (letters[i] == ';') {
                    if (!carryOut(start, i)) {
                        return -2000 - start;
                    }
                    statements++;
                    start = i + 1;
                }
            }
            barn.takeFrom(trial);
            return statements;
        }

        private int faultOfForm(int length) {
            boolean inside = false;
            int head = 0;
            int digits = 0;
            for (int i = 0; i < length; i++) {
                int letter = letters[i];
                if (!inside && mostDigits(letter) > 0) {
                    inside = true;
                    head = letter;
                    digits = 0;
                } else if (inside && letter >= '0' && letter <= '9' && digits < mostDigits(head)) {
                    digits++;
                } else if (inside && letter == ';' && digits >= leastDigits(head)) {
                    inside = false;
                } else {
                    return -1000 - i;
                }
            }
            return inside || length == 0 ? -1000 - length : 0;
        }

        private static int mostDigits(int head) {
            switch (head) {
                case 'n': return 1;
                case 's':
                case 'l':
                case 'c': return 2;
                case 'w':
                case 'b': return 3;
                default: return 0;
            }
        }

        private static int leastDigits(int head) {
            return head == 'w' ? 2 : mostDigits(head);
        }

        private int digitAt(int i) {
            return i < LETTERS_MOST ? letters[i] - '0' : 0;
        }

        private boolean carryOut(int start, int end) {
            int first = digitAt(start + 1);
            int second = digitAt(start + 2);
            int third = digitAt(start + 3);
            switch (letters[start]) {
                case 'n': return beginAnew(first);
                case 'w': return putWeight(first, end - start == 3 ? second : 10 * second + third);
                case 's': return putScale(first, second);
                case 'b': return putWeighing(first, second, third);
                case 'l': return putLiking(first, second);
                default: return putComparison(first, second);
            }
        }

        private boolean beginAnew(int n) {
            if (n < STONES_LEAST || n > STONES_MOST) {
                return false;
            }
            trial.begin(n);
            return true;
        }

        private boolean putWeight(int stone, int v) {
            if (trial.refusalOfWeight(stone, v) != 0) {
                return false;
            }
            trial.changeWeight(stone, v);
            return true;
        }

        private boolean putScale(int kind, int figure) {
            if (trial.refusalOfScale(kind, figure) != 0) {
                return false;
            }
            trial.changeScale(kind, figure);
            return true;
        }

        private boolean putWeighing(int a, int b, int told) {
            if (told > HEAVIER || trial.refusalOfWeighing(a, b) != 0) {
                return false;
            }
            trial.write(a, b, told);
            return true;
        }

        private boolean putLiking(int a, int b) {
            if (!trial.areTwo(a, b)) {
                return false;
            }
            trial.turnLiking(a, b);
            return true;
        }

        private boolean putComparison(int place, int other) {
            if (trial.refusalOfComparison(place, other) != 0) {
                return false;
            }
            trial.addComparison(place, other);
            return true;
        }
    }

    /** What follows from a book: who is above whom, and the orders that fit. */
    static final class Known {
        private static final int NO_WEIGHING = -1;

        private int stones = STONES_LEAST;
        private final int[] over = new int[STONES_MOST];
        private final int[] under = new int[STONES_MOST];
        private final int[] ways = new int[ROWS_OF_BITS];

        void learn(Barn barn) {
            learnTurned(barn, NO_WEIGHING);
        }

        /** One weighing is read as if it had been told the other way. */
        private void learnTurned(Barn barn, int turned) {
            stones = barn.stones;
            for (int s = 0; s < STONES_MOST; s++) {
                over[s] = 0;
                under[s] = 0;
            }
            for (int i = 0; i < barn.weighings; i++) {
                int told = i == turned ? Barn.otherWay(barn.tolds[i]) : barn.tolds[i];
                if (told == HEAVIER) {
                    over[barn.firsts[i]] |= 1 << barn.seconds[i];
                } else if (told == LIGHTER) {
                    over[barn.seconds[i]] |= 1 << barn.firsts[i];
                }
            }
            follow();
        }

        private void follow() {
            for (int by = 0; by < stones; by++) {
                for (int a = 0; a < stones; a++) {
                    if (hasBit(over[a], by)) {
                        over[a] |= over[by];
                    }
                }
            }
            for (int a = 0; a < stones; a++) {
                for (int b = 0; b < stones; b++) {
                    if (hasBit(over[a], b)) {
                        under[b] |= 1 << a;
                    }
                }
            }
        }

        int ringedStones() {
            int bits = 0;
            for (int s = 0; s < stones; s++) {
                bits |= over[s] & 1 << s;
            }
            return bits;
        }

        int liesOf(Barn barn) {
            learn(barn);
            if (ringedStones() == 0) {
                return 0;
            }
            int bits = 0;
            for (int i = 0; i < barn.weighings; i++) {
                learnTurned(barn, i);
                if (barn.tolds[i] != ALIKE && ringedStones() == 0) {
                    bits |= 1 << i;
                }
            }
            return bits;
        }

        private boolean isOpen(int a, int b) {
            return !hasBit(over[a], b) && !hasBit(over[b], a);
        }

        int openPairs() {
            int pairs = 0;
            for (int a = 0; a < stones; a++) {
                for (int b = a + 1; b < stones; b++) {
                    if (isOpen(a, b)) {
                        pairs++;
                    }
                }
            }
            return pairs;
        }

        /** ways[set]: how many rows of that set's stones keep every stone behind all that are above it. */
        int allOrders() {
            int full = (1 << stones) - 1;
            ways[0] = 1;
            for (int set = 1; set <= full; set++) {
                ways[set] = 0;
                for (int last = 0; last < stones; last++) {
                    int ahead = set & ~(1 << last);
                    if (ahead != set && (under[last] & ~ahead) == 0) {
                        ways[set] += ways[ahead];
                    }
                }
            }
            return ways[full];
        }

        private int ordersWithAhead(int a, int b) {
            int were = under[b];
            under[b] |= 1 << a;
            int orders = allOrders();
            under[b] = were;
            return orders;
        }

        int stoneOfFirst(int k) {
            if (k < 0 || k >= stones || ringedStones() != 0) {
                return NONE;
            }
            int placed = 0;
            int stone = 0;
            for (int place = 0; place <= k; place++) {
                stone = leastFree(placed);
                placed |= 1 << stone;
            }
            return stone;
        }

        private int leastFree(int placed) {
            for (int s = 0; s < stones; s++) {
                if (!hasBit(placed, s) && (under[s] & ~placed) == 0) {
                    return s;
                }
            }
            return 0;
        }

        /** The two by which the greater part of the orders is least; or how many that part has. */
        int halving(boolean whichTwo) {
            if (ringedStones() != 0) {
                return NONE;
            }
            int all = allOrders();
            int least = NONE;
            int two = NONE;
            for (int a = 0; a < stones; a++) {
                for (int b = a + 1; b < stones; b++) {
                    if (isOpen(a, b)) {
                        int part = ordersWithAhead(a, b);
                        int greater = Math.max(part, all - part);
                        if (least == NONE || greater < least) {
                            least = greater;
                            two = 10 * a + b;
                        }
                    }
                }
            }
            return whichTwo ? two : least;
        }
    }

    /** The fewest weighings for what is wanted, of four stones at most. Sets of orders are bits. */
    static final class Wants {
        private static final int STONES_MOST_WANTED = 4;
        private static final int ORDERS_MOST = 24;
        private static final int BOOKS = 3 + 27 + 729;
        private static final int DEPTH_MOST = 8;
        private static final int MANY = 1000000;

        private int stones = 0;
        private int orders = 0;
        private final int[] order = new int[STONES_MOST_WANTED];
        /** By 4 a plus b: the orders that have a ahead of b. */
        private final int[] ahead = new int[STONES_MOST_WANTED * STONES_MOST_WANTED];
        /** By wanted and order: what would be told of that order. */
        private final int[] answers = new int[WANTED_KINDS * ORDERS_MOST];
        /** By wanted and what is known, kept for later calls: one more than the number; 0 not reckoned yet. */
        private final int[] atWorst = new int[WANTED_KINDS * BOOKS];
        private final int[] together = new int[WANTED_KINDS * BOOKS];

        boolean tellsAlready(Known known, int wanted) {
            return isTold(fitting(known), wanted);
        }

        int fewestAtWorst(Known known, int wanted) {
            return atWorst[solve(this, fitting(known), wanted, 0)] - 1;
        }

        int leastMean(Known known, int wanted, boolean aboveLine) {
            int set = fitting(known);
            int sum = together[solve(this, set, wanted, 0)] - 1;
            int many = Integer.bitCount(set);
            int common = commonDivisor(sum, many);
            if (common < 1) {
                return 0;
            }
            return aboveLine ? sum / common : many / common;
        }

        private static int commonDivisor(int a, int b) {
            int common = 0;
            for (int d = 1; d <= b; d++) {
                if (a % d == 0 && b % d == 0) {
                    common = d;
                }
            }
            return common;
        }

        private int fitting(Known known) {
            if (stones != known.stones) {
                layOut(known.stones);
            }
            int set = (1 << orders) - 1;
            for (int a = 0; a < stones; a++) {
                for (int b = 0; b < stones; b++) {
                    if (hasBit(known.over[a], b)) {
                        set &= ahead[STONES_MOST_WANTED * a + b];
                    }
                }
            }
            return set;
        }

        private void layOut(int n) {
            stones = Math.min(n, STONES_MOST_WANTED);
            orders = 0;
            for (int i = 0; i < ahead.length; i++) {
                ahead[i] = 0;
            }
            for (int code = 0; code < 1 << 2 * stones; code++) {
                if (isOrder(code) && orders < ORDERS_MOST) {
                    noteOrder(code);
                    orders++;
                }
            }
        }

        /** A code holds an order's stones, two bits each. */
        private boolean isOrder(int code) {
            int seen = 0;
            for (int place = 0; place < stones; place++) {
                order[place] = code >> 2 * place & 3;
                seen |= 1 << order[place];
            }
            return seen == (1 << stones) - 1;
        }

        private void noteOrder(int code) {
            for (int i = 0; i < stones; i++) {
                for (int j = i + 1; j < stones; j++) {
                    ahead[STONES_MOST_WANTED * order[i] + order[j]] |= 1 << orders;
                }
            }
            for (int wanted = 0; wanted < WANTED_KINDS; wanted++) {
                answers[ORDERS_MOST * wanted + orders] = answerOf(wanted, code);
            }
        }

        private int answerOf(int wanted, int code) {
            switch (wanted) {
                case 0: return order[0];
                case 1: return order[stones - 1];
                case 2: return 10 * order[0] + order[stones - 1];
                case 3: return 10 * order[0] + order[1];
                case 4: return order[stones / 2];
                default: return code;
            }
        }

        private boolean isTold(int set, int wanted) {
            int answer = -1;
            for (int o = 0; o < orders; o++) {
                if (hasBit(set, o)) {
                    int other = answers[ORDERS_MOST * wanted + o];
                    if (answer >= 0 && answer != other) {
                        return false;
                    }
                    answer = other;
                }
            }
            return true;
        }

        /** Each pair is known one way, the other or not at all: a digit to the base of 3 each. */
        private int indexOf(int set, int wanted) {
            int code = 0;
            for (int a = 0; a < stones; a++) {
                for (int b = a + 1; b < stones; b++) {
                    int with = set & ahead[STONES_MOST_WANTED * a + b];
                    code = 3 * code + (with == set ? 1 : with == 0 ? 2 : 0);
                }
            }
            int ofFewer = stones < 3 ? 0 : stones < 4 ? 3 : 30;
            return BOOKS * wanted + ofFewer + code;
        }

        /** Where the answers stand then. Each weighing settles a pair that was open, so the depth is six at most. */
        private static int solve(Wants w, int set, int wanted, int depth) {
            int at = w.indexOf(set, wanted);
            if (depth > DEPTH_MOST || w.atWorst[at] != 0) {
                return at;
            }
            boolean told = w.isTold(set, wanted);
            int worst = told ? 0 : MANY;
            int sum = told ? 0 : MANY;
            for (int pair = 0; pair < w.ahead.length && !told; pair++) {
                boolean lesserFirst = pair / STONES_MOST_WANTED < pair % STONES_MOST_WANTED;
                int with = lesserFirst ? set & w.ahead[pair] : 0;
                int without = set & ~with;
                if (with != 0 && without != 0) {
                    int one = solve(w, with, wanted, depth + 1);
                    int other = solve(w, without, wanted, depth + 1);
                    worst = Math.min(worst, Math.max(w.atWorst[one], w.atWorst[other]));
                    sum = Math.min(sum, Integer.bitCount(set) + w.together[one] - 1 + w.together[other] - 1);
                }
            }
            w.atWorst[at] = worst + 1;
            w.together[at] = sum + 1;
            return at;
        }
    }

    /** The plans, on stones by a right scale; of alike ones the lesser number counts as heavier. */
    static final class Plans {
        private static final int DEPTH_MOST = 8;

        private final int[] weights = new int[STONES_MOST];
        private int stones = STONES_LEAST;
        private int weighings = 0;
        private final int[] told = new int[STONES_MOST];
        private int toldSize = 0;
        private final int[] spare = new int[STONES_MOST];
        private final int[] left = new int[STONES_MOST];
        private final int[] winners = new int[STONES_MOST];
        private final int[] losers = new int[STONES_MOST];
        private int matches = 0;

        /** How often the plan weighs; what it tells is kept for stoneAt. */
        int carryOut(int kind, int[] of, int n) {
            stones = Math.min(n, STONES_MOST);
            System.arraycopy(of, 0, weights, 0, stones);
            weighings = 0;
            toldSize = stones;
            for (int s = 0; s < stones; s++) {
                told[s] = s;
            }
            switch (kind) {
                case 0: bothOneBehindTheOther(); break;
                case 1: bothByTwos(); break;
                case 2: cup(); break;
                case 3: insert(0, stones); break;
                case 4: merge(this, 0, stones, 1, 0); break;
                default: merge(this, 0, stones, 3, 0); break;
            }
            return weighings;
        }

        int stoneAt(int k) {
            return k >= 0 && k < toldSize ? told[k] : NONE;
        }

        private boolean isHeavier(int a, int b) {
            weighings++;
            return weights[a] > weights[b] || weights[a] == weights[b] && a < b;
        }

        private void tellTwo(int first, int second) {
            told[0] = first;
            told[1] = second;
            toldSize = 2;
        }

        private int heaviestOf(int[] row, int size) {
            int best = row[0];
            for (int i = 1; i < size; i++) {
                if (isHeavier(row[i], best)) {
                    best = row[i];
                }
            }
            return best;
        }

        private int lightestOf(int[] row, int size) {
            int best = row[0];
            for (int i = 1; i < size; i++) {
                if (isHeavier(best, row[i])) {
                    best = row[i];
                }
            }
            return best;
        }

        private void bothOneBehindTheOther() {
            int heaviest = heaviestOf(told, stones);
            int others = 0;
            for (int s = 0; s < stones; s++) {
                if (s != heaviest) {
                    left[others] = s;
                    others++;
                }
            }
            tellTwo(heaviest, lightestOf(left, others));
        }

        private void bothByTwos() {
            int twos = 0;
            for (int s = 0; s + 1 < stones; s += 2) {
                boolean firstHeavier = isHeavier(s, s + 1);
                winners[twos] = firstHeavier ? s : s + 1;
                losers[twos] = firstHeavier ? s + 1 : s;
                twos++;
            }
            if (stones % 2 != 0) {
                winners[twos] = stones - 1;
                losers[twos] = stones - 1;
                twos++;
            }
            int heaviest = heaviestOf(winners, twos);
            tellTwo(heaviest, lightestOf(losers, twos));
        }

        private void cup() {
            matches = 0;
            int size = stones;
            for (int s = 0; s < stones; s++) {
                left[s] = s;
            }
            for (int round = 0; round < stones && size > 1; round++) {
                size = playRound(size);
            }
            int beaten = 0;
            for (int m = 0; m < matches; m++) {
                if (winners[m] == left[0]) {
                    spare[beaten] = losers[m];
                    beaten++;
                }
            }
            tellTwo(left[0], heaviestOf(spare, beaten));
        }

        private int playRound(int size) {
            int goOn = 0;
            for (int i = 0; i < size; i += 2) {
                int winner = left[i];
                if (i + 1 < size) {
                    boolean firstHeavier = isHeavier(left[i], left[i + 1]);
                    winner = firstHeavier ? left[i] : left[i + 1];
                    winners[matches] = winner;
                    losers[matches] = firstHeavier ? left[i + 1] : left[i];
                    matches++;
                }
                left[goOn] = winner;
                goOn++;
            }
            return goOn;
        }

        private void insert(int from, int to) {
            for (int i = from + 1; i < to; i++) {
                int stone = told[i];
                int place = placeFor(stone, from, i);
                for (int j = i; j > place; j--) {
                    told[j] = told[j - 1];
                }
                told[place] = stone;
            }
        }

        private int placeFor(int stone, int from, int to) {
            int low = from;
            int high = to;
            for (int step = 0; step < STONES_MOST && low < high; step++) {
                int middle = low + (high - low) / 2;
                if (isHeavier(stone, told[middle])) {
                    high = middle;
                } else {
                    low = middle + 1;
                }
            }
            return low;
        }

        /** Rows of byInsert or fewer are not halved, but put in order by insert. */
        private static void merge(Plans p, int from, int to, int byInsert, int depth) {
            int size = to - from;
            if (depth > DEPTH_MOST || size <= byInsert) {
                p.insert(from, to);
                return;
            }
            int middle = from + size / 2;
            merge(p, from, middle, byInsert, depth + 1);
            merge(p, middle, to, byInsert, depth + 1);
            p.join(from, middle, to);
        }

        private void join(int from, int middle, int to) {
            System.arraycopy(told, from, spare, from, to - from);
            int one = from;
            int other = middle;
            for (int i = from; i < to; i++) {
                boolean takeOne = other >= to || one < middle && isHeavier(spare[one], spare[other]);
                told[i] = takeOne ? spare[one++] : spare[other++];
            }
        }
    }

    /** A barn's net on its places. A row of noughts and ones is bits, place 0 the lowest; ones are heavier. */
    static final class Net {
        private final int[] places = new int[STONES_MOST];
        private final int[] outcomes = new int[ROWS_OF_BITS];

        private static int compared(int row, int lesser, int greater) {
            boolean swaps = !hasBit(row, lesser) && hasBit(row, greater);
            return swaps ? row ^ (1 << lesser | 1 << greater) : row;
        }

        private static boolean isInOrder(int row) {
            return (row & row + 1) == 0;
        }

        int unsortedRows(Barn barn) {
            int unsorted = 0;
            for (int row = 0; row < 1 << barn.stones; row++) {
                int out = row;
                for (int c = 0; c < barn.comparisons; c++) {
                    out = compared(out, barn.lessers[c], barn.greaters[c]);
                }
                outcomes[row] = out;
                if (!isInOrder(out)) {
                    unsorted++;
                }
            }
            return unsorted;
        }

        int idleOnes(Barn barn) {
            int bits = (1 << barn.comparisons) - 1;
            for (int row = 0; row < 1 << barn.stones; row++) {
                int out = row;
                for (int c = 0; c < barn.comparisons; c++) {
                    int was = out;
                    out = compared(was, barn.lessers[c], barn.greaters[c]);
                    if (out != was) {
                        bits &= ~(1 << c);
                    }
                }
            }
            return bits;
        }

        int mendingOne(Barn barn) {
            int least = unsortedRows(barn);
            int mending = NONE;
            for (int p = 0; p < barn.stones; p++) {
                for (int q = p + 1; q < barn.stones; q++) {
                    int unsorted = unsortedWith(barn.stones, p, q);
                    if (unsorted < least) {
                        least = unsorted;
                        mending = 10 * p + q;
                    }
                }
            }
            return mending;
        }

        /** Of the outcomes that unsortedRows has left. */
        private int unsortedWith(int stones, int p, int q) {
            int unsorted = 0;
            for (int row = 0; row < 1 << stones; row++) {
                if (!isInOrder(compared(outcomes[row], p, q))) {
                    unsorted++;
                }
            }
            return unsorted;
        }

        int fewestRounds(Barn barn) {
            for (int p = 0; p < STONES_MOST; p++) {
                places[p] = 0;
            }
            int most = 0;
            for (int c = 0; c < barn.comparisons; c++) {
                int lesser = barn.lessers[c];
                int greater = barn.greaters[c];
                int round = Math.max(places[lesser], places[greater]) + 1;
                places[lesser] = round;
                places[greater] = round;
                most = Math.max(most, round);
            }
            return most;
        }

        int stoneBehind(Barn barn, int place) {
            for (int p = 0; p < STONES_MOST; p++) {
                places[p] = p;
            }
            for (int c = 0; c < barn.comparisons; c++) {
                int one = places[barn.lessers[c]];
                int other = places[barn.greaters[c]];
                if (barn.weights[other] > barn.weights[one]) {
                    places[barn.lessers[c]] = other;
                    places[barn.greaters[c]] = one;
                }
            }
            return places[place];
        }
    }

    /** Rings among a barn's likings, and how few must be turned. */
    static final class Likings {
        private int stones = STONES_LEAST;
        private final int[] likers = new int[STONES_MOST];
        /** By the set of stones that are ahead already: the fewest to be turned among the others. */
        private final int[] turned = new int[ROWS_OF_BITS];

        int ringsOfThree(Barn barn) {
            int rings = 0;
            for (int a = 0; a < barn.stones; a++) {
                for (int b = a + 1; b < barn.stones; b++) {
                    for (int c = b + 1; c < barn.stones; c++) {
                        if (isRing(barn.liked, a, b, c) || isRing(barn.liked, a, c, b)) {
                            rings++;
                        }
                    }
                }
            }
            return rings;
        }

        private static boolean isRing(int[] liked, int a, int b, int c) {
            return hasBit(liked[a], b) && hasBit(liked[b], c) && hasBit(liked[c], a);
        }

        /** From the full set down, so that what comes behind is reckoned first. */
        void reckon(Barn barn) {
            stones = barn.stones;
            for (int b = 0; b < stones; b++) {
                likers[b] = 0;
                for (int a = 0; a < stones; a++) {
                    if (hasBit(barn.liked[a], b)) {
                        likers[b] |= 1 << a;
                    }
                }
            }
            int full = (1 << stones) - 1;
            turned[full] = 0;
            for (int placed = full - 1; placed >= 0; placed--) {
                turned[placed] = ROWS_OF_BITS;
                for (int s = 0; s < stones; s++) {
                    if (!hasBit(placed, s)) {
                        turned[placed] = Math.min(turned[placed], turnedWith(placed, s));
                    }
                }
            }
        }

        private int turnedWith(int placed, int stone) {
            return Integer.bitCount(likers[stone] & ~placed) + turned[placed | 1 << stone];
        }

        int fewestTurned() {
            return turned[0];
        }

        int stoneOfFirst(int k) {
            if (k < 0 || k >= stones) {
                return NONE;
            }
            int placed = 0;
            int stone = 0;
            for (int place = 0; place <= k; place++) {
                stone = leastBest(placed);
                placed |= 1 << stone;
            }
            return stone;
        }

        private int leastBest(int placed) {
            for (int s = 0; s < stones; s++) {
                if (!hasBit(placed, s) && turnedWith(placed, s) == turned[placed]) {
                    return s;
                }
            }
            return 0;
        }
    }

    /** Bounds for n of 1 to 20, told by law. */
    static final class Law {
        static int bound(int n, int what) {
            switch (what) {
                case 0: return n == 1 ? 0 : (3 * n + 1) / 2 - 2;
                case 1: return n == 1 ? 0 : n - 2 + halvings(n);
                case 2: return byInsert(n);
                default: return byOrders(n);
            }
        }

        private static int halvings(int n) {
            int times = 0;
            for (int k = n; k > 1; k = (k + 1) / 2) {
                times++;
            }
            return times;
        }

        private static int byInsert(int n) {
            int sum = 0;
            for (int k = 2; k <= n; k++) {
                sum += halvings(k);
            }
            return sum;
        }

        /** The orders of 20 are fewer than 2 to 62, so longs hold them. */
        private static int byOrders(int n) {
            long orders = 1;
            for (int k = 2; k <= n; k++) {
                orders *= k;
            }
            int m = 0;
            for (long power = 1; power < orders && m < 62; power *= 2) {
                m++;
            }
            return m;
        }
    }

    /** Stones drawn by a seed. */
    static final class Seeds {
        private final int[] drawn = new int[STONES_MOST];
        private int z = 0;

        int weighingsOf(Plans plans, int kind, int stones, int times, int seed) {
            z = seed;
            int sum = 0;
            for (int t = 0; t < times; t++) {
                for (int s = 0; s < stones; s++) {
                    drawn[s] = drawBelow99() + 1;
                }
                sum += plans.carryOut(kind, drawn, stones);
            }
            return sum;
        }

        private int drawBelow99() {
            z = z * 1103515245 + 12345;
            return (z & 0x7fffffff) / 65536 % 99;
        }
    }
}
