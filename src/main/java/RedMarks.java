import java.util.Arrays;

/** A library that was carried out, put up again on paper; ../shared/DOC.md has its promises. */
public final class RedMarks {
    public static final int NONE = -1;

    private static final int NOTHING = -1000;

    private static final int WRONG = -1;
    private static final int ABSENT = -2;
    private static final int BARRED = -3;
    private static final int FULL = -5;
    private static final int UNREADABLE = -6;

    private static final int BOOKS = 40;
    private static final int FACTS = 12;
    private static final int BAYS = 9;
    private static final int SHELVES = 6;
    private static final int PLACES = 99;
    private static final int STARS = 10;
    private static final int HOUSES = 12;
    private static final int LETTERS = 9;
    private static final int TEXTS = 8;
    private static final int LINES = 12;
    private static final int STACK = 9;
    private static final int IMAGES = 2;
    private static final int TAPE = 400;
    private static final int LAST_YEAR = 199;
    private static final int MOST_SLACK = 400;
    private static final int MOST_ALL = 5000;
    private static final int MOST_COST = 100;
    private static final int MOST_SEED = 1000000;

    private static final int LETTER = 0;
    private static final int NUMBER = 1;
    private static final int CAME = 2;
    private static final int THICK = 3;
    private static final int TALL = 4;
    private static final int HOLE = 5;
    private static final int HEIGHT = 6;
    private static final int STAR = 7;
    private static final int DAMP = 8;
    private static final int WORD = 9;
    private static final int SUBJECT = 10;
    private static final int HOUSE = 11;

    private static final int[] LEAST = {0, 1, 0, 1, 1, 0, 0, 0, 0, 0, 0, 0};
    private static final int[] MOST = {8, 99, 199, 30, 40, 2, 40, 9, 9, 999, 7, 11};

    private static final int MARKLESS = 0;
    private static final int SEATLESS = 1;
    private static final int UNRIGHT = 2;
    private static final int SECOND_THERE = 3;
    private static final int STANDS = 4;

    private final Holdings now = new Holdings();
    private final Holdings[] images = new Holdings[IMAGES];
    private final Tape tape = new Tape();
    private final Asker asker = new Asker();
    private final Histories histories = new Histories(now, asker);
    private final Shelves shelves = new Shelves(now, histories.kept);
    private final Matches matches = new Matches(now);
    private final StackRow stackRow = new StackRow(now);
    private final World world = new World();
    private final int[] refusals = new int[-UNREADABLE + 1];
    private int latestRefusal;
    private int latestRebound;
    private int latestFault = NONE;

    public RedMarks() {
    }

    public int book(int letter, int number, int came, int thick, int tall) {
        if (!isMarkOrNone(letter, number) || !areBookNumbers(came, thick, tall)) {
            return refuse(WRONG);
        }
        if (now.bookCount >= BOOKS) {
            return refuse(FULL);
        }
        return accept(addBook(letter, number, came, thick, tall));
    }

    public int fact(int book, int fact, int value) {
        if (fact < CAME || !fits(fact, value)) {
            return refuse(WRONG);
        }
        if (!now.hasBook(book)) {
            return refuse(ABSENT);
        }
        int was = now.factOf(book, fact);
        now.setFact(book, fact, value);
        forgetFact(book, fact);
        return accept(was);
    }

    public int mark(int book, int letter, int number) {
        if (!isMarkOrNone(letter, number)) {
            return refuse(WRONG);
        }
        if (!now.hasBook(book)) {
            return refuse(ABSENT);
        }
        now.setFact(book, LETTER, letter);
        now.setFact(book, NUMBER, number);
        forgetBook(book);
        return accept(0);
    }

    public int of(int book, int fact) {
        if (!now.hasBook(book) || fact < 0 || fact >= FACTS) {
            return NOTHING;
        }
        return now.factOf(book, fact);
    }

    public int bay(int bay, int side) {
        if (bay < 0 || bay >= BAYS || side < 0 || side > 2) {
            return refuse(WRONG);
        }
        int was = now.sides[bay];
        now.sides[bay] = side;
        histories.forgetStanding();
        return accept(was);
    }

    public int shelf(int bay, int shelf, int wide, int high) {
        if (!isShelf(bay, shelf) || wide < 1 || wide > 400 || high < 1 || high > 60) {
            return refuse(WRONG);
        }
        now.wides[bay * SHELVES + shelf] = wide;
        now.highs[bay * SHELVES + shelf] = high;
        histories.forgetStanding();
        return accept(0);
    }

    public int feed(int a, int b, int c, int d, int e) {
        if (tape.length + 20 > TAPE) {
            return NONE;
        }
        tape.append(a);
        tape.append(b);
        tape.append(c);
        tape.append(d);
        tape.append(e);
        return tape.length;
    }

    public int end(int n) {
        if (n < 0 || n > tape.length) {
            return NONE;
        }
        tape.length = n;
        return n;
    }

    public int row() {
        if (tape.length == 0) {
            return refuse(UNREADABLE);
        }
        int arrived = 0;
        int rebounds = 0;
        for (int at = 0; at < tape.length; at += 5) {
            if (addFromTape(at)) {
                arrived++;
            } else {
                rebounds++;
            }
        }
        tape.length = 0;
        latestRebound = rebounds;
        return accept(arrived);
    }

    public int rebound() {
        return latestRebound;
    }

    public int text() {
        if (now.schemeCount >= TEXTS) {
            tape.length = 0;
            return refuse(FULL);
        }
        Scheme scheme = tape.readScheme();
        tape.length = 0;
        if (scheme == null) {
            latestFault = tape.from;
            return refuse(UNREADABLE);
        }
        latestFault = NONE;
        int text = now.schemeCount;
        now.schemes[text] = scheme;
        now.schemeCount++;
        histories.forgetScheme(text);
        return accept(text);
    }

    public int fault() {
        return latestFault;
    }

    public int seat(int text, int book, int what) {
        if (!now.hasScheme(text) || !now.hasBook(book)) {
            return NONE;
        }
        int seat = histories.seatOf(text, book);
        if (seat == NONE) {
            return NONE;
        }
        switch (what) {
            case 0:
                return seat / PLACES / SHELVES;
            case 1:
                return seat / PLACES % SHELVES;
            case 2:
                return seat % PLACES + 1;
            case 3:
                return now.isRight(book, seat) ? 1 : 0;
            default:
                return NONE;
        }
    }

    public int stand(int first, int second, int year) {
        if (!now.hasScheme(first) || !now.hasScheme(second) || !isTurn(year)) {
            return NONE;
        }
        return histories.standingIn(first, second, year);
    }

    public int best(int what) {
        if (now.schemeCount == 0 || what < 0 || what > 4) {
            return NONE;
        }
        return histories.bestOf(what);
    }

    public int keep(int first, int second, int year) {
        if (!isTurn(year)) {
            return refuse(WRONG);
        }
        if (!now.hasScheme(first) || !now.hasScheme(second)) {
            return refuse(ABSENT);
        }
        now.first = first;
        now.second = second;
        now.year = year;
        histories.forgetStanding();
        histories.settleKept();
        return accept(histories.kept.standing);
    }

    public int how(int book) {
        if (!now.hasBook(book) || !histories.settleKept()) {
            return NONE;
        }
        return histories.kept.hows[book];
    }

    public int on(int bay, int shelf, int i) {
        if (!isShelf(bay, shelf) || !histories.settleKept()) {
            return NONE;
        }
        return shelves.bookAt(bay * SHELVES + shelf, i);
    }

    public int free(int bay, int shelf) {
        if (!isShelf(bay, shelf) || !histories.settleKept()) {
            return NOTHING;
        }
        return shelves.freeOf(bay * SHELVES + shelf);
    }

    public int gap(int bay, int shelf, int i, int what) {
        if (!isShelf(bay, shelf) || what < 0 || what > 1 || !histories.settleKept()) {
            return NONE;
        }
        if (i == NONE) {
            return shelves.gapsTogether(bay * SHELVES + shelf, what);
        }
        return shelves.gapOf(bay * SHELVES + shelf, i, what);
    }

    public int could(int bay, int shelf, int slack, int line) {
        if (!isShelf(bay, shelf) || slack < 0 || slack > MOST_SLACK) {
            return NONE;
        }
        if (line != NONE && !now.hasLine(line) || !histories.settleKept()) {
            return NONE;
        }
        matches.weighAll();
        return matches.countMissingSets(shelves.freeOf(bay * SHELVES + shelf), slack, line);
    }

    public int line(int word, int subject, int thick, int letter, int number) {
        if (!fits(WORD, word) || !fits(SUBJECT, subject) || !fits(THICK, thick)
                || !isMarkOrNone(letter, number)) {
            return refuse(WRONG);
        }
        if (now.lineCount >= LINES) {
            return refuse(FULL);
        }
        int line = now.lineCount;
        now.lineCount++;
        now.lines[line * FACTS + WORD] = word;
        now.lines[line * FACTS + SUBJECT] = subject;
        now.lines[line * FACTS + THICK] = thick;
        now.lines[line * FACTS + LETTER] = letter;
        now.lines[line * FACTS + NUMBER] = number;
        matches.forgetAll();
        return accept(line);
    }

    public int list(int line, int list) {
        if (list < 0 || list > 3) {
            return refuse(WRONG);
        }
        if (!now.hasLine(line)) {
            return refuse(ABSENT);
        }
        int was = now.lists[line];
        now.lists[line] = list;
        return accept(was);
    }

    public int fights(int what, int i) {
        if (what < 0 || what > 2) {
            return NONE;
        }
        int pairs = 0;
        for (int low = 0; low < now.lineCount; low++) {
            for (int high = low + 1; high < now.lineCount; high++) {
                if (now.linesFight(low, high)) {
                    if (what > 0 && pairs == i) {
                        return what == 1 ? low : high;
                    }
                    pairs++;
                }
            }
        }
        return what == 0 ? pairs : NONE;
    }

    public int wanting(int letter, int what, int i) {
        if (letter < 0 || letter >= LETTERS || what < 0 || what > 2) {
            return NONE;
        }
        if (what == 2) {
            return now.booksWithLetter(letter);
        }
        int greatest = now.greatestNumber(letter);
        int wanted = 0;
        for (int number = 1; number < greatest; number++) {
            if (!now.hasMark(letter, number)) {
                if (what == 1 && wanted == i) {
                    return number;
                }
                wanted++;
            }
        }
        return what == 0 ? wanted : NONE;
    }

    public int runs(int letter) {
        if (letter < 0 || letter >= LETTERS) {
            return NOTHING;
        }
        int up = 0;
        for (int one = 0; one < now.bookCount; one++) {
            for (int other = one + 1; other < now.bookCount; other++) {
                if (now.hasHoleAndLetter(one, letter) && now.hasHoleAndLetter(other, letter)) {
                    up += now.rise(one, other);
                }
            }
        }
        return up;
    }

    public int binder(int star, int from, int to) {
        if (!fits(STAR, star) || !fits(CAME, from) || !fits(CAME, to) || to < from) {
            return refuse(WRONG);
        }
        now.froms[star] = from;
        now.tos[star] = to;
        int outside = 0;
        for (int book = 0; book < now.bookCount; book++) {
            if (now.factOf(book, STAR) == star && now.sideOfYears(book) != 0) {
                outside++;
            }
        }
        return accept(outside);
    }

    public int bound(int book) {
        return now.hasBook(book) ? now.sideOfYears(book) : NOTHING;
    }

    public int nearest(int book, int what) {
        if (!now.hasBook(book) || what < 0 || what > 3 || !histories.settleKept()) {
            return NONE;
        }
        int near = shelves.nearestTo(book);
        if (near == NONE || what == 0) {
            return near;
        }
        if (what == 3) {
            return now.dampApart(book, near);
        }
        int shelf = histories.kept.spots[near] / PLACES;
        return what == 1 ? shelf / SHELVES : shelf % SHELVES;
    }

    public int close(int bay, int shelf) {
        boolean all = bay == NONE && shelf == NONE;
        if (!all && !isShelf(bay, shelf) || !histories.settleKept()) {
            return NONE;
        }
        if (!all) {
            return shelves.closeOn(bay * SHELVES + shelf);
        }
        int pairs = 0;
        for (int each = 0; each < BAYS * SHELVES; each++) {
            pairs += shelves.closeOn(each);
        }
        return pairs;
    }

    public int agree(int line, int book) {
        if (!now.hasLine(line) || !now.hasBook(book)) {
            return NOTHING;
        }
        return now.agreement(line, book);
    }

    public int match(int what) {
        if (what < 0 || what > 2) {
            return NONE;
        }
        matches.weighAll();
        if (what == 0) {
            return matches.bestSum;
        }
        return what == 1 ? matches.bestWays : Integer.bitCount(matches.given);
    }

    public int matched(int book, int what) {
        if (!now.hasBook(book) || what < 0 || what > 1) {
            return NONE;
        }
        matches.weighAll();
        if (what == 0) {
            return matches.lineOf[book];
        }
        return matches.sure[book] ? 2 : 1;
    }

    public int ours(int text, int book, int other) {
        if (!now.hasScheme(text) || !now.hasBook(book) || other != NONE && !now.hasBook(other)) {
            return NONE;
        }
        int own = oursOf(text, book);
        if (other == NONE) {
            return own;
        }
        int both = own + oursOf(text, other);
        return both == 0 ? 0 : own * 100 / both;
    }

    public int untrue(int text, int what, int i) {
        if (!now.hasScheme(text) || what < 0 || what > 1) {
            return NONE;
        }
        Scheme scheme = now.schemes[text];
        int found = 0;
        for (int book = 0; book < now.bookCount; book++) {
            if (asker.told(scheme, Scheme.HEAD_FALSE, now.facts, book * FACTS) != Asker.BROKEN) {
                if (what == 1 && found == i) {
                    return book;
                }
                found++;
            }
        }
        return what == 0 ? found : NONE;
    }

    public int twice(int what, int i) {
        if (what < 0 || what > 2) {
            return NONE;
        }
        int pairs = 0;
        for (int low = 0; low < now.bookCount; low++) {
            for (int high = low + 1; high < now.bookCount; high++) {
                if (now.sameMark(low, high)) {
                    if (what > 0 && pairs == i) {
                        return what == 1 ? low : high;
                    }
                    pairs++;
                }
            }
        }
        return what == 0 ? pairs : NONE;
    }

    public int stack(int book) {
        if (!now.hasBook(book)) {
            return refuse(ABSENT);
        }
        if (now.isStacked(book)) {
            return refuse(BARRED);
        }
        if (now.stackCount >= STACK) {
            return refuse(FULL);
        }
        now.stacked[now.stackCount] = book;
        now.stackCount++;
        stackRow.forgetAll();
        return accept(now.stackCount);
    }

    public int clear() {
        int had = now.stackCount;
        now.stackCount = 0;
        stackRow.forgetAll();
        return had;
    }

    public int beside(int i) {
        if (now.stackCount == 0 || i < NONE || i >= now.stackCount) {
            return NONE;
        }
        stackRow.layOut();
        return i == NONE ? stackRow.leastSum : stackRow.laid[i];
    }

    public int house(int house, int all, int looked, int cost) {
        if (!fits(HOUSE, house) || all < 0 || all > MOST_ALL || looked < 0 || looked > all
                || cost < 1 || cost > MOST_COST) {
            return refuse(WRONG);
        }
        now.alls[house] = all;
        now.looks[house] = looked;
        now.costs[house] = cost;
        return accept(0);
    }

    public int expect(int house) {
        if (!fits(HOUSE, house) || now.looks[house] == 0) {
            return NONE;
        }
        return now.foundTimesUnseen(house) * 100 / now.looks[house];
    }

    public int next() {
        int chosen = NONE;
        long most = 0;
        long by = 1;
        for (int house = 0; house < HOUSES; house++) {
            long expected = now.foundTimesUnseen(house);
            long price = (long) now.looks[house] * now.costs[house];
            // the fractions are compared crosswise, so that nothing is cut
            if (price > 0 && (chosen == NONE || expected * by > most * price)) {
                chosen = house;
                most = expected;
                by = price;
            }
        }
        return chosen;
    }

    public int left(int what) {
        if (what < 0 || what > 1) {
            return NONE;
        }
        matches.weighAll();
        int both = Integer.bitCount(matches.given);
        int marked = now.markedCount();
        if (what == 1) {
            return marked + now.lineCount - both;
        }
        return both == 0 ? NONE : marked * now.lineCount / both;
    }

    public int grew(int year, int years, int subject) {
        if (!fits(CAME, year) || years < 1 || years > LAST_YEAR + 1
                || subject != NONE && !fits(SUBJECT, subject)) {
            return NONE;
        }
        int grown = 0;
        for (int book = 0; book < now.bookCount; book++) {
            int came = now.factOf(book, CAME);
            boolean asked = subject == NONE || now.factOf(book, SUBJECT) == subject;
            if (asked && came >= year && came < year + years) {
                grown++;
            }
        }
        return grown;
    }

    public int scatter(int seed, int burn) {
        if (seed < 0 || seed > MOST_SEED || burn < 0 || burn > 100) {
            return refuse(WRONG);
        }
        return accept(world.spread(seed, burn, now.bookCount));
    }

    public int went(int book) {
        return world.houseOf(book);
    }

    public int together(int bay, int shelf) {
        if (!isShelf(bay, shelf) || !world.made || !histories.settleKept()) {
            return NONE;
        }
        return shelves.sharingHouses(bay * SHELVES + shelf, world.houses);
    }

    public int image(int k) {
        if (k < 0 || k >= IMAGES) {
            return refuse(WRONG);
        }
        if (images[k] == null) {
            images[k] = new Holdings();
        }
        images[k].takeOver(now);
        return accept(0);
    }

    public int back(int k) {
        if (k < 0 || k >= IMAGES) {
            return refuse(WRONG);
        }
        if (images[k] == null) {
            return refuse(ABSENT);
        }
        now.takeOver(images[k]);
        histories.forgetAll();
        matches.forgetAll();
        stackRow.forgetAll();
        return accept(0);
    }

    public int count(int what) {
        switch (what) {
            case 0:
                return now.bookCount;
            case 1:
                return now.markedCount();
            case 2:
                return now.schemeCount;
            case 3:
                return now.lineCount;
            case 4:
                return now.stackCount;
            case 5:
                return histories.settleKept() ? histories.kept.standing : 0;
            case 6:
                return tape.length;
            default:
                return refusalsAsked(what);
        }
    }

    public int status() {
        return latestRefusal;
    }

    private int refusalsAsked(int what) {
        switch (what) {
            case 7:
                return refusals[-WRONG];
            case 8:
                return refusals[-ABSENT];
            case 9:
                return refusals[-BARRED];
            case 10:
                return refusals[-FULL];
            case 11:
                return refusals[-UNREADABLE];
            default:
                return NONE;
        }
    }

    private int refuse(int why) {
        latestRefusal = why;
        refusals[-why]++;
        return why;
    }

    private int accept(int answer) {
        latestRefusal = 0;
        return answer;
    }

    private int addBook(int letter, int number, int came, int thick, int tall) {
        int book = now.bookCount;
        now.bookCount++;
        now.setFact(book, LETTER, letter);
        now.setFact(book, NUMBER, number);
        now.setFact(book, CAME, came);
        now.setFact(book, THICK, thick);
        now.setFact(book, TALL, tall);
        forgetBook(book);
        return book;
    }

    private boolean addFromTape(int at) {
        if (at + 5 > tape.length || now.bookCount >= BOOKS) {
            return false;
        }
        int letter = tape.bytes[at];
        int number = tape.bytes[at + 1];
        int came = tape.bytes[at + 2];
        int thick = tape.bytes[at + 3];
        int tall = tape.bytes[at + 4];
        if (!isMarkOrNone(letter, number) || !areBookNumbers(came, thick, tall)) {
            return false;
        }
        addBook(letter, number, came, thick, tall);
        return true;
    }

    private void forgetBook(int book) {
        histories.forgetBook(book);
        matches.forgetAll();
    }

    /** MATCHES are dear: only what they look at makes them anew. */
    private void forgetFact(int book, int fact) {
        histories.forgetBook(book);
        if (fact == THICK || fact == WORD || fact == SUBJECT) {
            matches.forgetAll();
        }
        if (fact == STAR || fact == DAMP) {
            stackRow.forgetAll();
        }
    }

    private int oursOf(int text, int book) {
        int told = asker.told(now.schemes[text], Scheme.HEAD_OURS, now.facts, book * FACTS);
        if (told == Asker.BROKEN || told < 0) {
            return 0;
        }
        return told > 1000 ? 1000 : told;
    }

    private static boolean fits(int fact, int value) {
        return fact >= 0 && fact < FACTS && value >= LEAST[fact] && value <= MOST[fact];
    }

    private static boolean isMarkOrNone(int letter, int number) {
        return letter == NONE && number == NONE || fits(LETTER, letter) && fits(NUMBER, number);
    }

    private static boolean areBookNumbers(int came, int thick, int tall) {
        return fits(CAME, came) && fits(THICK, thick) && fits(TALL, tall);
    }

    private static boolean isShelf(int bay, int shelf) {
        return bay >= 0 && bay < BAYS && shelf >= 0 && shelf < SHELVES;
    }

    private static boolean isTurn(int year) {
        return year >= 0 && year <= LAST_YEAR + 1;
    }

    private static int apart(int one, int other) {
        return one < other ? other - one : one - other;
    }

    /**
     * All that an IMAGE keeps, so that keeping one and going BACK is one copy. Rows are copied whole: those of
     * BOOKS and LINES that there are not yet stay 0, as a new one needs them.
     */
    private static final class Holdings {
        final int[] facts = new int[BOOKS * FACTS];
        final int[] sides = new int[BAYS];
        final int[] wides = new int[BAYS * SHELVES];
        final int[] highs = new int[BAYS * SHELVES];
        final Scheme[] schemes = new Scheme[TEXTS];
        final int[] lines = new int[LINES * FACTS];
        final int[] lists = new int[LINES];
        final int[] froms = new int[STARS];
        final int[] tos = new int[STARS];
        final int[] stacked = new int[STACK];
        final int[] alls = new int[HOUSES];
        final int[] looks = new int[HOUSES];
        final int[] costs = new int[HOUSES];
        int bookCount;
        int schemeCount;
        int lineCount;
        int stackCount;
        int first = NONE;
        int second = NONE;
        int year;

        Holdings() {
            Arrays.fill(wides, 100);
            Arrays.fill(highs, 40);
            Arrays.fill(tos, LAST_YEAR);
            Arrays.fill(costs, 1);
        }

        void takeOver(Holdings other) {
            copyRow(other.facts, facts);
            copyRow(other.sides, sides);
            copyRow(other.wides, wides);
            copyRow(other.highs, highs);
            copyRow(other.lines, lines);
            copyRow(other.lists, lists);
            copyRow(other.froms, froms);
            copyRow(other.tos, tos);
            copyRow(other.stacked, stacked);
            copyRow(other.alls, alls);
            copyRow(other.looks, looks);
            copyRow(other.costs, costs);
            for (int text = 0; text < TEXTS; text++) {
                schemes[text] = other.schemes[text];
            }
            bookCount = other.bookCount;
            schemeCount = other.schemeCount;
            lineCount = other.lineCount;
            stackCount = other.stackCount;
            first = other.first;
            second = other.second;
            year = other.year;
        }

        private static void copyRow(int[] from, int[] to) {
            System.arraycopy(from, 0, to, 0, Math.min(from.length, to.length));
        }

        boolean hasBook(int book) {
            return book >= 0 && book < bookCount;
        }

        boolean hasScheme(int text) {
            return text >= 0 && text < schemeCount && schemes[text] != null;
        }

        boolean hasLine(int line) {
            return line >= 0 && line < lineCount;
        }

        int factOf(int book, int fact) {
            return facts[book * FACTS + fact];
        }

        void setFact(int book, int fact, int value) {
            facts[book * FACTS + fact] = value;
        }

        boolean isMarked(int book) {
            return factOf(book, LETTER) != NONE;
        }

        int markedCount() {
            int marked = 0;
            for (int book = 0; book < bookCount; book++) {
                if (isMarked(book)) {
                    marked++;
                }
            }
            return marked;
        }

        boolean sameMark(int one, int other) {
            return isMarked(one) && factOf(one, LETTER) == factOf(other, LETTER)
                    && factOf(one, NUMBER) == factOf(other, NUMBER);
        }

        boolean hasMark(int letter, int number) {
            for (int book = 0; book < bookCount; book++) {
                if (factOf(book, LETTER) == letter && factOf(book, NUMBER) == number) {
                    return true;
                }
            }
            return false;
        }

        int greatestNumber(int letter) {
            int greatest = 0;
            for (int book = 0; book < bookCount; book++) {
                if (factOf(book, LETTER) == letter) {
                    greatest = Math.max(greatest, factOf(book, NUMBER));
                }
            }
            return greatest;
        }

        int booksWithLetter(int letter) {
            int found = 0;
            for (int book = 0; book < bookCount; book++) {
                if (factOf(book, LETTER) == letter) {
                    found++;
                }
            }
            return found;
        }

        boolean hasHoleAndLetter(int book, int letter) {
            return factOf(book, HOLE) != 0 && factOf(book, LETTER) == letter;
        }

        /** 1 if the greater NUMBER has the higher hole, -1 if the lower one, 0 if that can't be said. */
        int rise(int one, int other) {
            int numbers = Integer.compare(factOf(one, NUMBER), factOf(other, NUMBER));
            int heights = Integer.compare(factOf(one, HEIGHT), factOf(other, HEIGHT));
            return numbers * heights;
        }

        int sideOfYears(int book) {
            int star = factOf(book, STAR);
            int came = factOf(book, CAME);
            if (came < froms[star]) {
                return -1;
            }
            return came > tos[star] ? 1 : 0;
        }

        int dampApart(int one, int other) {
            return apart(factOf(one, DAMP), factOf(other, DAMP));
        }

        boolean isRight(int book, int seat) {
            int shelf = seat / PLACES;
            int side = sides[shelf / SHELVES];
            int hole = factOf(book, HOLE);
            boolean otherSide = side != 0 && hole != 0 && side != hole;
            return !otherSide && factOf(book, TALL) <= highs[shelf];
        }

        boolean isStacked(int book) {
            for (int at = 0; at < stackCount; at++) {
                if (stacked[at] == book) {
                    return true;
                }
            }
            return false;
        }

        int foundTimesUnseen(int house) {
            int found = 0;
            for (int book = 0; book < bookCount; book++) {
                if (factOf(book, HOUSE) == house) {
                    found++;
                }
            }
            return found * (alls[house] - looks[house]);
        }

        int lineFact(int line, int fact) {
            return lines[line * FACTS + fact];
        }

        boolean linesFight(int low, int high) {
            boolean bothMarked = lineFact(low, LETTER) != NONE && lineFact(high, LETTER) != NONE;
            if (lists[low] == lists[high] || !bothMarked) {
                return false;
            }
            boolean sameMark = lineFact(low, LETTER) == lineFact(high, LETTER)
                    && lineFact(low, NUMBER) == lineFact(high, NUMBER);
            return sameMark != (lineFact(low, WORD) == lineFact(high, WORD));
        }

        int agreement(int line, int book) {
            int by = 0;
            if (lineFact(line, WORD) == factOf(book, WORD)) {
                by += 8;
            }
            if (lineFact(line, SUBJECT) == factOf(book, SUBJECT)) {
                by += 3;
            }
            if (apart(lineFact(line, THICK), factOf(book, THICK)) <= 2) {
                by += 2;
            }
            if (lineFact(line, LETTER) == NONE || !isMarked(book)) {
                return by;
            }
            boolean same = lineFact(line, LETTER) == factOf(book, LETTER)
                    && lineFact(line, NUMBER) == factOf(book, NUMBER);
            return same ? by + 4 : by - 6;
        }
    }

    /** A TEXT as code for a machine with a heap of numbers; it never changes, so images share it. */
    private static final class Scheme {
        static final int HEAD_BAY = 0;
        static final int HEAD_SHELF = 1;
        static final int HEAD_PLACE = 2;
        static final int HEAD_OURS = 3;
        static final int HEAD_FALSE = 4;

        static final int CLAUSES = 12;

        static final int PUT_NUMBER = 0;
        static final int PUT_FACT = 1;
        static final int PLUS = 2;
        static final int MINUS = 3;
        static final int TIMES = 4;
        static final int THROUGH = 5;
        static final int BELOW = 6;
        static final int ABOVE = 7;
        static final int SAME = 8;
        static final int NOT = 9;
        static final int OR = 10;
        static final int AND = 11;
        /** A row of code is an instruction and this many times what it goes with. */
        static final int KINDS = 16;

        final int[] code;
        final int[] heads;
        /** Clause c: its SUM's code from bounds[2c], its TEST's from bounds[2c + 1] on to the next. */
        final int[] bounds;

        Scheme(int[] code, int[] heads, int[] bounds) {
            this.code = code;
            this.heads = heads;
            this.bounds = bounds;
        }
    }

    /** The TAPE, and how it is read: on a FAULT each method stays at the TOKEN that can't go on. */
    private static final class Tape {
        private static final int END = 0;
        private static final int LETTERS_ROW = 1;
        private static final int DIGITS_ROW = 2;
        private static final int SIGN = 3;

        private static final int MOST_PARTS = 50;
        private static final int MOST_BRACKETS = 8;
        private static final int MOST_NUMBER = 1000;

        final int[] bytes = new int[TAPE];
        int length;
        /** Where the TOKEN at hand begins. */
        int from;
        private final int[] code = new int[TAPE];
        private final int[] heads = new int[Scheme.CLAUSES];
        private final int[] bounds = new int[2 * Scheme.CLAUSES + 1];
        private int size;
        private int clauses;
        private int parts;
        private int kind;
        private int value;
        private int behind;

        void append(int four) {
            for (int shift = 24; shift >= 0; shift -= 8) {
                if (length < TAPE) {
                    bytes[length] = (four >>> shift) & 255;
                    length++;
                }
            }
        }

        /** Null on a FAULT: it is at from then. */
        Scheme readScheme() {
            size = 0;
            clauses = 0;
            parts = 0;
            behind = 0;
            advance();
            for (int n = 0; n < Scheme.CLAUSES; n++) {
                if (!readClause()) {
                    return null;
                }
                if (kind == END) {
                    return newScheme();
                }
                if (!isSign(';')) {
                    return null;
                }
                advance();
            }
            return null;
        }

        private Scheme newScheme() {
            bounds[2 * clauses] = size;
            return new Scheme(Arrays.copyOf(code, size), Arrays.copyOf(heads, clauses),
                    Arrays.copyOf(bounds, 2 * clauses + 1));
        }

        private void advance() {
            while (behind < length && bytes[behind] == ' ') {
                behind++;
            }
            from = behind;
            value = 0;
            if (from >= length) {
                kind = END;
            } else if (isLetter(bytes[from])) {
                kind = LETTERS_ROW;
                while (behind < length && isLetter(bytes[behind])) {
                    behind++;
                }
            } else if (isDigit(bytes[from])) {
                kind = DIGITS_ROW;
                while (behind < length && isDigit(bytes[behind])) {
                    // held just above the most, as a row of digits can be longer than an int
                    value = Math.min(value * 10 + bytes[behind] - '0', MOST_NUMBER + 1);
                    behind++;
                }
            } else {
                kind = SIGN;
                value = bytes[from];
                behind++;
            }
        }

        private static boolean isLetter(int sign) {
            return sign >= 'a' && sign <= 'z';
        }

        private static boolean isDigit(int sign) {
            return sign >= '0' && sign <= '9';
        }

        private boolean isSign(char sign) {
            return kind == SIGN && value == sign;
        }

        private boolean isWord(String word) {
            if (kind != LETTERS_ROW || behind - from != word.length()) {
                return false;
            }
            for (int i = 0; i < word.length(); i++) {
                if (bytes[from + i] != word.charAt(i)) {
                    return false;
                }
            }
            return true;
        }

        private void emit(int instruction, int with) {
            if (size < code.length) {
                code[size] = with * Scheme.KINDS + instruction;
                size++;
            }
        }

        private boolean readClause() {
            int head = headHere();
            if (head == NONE) {
                return false;
            }
            heads[clauses] = head;
            bounds[2 * clauses] = size;
            advance();
            if (head != Scheme.HEAD_FALSE && !readSum(0)) {
                return false;
            }
            bounds[2 * clauses + 1] = size;
            clauses++;
            if (!isWord("if")) {
                return true;
            }
            advance();
            return readTest(0);
        }

        private int headHere() {
            for (int head = Scheme.HEAD_BAY; head <= Scheme.HEAD_FALSE; head++) {
                if (isWord(headName(head))) {
                    return head;
                }
            }
            return NONE;
        }

        private static String headName(int head) {
            switch (head) {
                case Scheme.HEAD_BAY:
                    return "bay";
                case Scheme.HEAD_SHELF:
                    return "shelf";
                case Scheme.HEAD_PLACE:
                    return "place";
                case Scheme.HEAD_OURS:
                    return "ours";
                default:
                    return "false";
            }
        }

        private int factHere() {
            for (int fact = 0; fact < FACTS; fact++) {
                if (isWord(factName(fact))) {
                    return fact;
                }
            }
            return NONE;
        }

        private static String factName(int fact) {
            switch (fact) {
                case LETTER:
                    return "letter";
                case NUMBER:
                    return "number";
                case CAME:
                    return "came";
                case THICK:
                    return "thick";
                case TALL:
                    return "tall";
                case HOLE:
                    return "hole";
                case HEIGHT:
                    return "height";
                case STAR:
                    return "star";
                case DAMP:
                    return "damp";
                case WORD:
                    return "word";
                case SUBJECT:
                    return "subject";
                default:
                    return "house";
            }
        }

        private boolean readTest(int brackets) {
            if (!readBoth(brackets)) {
                return false;
            }
            for (int n = 0; n < TAPE && isWord("or"); n++) {
                int jump = size;
                emit(Scheme.OR, 0);
                advance();
                if (!readBoth(brackets)) {
                    return false;
                }
                patch(Scheme.OR, jump);
            }
            return true;
        }

        private boolean readBoth(int brackets) {
            if (!readPlain(brackets)) {
                return false;
            }
            for (int n = 0; n < TAPE && isWord("and"); n++) {
                int jump = size;
                emit(Scheme.AND, 0);
                advance();
                if (!readPlain(brackets)) {
                    return false;
                }
                patch(Scheme.AND, jump);
            }
            return true;
        }

        private void patch(int instruction, int jump) {
            if (jump < size) {
                code[jump] = size * Scheme.KINDS + instruction;
            }
        }

        private boolean readPlain(int brackets) {
            boolean turned = false;
            for (int n = 0; n < TAPE && isWord("not"); n++) {
                turned = !turned;
                advance();
            }
            if (isSign('(')) {
                if (!readBracketed(brackets)) {
                    return false;
                }
            } else {
                if (!readSum(brackets)) {
                    return false;
                }
                int comparison = comparisonHere();
                if (comparison == NONE) {
                    return false;
                }
                advance();
                if (!readSum(brackets)) {
                    return false;
                }
                emit(comparison, 0);
            }
            if (turned) {
                emit(Scheme.NOT, 0);
            }
            return true;
        }

        private int comparisonHere() {
            if (isSign('<')) {
                return Scheme.BELOW;
            }
            if (isSign('>')) {
                return Scheme.ABOVE;
            }
            return isSign('=') ? Scheme.SAME : NONE;
        }

        private boolean readBracketed(int brackets) {
            if (brackets >= MOST_BRACKETS) {
                return false;
            }
            advance();
            if (!readTest(brackets + 1) || !isSign(')')) {
                return false;
            }
            advance();
            return true;
        }

        private boolean readSum(int brackets) {
            if (!readTerm(brackets)) {
                return false;
            }
            for (int n = 0; n < TAPE && (isSign('+') || isSign('-')); n++) {
                int instruction = isSign('+') ? Scheme.PLUS : Scheme.MINUS;
                advance();
                if (!readTerm(brackets)) {
                    return false;
                }
                emit(instruction, 0);
            }
            return true;
        }

        private boolean readTerm(int brackets) {
            if (!readPart(brackets)) {
                return false;
            }
            for (int n = 0; n < TAPE && (isSign('*') || isSign('/')); n++) {
                int instruction = isSign('*') ? Scheme.TIMES : Scheme.THROUGH;
                advance();
                if (!readPart(brackets)) {
                    return false;
                }
                emit(instruction, 0);
            }
            return true;
        }

        private boolean readPart(int brackets) {
            if (isSign('[')) {
                return readBracketedSum(brackets);
            }
            boolean number = kind == DIGITS_ROW && value <= MOST_NUMBER;
            int fact = factHere();
            if (!number && fact == NONE || parts >= MOST_PARTS) {
                return false;
            }
            parts++;
            emit(number ? Scheme.PUT_NUMBER : Scheme.PUT_FACT, number ? value : fact);
            advance();
            return true;
        }

        private boolean readBracketedSum(int brackets) {
            if (brackets >= MOST_BRACKETS) {
                return false;
            }
            advance();
            if (!readSum(brackets + 1) || !isSign(']')) {
                return false;
            }
            advance();
            return true;
        }
    }

    /** Asks TEXTS of BOOKS. */
    private static final class Asker {
        /** No SUM reaches it, so it also says that a HEAD tells nothing. */
        static final int BROKEN = -2000000000;

        private static final long MOST_VALUE = 1000000000L;
        private static final int HEAP = 64;

        private final int[] heap = new int[HEAP];

        int told(Scheme scheme, int head, int[] facts, int book) {
            if (scheme == null) {
                return BROKEN;
            }
            for (int clause = scheme.heads.length - 1; clause >= 0; clause--) {
                if (scheme.heads[clause] == head) {
                    int sum = scheme.bounds[2 * clause];
                    int test = scheme.bounds[2 * clause + 1];
                    int behind = scheme.bounds[2 * clause + 2];
                    if (reckonAll(scheme.code, test, behind, facts, book) == 1) {
                        int value = reckonAll(scheme.code, sum, test, facts, book);
                        if (value != BROKEN) {
                            return value;
                        }
                    }
                }
            }
            return BROKEN;
        }

        /** Code that isn't there (no "if", the SUM of "false") answers 1: it is so. */
        private int reckonAll(int[] code, int from, int to, int[] facts, int book) {
            int high = -1;
            for (int at = from; at < to; at++) {
                int kind = code[at] % Scheme.KINDS;
                int with = code[at] / Scheme.KINDS;
                if (kind == Scheme.PUT_NUMBER || kind == Scheme.PUT_FACT) {
                    high++;
                    if (high >= HEAP) {
                        return BROKEN;
                    }
                    heap[high] = kind == Scheme.PUT_NUMBER ? with : facts[book + with];
                } else if (high < 0) {
                    return BROKEN;
                } else if (kind == Scheme.NOT) {
                    heap[high] = 1 - heap[high];
                } else if (kind == Scheme.OR || kind == Scheme.AND) {
                    boolean settled = heap[high] == (kind == Scheme.OR ? 1 : 0);
                    at = settled ? Math.max(at, with - 1) : at;
                    high = settled ? high : high - 1;
                } else if (high < 1) {
                    return BROKEN;
                } else {
                    high--;
                    heap[high] = reckon(kind, heap[high], heap[high + 1]);
                    if (heap[high] == BROKEN) {
                        return BROKEN;
                    }
                }
            }
            return high < 0 ? 1 : heap[high];
        }

        private static int reckon(int kind, int one, int other) {
            long made;
            switch (kind) {
                case Scheme.PLUS:
                    made = (long) one + other;
                    break;
                case Scheme.MINUS:
                    made = (long) one - other;
                    break;
                case Scheme.TIMES:
                    made = (long) one * other;
                    break;
                case Scheme.THROUGH:
                    if (other == 0) {
                        return BROKEN;
                    }
                    made = one / other;
                    break;
                case Scheme.BELOW:
                    return one < other ? 1 : 0;
                case Scheme.ABOVE:
                    return one > other ? 1 : 0;
                default:
                    return one == other ? 1 : 0;
            }
            return made > MOST_VALUE || made < -MOST_VALUE ? BROKEN : (int) made;
        }
    }

    /** How each BOOK is in one HISTORY. */
    private static final class Standing {
        final int[] hows = new int[BOOKS];
        final int[] spots = new int[BOOKS];
        /** THICK together of those on each SHELF. */
        final int[] loads = new int[BAYS * SHELVES];
        int standing;
    }

    /** SEATS are numbered by BAY, SHELF and PLACE, so that the order of numbers is that of PLACES. */
    private static final class Histories {
        private static final int SEATS = BAYS * SHELVES * PLACES;

        private final Holdings now;
        private final Asker asker;
        private final int[] seats = new int[TEXTS * BOOKS];
        private final boolean[] asked = new boolean[TEXTS * BOOKS];
        private final int[] rights = new int[TEXTS * BOOKS];
        private final int[] held = new int[SEATS];
        private final int[] byYears = new int[BOOKS];
        private final int[] bests = new int[5];
        private final Standing tried = new Standing();
        private boolean keptSettled;
        private boolean bestKnown;
        final Standing kept = new Standing();

        Histories(Holdings now, Asker asker) {
            this.now = now;
            this.asker = asker;
        }

        void forgetStanding() {
            keptSettled = false;
            bestKnown = false;
        }

        void forgetBook(int book) {
            for (int text = 0; text < TEXTS; text++) {
                asked[text * BOOKS + book] = false;
            }
            forgetStanding();
        }

        void forgetScheme(int text) {
            for (int book = 0; book < BOOKS; book++) {
                asked[text * BOOKS + book] = false;
            }
            forgetStanding();
        }

        void forgetAll() {
            for (int text = 0; text < TEXTS; text++) {
                forgetScheme(text);
            }
        }

        int seatOf(int text, int book) {
            int at = text * BOOKS + book;
            if (!asked[at]) {
                asked[at] = true;
                seats[at] = NONE;
                if (now.isMarked(book)) {
                    Scheme scheme = now.schemes[text];
                    int bay = asker.told(scheme, Scheme.HEAD_BAY, now.facts, book * FACTS);
                    int shelf = asker.told(scheme, Scheme.HEAD_SHELF, now.facts, book * FACTS);
                    int place = asker.told(scheme, Scheme.HEAD_PLACE, now.facts, book * FACTS);
                    seats[at] = seatNumber(bay, shelf == Asker.BROKEN ? 0 : shelf, place);
                }
            }
            return seats[at];
        }

        private static int seatNumber(int bay, int shelf, int place) {
            if (!isShelf(bay, shelf) || place < 1 || place > PLACES) {
                return NONE;
            }
            return (bay * SHELVES + shelf) * PLACES + place - 1;
        }

        int standingIn(int first, int second, int year) {
            settle(tried, first, second, year);
            return tried.standing;
        }

        /** False, if no HISTORY is KEPT. */
        boolean settleKept() {
            if (now.first == NONE) {
                return false;
            }
            if (!keptSettled) {
                settle(kept, now.first, now.second, now.year);
                keptSettled = true;
            }
            return true;
        }

        private void settle(Standing standing, int first, int second, int year) {
            standing.standing = 0;
            Arrays.fill(standing.loads, 0);
            for (int book = 0; book < now.bookCount; book++) {
                int scheme = now.factOf(book, CAME) < year ? first : second;
                int seat = seatOf(scheme, book);
                standing.spots[book] = seat;
                standing.hows[book] = howAt(book, seat);
                if (standing.hows[book] == STANDS) {
                    held[seat] = 1;
                    standing.standing++;
                    standing.loads[seat / PLACES] += now.factOf(book, THICK);
                }
            }
            for (int book = 0; book < now.bookCount; book++) {
                if (standing.hows[book] == STANDS) {
                    held[standing.spots[book]] = 0;
                }
            }
        }

        private int howAt(int book, int seat) {
            if (!now.isMarked(book)) {
                return MARKLESS;
            }
            if (seat == NONE) {
                return SEATLESS;
            }
            if (!now.isRight(book, seat)) {
                return UNRIGHT;
            }
            return held[seat] > 0 ? SECOND_THERE : STANDS;
        }

        int bestOf(int what) {
            if (!bestKnown) {
                weighAllPairs();
                bestKnown = true;
            }
            return bests[what];
        }

        private void weighAllPairs() {
            Arrays.fill(bests, NONE);
            sortByYears();
            for (int text = 0; text < now.schemeCount; text++) {
                for (int book = 0; book < now.bookCount; book++) {
                    int seat = seatOf(text, book);
                    boolean right = seat != NONE && now.isRight(book, seat);
                    rights[text * BOOKS + book] = right ? seat : NONE;
                }
            }
            for (int first = 0; first < now.schemeCount; first++) {
                for (int second = 0; second < now.schemeCount; second++) {
                    weighPair(first, second);
                }
            }
        }

        private void sortByYears() {
            for (int book = 0; book < now.bookCount; book++) {
                int at = book;
                while (at > 0 && now.factOf(byYears[at - 1], CAME) > now.factOf(book, CAME)) {
                    byYears[at] = byYears[at - 1];
                    at--;
                }
                byYears[at] = book;
            }
        }

        /**
         * On each SEAT that is RIGHT for a BOOK exactly one STANDS, so it is enough to count such SEATS
         * while the YEAR goes up and BOOKS go over from the second SCHEME to the first.
         */
        private void weighPair(int first, int second) {
            int standing = 0;
            for (int book = 0; book < now.bookCount; book++) {
                standing += enter(rights[second * BOOKS + book]);
            }
            int year = 0;
            for (int i = 0; i < now.bookCount; i++) {
                int book = byYears[i];
                int turn = now.factOf(book, CAME) + 1;
                if (turn > year) {
                    weighYears(first, second, year, turn - year, standing);
                    year = turn;
                }
                standing -= leave(rights[second * BOOKS + book]);
                standing += enter(rights[first * BOOKS + book]);
            }
            weighYears(first, second, year, LAST_YEAR + 2 - year, standing);
            for (int book = 0; book < now.bookCount; book++) {
                leave(rights[first * BOOKS + book]);
            }
        }

        private int enter(int seat) {
            if (seat == NONE) {
                return 0;
            }
            held[seat]++;
            return held[seat] == 1 ? 1 : 0;
        }

        private int leave(int seat) {
            if (seat == NONE) {
                return 0;
            }
            held[seat]--;
            return held[seat] == 0 ? 1 : 0;
        }

        private void weighYears(int first, int second, int year, int years, int standing) {
            if (standing > bests[0]) {
                bests[0] = standing;
                bests[1] = first;
                bests[2] = second;
                bests[3] = year;
                bests[4] = years;
            } else if (standing == bests[0]) {
                bests[4] += years;
            }
        }
    }

    /** SHELVES (numbered through all BAYS) of the KEPT HISTORY; it has been settled ahead of each call. */
    private static final class Shelves {
        private final Holdings now;
        private final Standing kept;
        private final int[] there = new int[BOOKS];

        Shelves(Holdings now, Standing kept) {
            this.now = now;
            this.kept = kept;
        }

        private boolean standsOn(int book, int shelf) {
            return kept.hows[book] == STANDS && kept.spots[book] / PLACES == shelf;
        }

        /** Puts those on a SHELF into a row by PLACES: how many they are. */
        private int lineUp(int shelf) {
            int size = 0;
            for (int book = 0; book < now.bookCount; book++) {
                if (standsOn(book, shelf)) {
                    int at = size;
                    while (at > 0 && kept.spots[there[at - 1]] > kept.spots[book]) {
                        there[at] = there[at - 1];
                        at--;
                    }
                    there[at] = book;
                    size++;
                }
            }
            return size;
        }

        private int placeOf(int i) {
            return kept.spots[there[i]] % PLACES + 1;
        }

        int bookAt(int shelf, int i) {
            int size = lineUp(shelf);
            return i >= 0 && i < size ? there[i] : NONE;
        }

        int freeOf(int shelf) {
            return now.wides[shelf] - kept.loads[shelf];
        }

        int gapsTogether(int shelf, int what) {
            int size = lineUp(shelf);
            int gaps = 0;
            int places = 0;
            int behind = 1;
            for (int i = 0; i < size; i++) {
                int place = placeOf(i);
                if (place > behind) {
                    gaps++;
                    places += place - behind;
                }
                behind = place + 1;
            }
            return what == 0 ? gaps : places;
        }

        int gapOf(int shelf, int asked, int what) {
            int size = lineUp(shelf);
            int gaps = 0;
            int behind = 1;
            for (int i = 0; i < size; i++) {
                int place = placeOf(i);
                if (place > behind) {
                    if (gaps == asked) {
                        return what == 0 ? behind : place - behind;
                    }
                    gaps++;
                }
                behind = place + 1;
            }
            return NONE;
        }

        int closeOn(int shelf) {
            int size = lineUp(shelf);
            int pairs = 0;
            for (int i = 1; i < size; i++) {
                if (now.dampApart(there[i - 1], there[i]) <= 1) {
                    pairs++;
                }
            }
            return pairs;
        }

        int nearestTo(int book) {
            if (kept.hows[book] == STANDS) {
                return NONE;
            }
            int near = NONE;
            int least = 0;
            for (int other = 0; other < now.bookCount; other++) {
                if (kept.hows[other] == STANDS && hasRoomBeside(other, book)) {
                    int distance = 2 * now.dampApart(book, other);
                    if (now.factOf(book, STAR) != now.factOf(other, STAR)) {
                        distance++;
                    }
                    if (near == NONE || distance < least) {
                        near = other;
                        least = distance;
                    }
                }
            }
            return near;
        }

        private boolean hasRoomBeside(int standing, int book) {
            return freeOf(kept.spots[standing] / PLACES) >= now.factOf(book, THICK);
        }

        int sharingHouses(int shelf, int[] houses) {
            int size = lineUp(shelf);
            int sharing = 0;
            for (int i = 0; i < size; i++) {
                if (sharesHouse(i, size, houses)) {
                    sharing++;
                }
            }
            return sharing;
        }

        private boolean sharesHouse(int i, int size, int[] houses) {
            int house = houses[there[i]];
            for (int other = 0; other < size; other++) {
                if (other != i && house != NONE && houses[there[other]] == house) {
                    return true;
                }
            }
            return false;
        }
    }

    /**
     * Worths of LINES and BOOKS, never below 0 nor, of a pair, below what it AGREES by, and in all as low as
     * can be (found LINE by LINE along the cheapest way to another place). Then a MATCH is BEST exactly if its
     * pairs AGREE by both worths and none that is worth more than 0 is without.
     */
    private static final class Worths {
        private static final int NEVER = -1000;
        private static final int FAR = 1000000;
        /** Behind the BOOKS stand places for LINES without one; one more than LINES, so one stays free. */
        private static final int PLACES_FOR_LINES = BOOKS + LINES + 1;

        private final int[] ofLine = new int[LINES + 1];
        private final int[] ofPlace = new int[PLACES_FOR_LINES + 1];
        private final int[] taker = new int[PLACES_FOR_LINES + 1];
        private final int[] before = new int[PLACES_FOR_LINES + 1];
        private final int[] over = new int[PLACES_FOR_LINES + 1];
        private final boolean[] seen = new boolean[PLACES_FOR_LINES + 1];
        private final int[] agreements = new int[(LINES + 1) * (PLACES_FOR_LINES + 1)];
        private int places;

        int agreementOf(int line, int book) {
            return agreements[(line + 1) * (PLACES_FOR_LINES + 1) + book + 1];
        }

        boolean isWorth(int line) {
            return ofLine[line + 1] > 0;
        }

        boolean canBeBest(int line, int book) {
            return agreementOf(line, book) == ofLine[line + 1] + ofPlace[book + 1];
        }

        void weighWorths(Holdings now) {
            places = now.bookCount + now.lineCount + 1;
            Arrays.fill(ofLine, 0);
            Arrays.fill(ofPlace, 0);
            Arrays.fill(taker, 0);
            for (int line = 1; line <= now.lineCount; line++) {
                int row = line * (PLACES_FOR_LINES + 1);
                for (int place = 1; place <= places; place++) {
                    int by = place <= now.bookCount ? now.agreement(line - 1, place - 1) : 0;
                    agreements[row + place] = by < 0 ? NEVER : by;
                }
            }
            for (int line = 1; line <= now.lineCount; line++) {
                placeLine(line);
            }
        }

        private void placeLine(int line) {
            for (int place = 0; place <= places; place++) {
                over[place] = FAR;
                seen[place] = false;
            }
            int at = 0;
            taker[0] = line;
            for (int n = 0; n <= places && taker[at] != 0; n++) {
                at = goOn(at);
            }
            for (int n = 0; n <= places && at != 0; n++) {
                taker[at] = taker[before[at]];
                at = before[at];
            }
        }

        /** Lets worths change until a pair with one that was seen AGREES by them: its place. */
        private int goOn(int at) {
            seen[at] = true;
            int line = taker[at];
            int row = line * (PLACES_FOR_LINES + 1);
            int nearest = 0;
            int least = FAR;
            for (int place = 1; place <= places; place++) {
                if (!seen[place]) {
                    int above = ofLine[line] + ofPlace[place] - agreements[row + place];
                    if (above < over[place]) {
                        over[place] = above;
                        before[place] = at;
                    }
                    if (over[place] < least) {
                        least = over[place];
                        nearest = place;
                    }
                }
            }
            for (int place = 0; place <= places; place++) {
                if (seen[place]) {
                    ofLine[taker[place]] -= least;
                    ofPlace[place] += least;
                } else {
                    over[place] -= least;
                }
            }
            return nearest;
        }
    }

    /**
     * BEST MATCHES, BOOK by BOOK from the last to the first, by sets of LINES (as bits) that BOOKS ahead
     * have taken; then forward along what is BEST for the FIRST and for what is sure. Worths tell which pairs
     * can be in a BEST one at all, so that few sets are left to look at.
     */
    private static final class Matches {
        private static final int MOST_WAYS = 1000000000;
        private static final int NO_LINE = 1 << LINES;
        private static final int MOST_TOGETHER = 30 * LINES;
        /** Below any sum: from here on no BEST MATCH can be. */
        private static final int DEAD = -1000000;

        private final Holdings now;
        private final Worths worths = new Worths();
        /** For each BOOK the LINES that it has in some BEST MATCH, if at all. */
        private final int[] usable = new int[BOOKS];
        /** For each BOOK the LINES that BOOKS ahead of it may have taken, and those they must have. */
        private final int[] mayBe = new int[BOOKS + 1];
        private final int[] mustBe = new int[BOOKS + 1];
        /** Of the BOOK at hand: those LINES, and by how much they AGREE. */
        private final int[] bits = new int[LINES];
        private final int[] weights = new int[LINES];
        private final int[] byThick = new int[MOST_TOGETHER + 1];
        private int[] sums = new int[0];
        private int[] ways = new int[0];
        private boolean[] reached = new boolean[0];
        /** For each BOOK and set the LINES that are BEST for it there (NO_LINE: none). */
        private short[] choices = new short[0];
        private boolean known;
        final int[] lineOf = new int[BOOKS];
        final boolean[] sure = new boolean[BOOKS];
        int given;
        int bestSum;
        int bestWays;

        Matches(Holdings now) {
            this.now = now;
        }

        void forgetAll() {
            known = false;
        }

        void weighAll() {
            if (known) {
                return;
            }
            known = true;
            makeRoom(1 << now.lineCount);
            worths.weighWorths(now);
            lookAhead();
            lookBehind();
            beginBehindAll();
            for (int book = now.bookCount - 1; book >= 0; book--) {
                if (usable[book] != 0) {
                    weighBook(book);
                }
            }
            bestSum = sums[0];
            bestWays = ways[0];
            takeFirst();
            findSure();
        }

        /** Room grows with the LINES: most libraries have few, and all room of a run is counted. */
        private void makeRoom(int sets) {
            if (sums.length < sets) {
                sums = new int[sets];
                ways = new int[sets];
                reached = new boolean[sets];
                choices = new short[sets * BOOKS];
            }
        }

        private void lookAhead() {
            mayBe[0] = 0;
            for (int book = 0; book < now.bookCount; book++) {
                usable[book] = 0;
                for (int line = 0; line < now.lineCount; line++) {
                    if (worths.canBeBest(line, book)) {
                        usable[book] |= 1 << line;
                    }
                }
                mayBe[book + 1] = mayBe[book] | usable[book];
            }
        }

        private void lookBehind() {
            int must = 0;
            for (int line = 0; line < now.lineCount; line++) {
                if (worths.isWorth(line)) {
                    must |= 1 << line;
                }
            }
            mustBe[now.bookCount] = must;
            for (int book = now.bookCount - 1; book >= 0; book--) {
                mustBe[book] = mustBe[book + 1] & ~usable[book];
            }
        }

        /** The LINES of which sets ahead of a BOOK may have one or not. */
        private int openAt(int book) {
            return mayBe[book] & ~mustBe[book];
        }

        private void beginBehindAll() {
            int must = mustBe[now.bookCount];
            int open = openAt(now.bookCount);
            int part = 0;
            for (int n = 1 << Integer.bitCount(open); n > 0; n--) {
                sums[must | part] = 0;
                ways[must | part] = 1;
                reached[must | part] = false;
                part = (part - open) & open;
            }
        }

        private void weighBook(int book) {
            int size = listUsable(book);
            int must = mustBe[book];
            int open = openAt(book);
            int row = book << now.lineCount;
            int part = 0;
            // upwards: sets with more LINES are still as the BOOK behind left them
            for (int n = 1 << Integer.bitCount(open); n > 0; n--) {
                int set = must | part;
                choices[row + set] = (short) weighSet(set, size, mustBe[book + 1]);
                reached[set] = false;
                part = (part - open) & open;
            }
        }

        private int listUsable(int book) {
            int size = 0;
            for (int line = 0; line < now.lineCount; line++) {
                if ((usable[book] & 1 << line) != 0) {
                    bits[size] = 1 << line;
                    weights[size] = worths.agreementOf(line, book);
                    size++;
                }
            }
            return size;
        }

        private int weighSet(int set, int size, int must) {
            boolean passes = (set & must) == must;
            int most = passes ? sums[set] : DEAD;
            int found = passes ? ways[set] : 0;
            int best = passes ? NO_LINE : 0;
            for (int i = 0; i < size; i++) {
                int bit = bits[i];
                int with = set | bit;
                if (with != set && (with & must) == must) {
                    int sum = weights[i] + sums[with];
                    if (sum > most) {
                        most = sum;
                        found = ways[with];
                        best = bit;
                    } else if (sum == most) {
                        found = Math.min(found + ways[with], MOST_WAYS);
                        best |= bit;
                    }
                }
            }
            sums[set] = most;
            ways[set] = found;
            return best;
        }

        private int bestFor(int book, int set) {
            return usable[book] == 0 ? NO_LINE : choices[(book << now.lineCount) + set];
        }

        private void takeFirst() {
            given = 0;
            for (int book = 0; book < now.bookCount; book++) {
                lineOf[book] = lowestLine(bestFor(book, given));
                if (lineOf[book] != NONE) {
                    given |= 1 << lineOf[book];
                }
            }
        }

        private int lowestLine(int best) {
            for (int line = 0; line < now.lineCount; line++) {
                if ((best & 1 << line) != 0) {
                    return line;
                }
            }
            return NONE;
        }

        private void findSure() {
            reached[0] = true;
            for (int book = 0; book < now.bookCount; book++) {
                sure[book] = usable[book] == 0 || Integer.bitCount(goOver(book)) == 1;
            }
        }

        /** From the sets that BEST MATCHES reach ahead of a BOOK to those behind it: all that it takes. */
        private int goOver(int book) {
            int must = mustBe[book];
            int open = openAt(book);
            int part = open;
            int taken = 0;
            // downwards, as a BOOK only adds to a set: what is set anew has been looked at
            for (int n = 1 << Integer.bitCount(open); n > 0; n--) {
                int set = must | part;
                if (reached[set]) {
                    int best = bestFor(book, set);
                    taken |= best;
                    reached[set] = (best & NO_LINE) != 0;
                    for (int line = 0; line < now.lineCount; line++) {
                        if ((best & 1 << line) != 0) {
                            reached[set | 1 << line] = true;
                        }
                    }
                }
                part = (part - 1) & open;
            }
            return taken;
        }

        /** Sets of MISSING LINES (all with one LINE, if it isn't NONE) that fill so much; weighed ahead. */
        int countMissingSets(int free, int slack, int line) {
            if (line != NONE && (given & 1 << line) != 0) {
                return 0;
            }
            Arrays.fill(byThick, 0);
            byThick[line == NONE ? 0 : now.lineFact(line, THICK)] = 1;
            for (int missing = 0; missing < now.lineCount; missing++) {
                if (missing != line && (given & 1 << missing) == 0) {
                    addToSets(now.lineFact(missing, THICK));
                }
            }
            int sets = 0;
            for (int thick = Math.max(0, free - slack); thick <= Math.min(free, MOST_TOGETHER); thick++) {
                sets += byThick[thick];
            }
            return sets;
        }

        private void addToSets(int thick) {
            for (int together = MOST_TOGETHER; together >= thick; together--) {
                byThick[together] += byThick[together - thick];
            }
        }
    }

    /** The ROW of the STACK: by sets of those laid (as bits) and the last of them, what the rest costs. */
    private static final class StackRow {
        private static final int SETS = 1 << STACK;

        private final Holdings now;
        private final int[] sorted = new int[STACK];
        private final int[] steps = new int[STACK * STACK];
        private final int[] rests = new int[SETS * STACK];
        private boolean known;
        final int[] laid = new int[STACK];
        int leastSum;

        StackRow(Holdings now) {
            this.now = now;
        }

        void forgetAll() {
            known = false;
        }

        void layOut() {
            if (known) {
                return;
            }
            known = true;
            sortStack();
            measureSteps();
            for (int set = (1 << now.stackCount) - 1; set > 0; set--) {
                for (int last = 0; last < now.stackCount; last++) {
                    if ((set & 1 << last) != 0) {
                        int following = cheapestAfter(set, last);
                        rests[set * STACK + last] = following == NONE ? 0 : costOf(set, last, following);
                    }
                }
            }
            takeFirstRow();
        }

        private void sortStack() {
            for (int i = 0; i < now.stackCount; i++) {
                int at = i;
                while (at > 0 && sorted[at - 1] > now.stacked[i]) {
                    sorted[at] = sorted[at - 1];
                    at--;
                }
                sorted[at] = now.stacked[i];
            }
        }

        private void measureSteps() {
            for (int one = 0; one < now.stackCount; one++) {
                for (int other = 0; other < now.stackCount; other++) {
                    boolean alike = now.factOf(sorted[one], STAR) == now.factOf(sorted[other], STAR);
                    steps[one * STACK + other] = now.dampApart(sorted[one], sorted[other]) + (alike ? 0 : 2);
                }
            }
        }

        private int costOf(int set, int last, int following) {
            return steps[last * STACK + following] + rests[(set | 1 << following) * STACK + following];
        }

        /** The lowest of the cheapest ones that can follow; NONE, if all are laid. */
        private int cheapestAfter(int set, int last) {
            int cheapest = NONE;
            int least = 0;
            for (int following = 0; following < now.stackCount; following++) {
                if ((set & 1 << following) == 0) {
                    int cost = costOf(set, last, following);
                    if (cheapest == NONE || cost < least) {
                        cheapest = following;
                        least = cost;
                    }
                }
            }
            return cheapest;
        }

        private void takeFirstRow() {
            int last = 0;
            for (int begin = 1; begin < now.stackCount; begin++) {
                if (rests[(1 << begin) * STACK + begin] < rests[(1 << last) * STACK + last]) {
                    last = begin;
                }
            }
            leastSum = rests[(1 << last) * STACK + last];
            int set = 0;
            for (int i = 0; i < now.stackCount && last != NONE; i++) {
                laid[i] = sorted[last];
                set |= 1 << last;
                last = cheapestAfter(set, last);
            }
        }
    }

    private static final class World {
        final int[] houses = new int[BOOKS];
        boolean made;
        private int drawn;

        World() {
            Arrays.fill(houses, NONE);
        }

        int spread(int seed, int burn, int books) {
            made = true;
            drawn = seed;
            Arrays.fill(houses, NONE);
            int burnt = 0;
            for (int book = 0; book < books; book++) {
                if (draw(100) < burn) {
                    burnt++;
                } else {
                    houses[book] = draw(HOUSES);
                }
            }
            return burnt;
        }

        /** BACK leaves the WORLD as it is, so this asks for a BOOK that was in it, not one that there is now. */
        int houseOf(int book) {
            return book >= 0 && book < BOOKS ? houses[book] : NONE;
        }

        private int draw(int n) {
            drawn = (drawn * 1103 + 12345) % 1000003;
            return drawn % n;
        }
    }
}
