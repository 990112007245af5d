/**
 * Bells that tell the hour by how often each of them strikes, in a wind in which only some of them are heard.
 * The document's promises say what each call answers; README.md says how the file is laid out.
 */
public final class AnyTwoBells {
    public static final int BAD = -1, NOT = -2, FULL = -3, STATE = -5, VOID = -2000000000;

    private static final int NOTHING_THERE = -11, ANOTHER_KIND = -12, NO_SUCH_PLACE = -13, SIZE_BELOW_ZERO = -14;

    private static final int BELLS_AT_MOST = 6, HOURS_AT_MOST = 24, HOURS_AT_FIRST = 12, HEARD_AT_FIRST = 2;
    private static final int STROKES_AT_MOST = 15, COST_AT_MOST = 99, HUNDRED = 100;
    private static final int NOT_HEARD = -1;
    private static final int ROWS_OF_A_NIGHT = 12, ROWS_MORE_AT_MOST = 24;
    private static final int CHANGES_KEPT = 40;

    private final Tower tower = new Tower();
    private final Changes changes = new Changes();
    private final LawReader tape = new LawReader();
    private final Telling telling = new Telling(tower);
    private final Search search = new Search(tower);
    private final Ear ear = new Ear(tower);
    private final Acts acts = new Acts();
    private final Shelves shelves = new Shelves();

    public AnyTwoBells() {
    }

    // ---- bells, the table

    public int bell(int most, int cl) {
        if (most < 1 || most > STROKES_AT_MOST) {
            return BAD;
        }
        if (cl < 0 || cl / 1000 > COST_AT_MOST || cl % 1000 > HUNDRED) {
            return BAD;
        }
        if (tower.bells >= BELLS_AT_MOST) {
            return FULL;
        }
        return tower.addBell(most, cl / 1000, cl % 1000);
    }

    public int set(int what, int v) {
        if (what == 0 && v >= 2 && v <= HOURS_AT_MOST) {
            int before = tower.hours;
            tower.changeHours(v);
            changes.forgetAll();
            return before;
        }
        if (what == 1 && v >= 1 && v <= BELLS_AT_MOST) {
            int before = tower.heard;
            tower.heard = v;
            return before;
        }
        return BAD;
    }

    public int strike(int hb, int v) {
        if (!tower.hasCell(hb) || !tower.mayStrike(hb % 10, v)) {
            return BAD;
        }
        int before = tower.struck(hb / 10, hb % 10);
        if (v != before) {
            tower.write(hb / 10, hb % 10, v);
            changes.note(hb, before, v);
        }
        return before;
    }

    public int strikes(int shelf, int i, int bell, int n) {
        if (!shelves.hasShelf(shelf) || !tower.hasBell(bell) || n < 1 || n > tower.hours) {
            return BAD;
        }
        if (!shelves.isBare(shelf) && !shelves.holdsBytes(shelf)) {
            return ANOTHER_KIND;
        }
        int came = 0;
        while (came < n && shelves.hasPlace(shelf, i + came) && tower.mayStrike(bell, shelves.at(shelf, i + came))) {
            tower.write(came, bell, (int) shelves.at(shelf, i + came));
            came++;
        }
        if (came > 0) {
            changes.forgetAll();
        }
        return came;
    }

    public int most(int bell, int v) {
        if (!tower.hasBell(bell) || v < 1 || v > STROKES_AT_MOST || v < tower.greatestOf(bell)) {
            return BAD;
        }
        int before = tower.mostOf[bell];
        if (v != before) {
            tower.mostOf[bell] = v;
            changes.note(Changes.MOST_OF + bell, before, v);
        }
        return before;
    }

    public int mix(int gh, int is) {
        if (!tower.hasPair(gh) || is < 0 || is > 1) {
            return BAD;
        }
        int before = tower.areMixed(gh / 100, gh % 100) ? 1 : 0;
        tower.makeMixed(gh / 100, gh % 100, is == 1);
        return before;
    }

    public int feed(int letter) {
        if (letter < 0 || letter > 255) {
            return BAD;
        }
        return tape.add(letter) ? tape.length : FULL;
    }

    public int law() {
        int fault = tape.readAll();
        return fault < 0 ? 1 : -100 - fault;
    }

    public int lay() {
        for (int hour = 0; hour < tower.hours; hour++) {
            for (int bell = 0; bell < tower.bells; bell++) {
                int given = givenByLaw(hour, bell);
                tower.write(hour, bell, Math.max(0, Math.min(tower.mostOf[bell], given)));
            }
        }
        changes.forgetAll();
        return tower.totalOfAll();
    }

    public int line(int bell, int acg) {
        int a = acg / 10000;
        int c = acg / 100 % 100;
        int g = acg % 100;
        if (!tower.hasBell(bell) || acg < 0 || a > 99 || g < 2 || g > 16) {
            return BAD;
        }
        for (int hour = 0; hour < tower.hours; hour++) {
            tower.write(hour, bell, Math.min(tower.mostOf[bell], (a * hour + c) % g));
        }
        changes.forgetAll();
        return tower.totalOfBell(bell);
    }

    public int sum(int bell, int de) {
        int d = de / 10;
        int e = de % 10;
        if (!tower.hasBell(bell) || de < 0 || !tower.hasBell(d) || !tower.hasBell(e)) {
            return BAD;
        }
        if (d == e || d == bell || e == bell) {
            return BAD;
        }
        for (int hour = 0; hour < tower.hours; hour++) {
            int both = tower.struck(hour, d) + tower.struck(hour, e);
            tower.write(hour, bell, both % (tower.mostOf[bell] + 1));
        }
        changes.forgetAll();
        return tower.totalOfBell(bell);
    }

    public int of(int number, int what) {
        switch (what) {
            case 0:
                return tower.hasBell(number) ? tower.mostOf[number] : BAD;
            case 1:
                return tower.hasBell(number) ? tower.costOf[number] : BAD;
            case 2:
                return tower.hasBell(number) ? tower.lostOf[number] : BAD;
            case 10:
                return tower.hasCell(number) ? tower.struck(number / 10, number % 10) : BAD;
            case 20:
                if (!tower.hasPair(number)) {
                    return BAD;
                }
                return tower.areMixed(number / 100, number % 100) ? 1 : 0;
            default:
                return BAD;
        }
    }

    // ---- telling

    public int tells(int what) {
        if (what < 0 || what > 3) {
            return BAD;
        }
        if (tower.bells == 0) {
            return STATE;
        }
        boolean all = telling.allTold();
        if (what == 3) {
            return all ? 1 : 0;
        }
        return all ? NOT : telling.firstFault(what);
    }

    public int gap(int what) {
        if (what < 0 || what > 1) {
            return BAD;
        }
        if (tower.bells == 0) {
            return STATE;
        }
        int least = telling.leastDifference();
        if (what == 0 || least == NOT) {
            return least;
        }
        return least == 0 ? NOT : tower.bells - least + 1;
    }

    public int bears() {
        if (tower.bells == 0) {
            return STATE;
        }
        return telling.allToldWithAStrokeLost() ? 1 : 0;
    }

    public int hear(int strokes) {
        if (strokes < NOT_HEARD || strokes > STROKES_AT_MOST) {
            return BAD;
        }
        return ear.add(strokes) ? ear.told : FULL;
    }

    public int which() {
        int hours = ear.hoursHeard();
        ear.forgetTold();
        return hours;
    }

    public int alone(int bell, int strokes) {
        if (!tower.hasBell(bell) || strokes < -1 || strokes > STROKES_AT_MOST) {
            return BAD;
        }
        if (strokes >= 0) {
            return tower.hoursStriking(bell, strokes);
        }
        int greatest = 0;
        for (int often = 0; often <= STROKES_AT_MOST; often++) {
            greatest = Math.max(greatest, Integer.bitCount(tower.hoursStriking(bell, often)));
        }
        return greatest;
    }

    // ---- strokes, odds

    public int strokes(int what) {
        if (tower.hasHour(what)) {
            return tower.totalOfHour(what);
        }
        switch (what) {
            case 100:
                return 2 * tower.totalOfAll();
            case 101:
                return tower.totalOfHour(tower.worstHour());
            case 102:
                return tower.worstHour();
            case 103:
                return tower.costOfADay();
            case 104:
                return tower.bells == 0 ? STATE : tower.dearestBell();
            default:
                return BAD;
        }
    }

    public int kept() {
        return telling.fewestBells();
    }

    public long odds(int hour, int part) {
        if (hour < -1 || hour >= tower.hours || part < 0 || part > 1) {
            return Long.MIN_VALUE;
        }
        return telling.chanceInLowestTerms(hour, part);
    }

    public int least(int hb) {
        if (hb != -1 && !tower.hasCell(hb)) {
            return BAD;
        }
        if (!search.mayTryAllTables()) {
            return STATE;
        }
        int total = search.leastTable();
        return total < 0 ? NOT : search.answerOf(hb, total);
    }

    public int greedy(int hb) {
        if (hb != -1 && !tower.hasCell(hb)) {
            return BAD;
        }
        if (!search.mayTryAllRows()) {
            return STATE;
        }
        int total = search.greedyTable();
        return total < 0 ? NOT : search.answerOf(hb, total);
    }

    public int alarm(int bell) {
        if (!tower.hasBell(bell)) {
            return BAD;
        }
        if (!search.mayTryAllRows()) {
            return STATE;
        }
        return search.firstAlarm() ? search.trial[bell] : NOT;
    }

    public int night(int what) {
        if (what < 0 || what > 1) {
            return BAD;
        }
        if (what == 0) {
            ear.rows = 0;
            return 0;
        }
        return ear.keepTold() ? ear.rows : FULL;
    }

    public int begins(int what) {
        if (what < 0 || what > 1) {
            return BAD;
        }
        int hours = ear.hoursBegun();
        return what == 0 ? hours : ear.rowsMore(hours);
    }

    public int rest() {
        return telling.bellsThatMayRest();
    }

    public int undo() {
        if (changes.done == 0) {
            return STATE;
        }
        int k = changes.stepBack();
        putBack(changes.places[k], changes.before[k]);
        return changes.done;
    }

    public int redo() {
        if (changes.done >= changes.kept) {
            return STATE;
        }
        int k = changes.stepOn();
        putBack(changes.places[k], changes.after[k]);
        return changes.kept - changes.done;
    }

    // ---- acts, shelves

    public int body(int kind) {
        if (kind < 0 || kind >= Acts.KINDS) {
            return BAD;
        }
        return acts.add(kind) ? acts.bodies - 1 : FULL;
    }

    public int act(int body, int act, int x) {
        return acts.perform(body, act, x);
    }

    public int trace(int i) {
        return i >= 0 && i < acts.tracesKept() ? acts.traces[i] : BAD;
    }

    public int keep(int shelf, int body) {
        if (!shelves.hasShelf(shelf) || body < -1 || body >= acts.bodies) {
            return BAD;
        }
        if (body == -1) {
            shelves.clear(shelf);
        } else {
            shelves.holdTable(shelf, body);
        }
        return 1;
    }

    public int row(int shelf, int sort, int n) {
        if (!shelves.hasShelf(shelf) || sort < 0 || sort >= Shelves.SORTS || n > Shelves.LONGEST) {
            return BAD;
        }
        if (n < 0) {
            return SIZE_BELOW_ZERO;
        }
        shelves.holdRow(shelf, sort, n);
        return 1;
    }

    public int put(int shelf, int i, long v) {
        int refusal = shelves.refusalAt(shelf, i);
        if (refusal != 0) {
            return refusal;
        }
        shelves.write(shelf, i, v);
        return 1;
    }

    public long element(int shelf, int i) {
        return shelves.refusalAt(shelf, i) != 0 ? Long.MIN_VALUE : shelves.at(shelf, i);
    }

    public int shift(int shelf, int i, int other, int j, int n) {
        if (!shelves.hasShelf(shelf) || !shelves.hasShelf(other)) {
            return BAD;
        }
        if (shelves.isBare(shelf) || shelves.isBare(other)) {
            return NOTHING_THERE;
        }
        if (!shelves.holdsARow(shelf) || !shelves.sameSort(shelf, other)) {
            return ANOTHER_KIND;
        }
        if (!shelves.hasPart(shelf, i, n) || !shelves.hasPart(other, j, n)) {
            return NO_SUCH_PLACE;
        }
        shelves.copy(shelf, i, other, j, n);
        return n;
    }

    public int taken(int shelf, int k) {
        if (!shelves.hasShelf(shelf) || k < 0 || k >= Acts.KINDS) {
            return BAD;
        }
        if (shelves.isBare(shelf)) {
            return NOTHING_THERE;
        }
        if (!shelves.holdsATable(shelf)) {
            return ANOTHER_KIND;
        }
        int kind = acts.kindOf(shelves.bodyOn[shelf]);
        return acts.isUnder(kind, k) ? kind : ANOTHER_KIND;
    }

    public int count(int what) {
        switch (what) {
            case 0:
                return tower.bells;
            case 1:
                return tower.hours;
            case 2:
                return tower.heard;
            case 3:
                return tape.length;
            case 4:
                return changes.done;
            case 5:
                return acts.bodies;
            case 6:
                return acts.ran;
            default:
                return BAD;
        }
    }

    private int givenByLaw(int hour, int bell) {
        int most = tower.mostOf[bell];
        Program law = tape.law;
        if (law.length == 0) {
            return (hour + bell) % (most + 1);
        }
        int ahead = bell > 0 ? tower.struck(hour, bell - 1) : 0;
        int hourAhead = hour > 0 ? tower.struck(hour - 1, bell) : 0;
        law.name(hour, bell, most, tower.hours, ahead, hourAhead);
        return law.work();
    }

    private void putBack(int place, int v) {
        if (place >= Changes.MOST_OF) {
            tower.mostOf[place - Changes.MOST_OF] = v;
        } else {
            tower.write(place / 10, place % 10, v);
        }
    }

    /** The bells, the hours, what each bell strikes at each hour, and which hours are mixed. */
    private static final class Tower {
        private int bells = 0;
        private int hours = HOURS_AT_FIRST;
        private int heard = HEARD_AT_FIRST;
        private final int[] mostOf = new int[BELLS_AT_MOST];
        private final int[] costOf = new int[BELLS_AT_MOST];
        private final int[] lostOf = new int[BELLS_AT_MOST];
        private final int[] table = new int[HOURS_AT_MOST * BELLS_AT_MOST];
        /** For each hour the bits of the hours that it is mixed with. */
        private final int[] mixed = new int[HOURS_AT_MOST];

        private boolean hasBell(int bell) {
            return bell >= 0 && bell < bells;
        }

        private boolean hasHour(int hour) {
            return hour >= 0 && hour < hours;
        }

        private boolean hasCell(int hb) {
            return hb >= 0 && hasHour(hb / 10) && hasBell(hb % 10);
        }

        private boolean hasPair(int gh) {
            return gh >= 0 && hasHour(gh / 100) && hasHour(gh % 100) && gh / 100 != gh % 100;
        }

        private boolean mayStrike(int bell, long v) {
            return v >= 0 && v <= mostOf[bell];
        }

        private int addBell(int most, int cost, int lost) {
            mostOf[bells] = most;
            costOf[bells] = cost;
            lostOf[bells] = lost;
            bells++;
            return bells - 1;
        }

        private int struck(int hour, int bell) {
            return table[hour * BELLS_AT_MOST + bell];
        }

        private void write(int hour, int bell, int v) {
            table[hour * BELLS_AT_MOST + bell] = v;
        }

        private void changeHours(int v) {
            int left = (1 << v) - 1;
            for (int hour = 0; hour < HOURS_AT_MOST; hour++) {
                mixed[hour] = hour < v ? mixed[hour] & left : 0;
                for (int bell = 0; hour >= v && bell < BELLS_AT_MOST; bell++) {
                    write(hour, bell, 0);
                }
            }
            hours = v;
        }

        private boolean areMixed(int g, int h) {
            return (mixed[g] >> h & 1) != 0;
        }

        private void makeMixed(int g, int h, boolean is) {
            if (is) {
                mixed[g] |= 1 << h;
                mixed[h] |= 1 << g;
            } else {
                mixed[g] &= ~(1 << h);
                mixed[h] &= ~(1 << g);
            }
        }

        private int allBells() {
            return (1 << bells) - 1;
        }

        /** How many bells are heard together: all of them, if there are fewer than are heard. */
        private int heardTogether() {
            return Math.min(heard, bells);
        }

        /** In how many bells two rows must differ so that any bells heard together tell them apart. */
        private int differencesWanted() {
            return bells - heardTogether() + 1;
        }

        /** The bells (bits) in which two hours differ. */
        private int bellsUnlike(int g, int h) {
            int unlike = 0;
            for (int bell = 0; bell < bells; bell++) {
                if (struck(g, bell) != struck(h, bell)) {
                    unlike |= 1 << bell;
                }
            }
            return unlike;
        }

        private int hoursStriking(int bell, int often) {
            int found = 0;
            for (int hour = 0; hour < hours; hour++) {
                if (struck(hour, bell) == often) {
                    found |= 1 << hour;
                }
            }
            return found;
        }

        private int greatestOf(int bell) {
            int greatest = 0;
            for (int hour = 0; hour < hours; hour++) {
                greatest = Math.max(greatest, struck(hour, bell));
            }
            return greatest;
        }

        private int totalOfHour(int hour) {
            int total = 0;
            for (int bell = 0; bell < bells; bell++) {
                total += struck(hour, bell);
            }
            return total;
        }

        private int totalOfBell(int bell) {
            int total = 0;
            for (int hour = 0; hour < hours; hour++) {
                total += struck(hour, bell);
            }
            return total;
        }

        private int totalOfAll() {
            int total = 0;
            for (int bell = 0; bell < bells; bell++) {
                total += totalOfBell(bell);
            }
            return total;
        }

        private int worstHour() {
            int worst = 0;
            for (int hour = 1; hour < hours; hour++) {
                if (totalOfHour(hour) > totalOfHour(worst)) {
                    worst = hour;
                }
            }
            return worst;
        }

        private int costOfBell(int bell) {
            return 2 * costOf[bell] * totalOfBell(bell);
        }

        private int costOfADay() {
            int cost = 0;
            for (int bell = 0; bell < bells; bell++) {
                cost += costOfBell(bell);
            }
            return cost;
        }

        private int dearestBell() {
            int dearest = 0;
            for (int bell = 1; bell < bells; bell++) {
                if (costOfBell(bell) > costOfBell(dearest)) {
                    dearest = bell;
                }
            }
            return dearest;
        }
    }

    /** The latest changes of strokes and of MOST, so that they can be undone and done again. */
    private static final class Changes {
        /** A place from here on is the MOST of a bell; one below it is a bell at an hour (hb). */
        private static final int MOST_OF = 1000;

        private final int[] places = new int[CHANGES_KEPT];
        private final int[] before = new int[CHANGES_KEPT];
        private final int[] after = new int[CHANGES_KEPT];
        private int done = 0;
        private int kept = 0;

        private void note(int place, int was, int becomes) {
            if (done == CHANGES_KEPT) {
                dropOldest();
            }
            places[done] = place;
            before[done] = was;
            after[done] = becomes;
            done++;
            kept = done;
        }

        private void dropOldest() {
            System.arraycopy(places, 1, places, 0, CHANGES_KEPT - 1);
            System.arraycopy(before, 1, before, 0, CHANGES_KEPT - 1);
            System.arraycopy(after, 1, after, 0, CHANGES_KEPT - 1);
            done--;
        }

        private int stepBack() {
            done--;
            return done;
        }

        private int stepOn() {
            done++;
            return done - 1;
        }

        private void forgetAll() {
            done = 0;
            kept = 0;
        }
    }

    /** A law read already: what is to be worked out, operands ahead of what joins them. */
    private static final class Program {
        private static final int NUMBER = 1, NAME = 2, NEGATE = 3, DENY = 4, SKIP_IF_ZERO = 5, ANSWER = 6;
        /** Each byte of a tape gives one step at most, and the text's end one more. */
        private static final int STEPS_AT_MOST = LawReader.LONGEST + 1;

        private final int[] steps = new int[STEPS_AT_MOST];
        private final int[] withs = new int[STEPS_AT_MOST];
        private final int[] open = new int[STEPS_AT_MOST];
        private final int[] names = new int[6];
        private int length = 0;

        private void add(int step, int with) {
            if (length < STEPS_AT_MOST) {
                steps[length] = step;
                withs[length] = with;
                length++;
            }
        }

        /** Makes the step at that place skip all that stands behind it so far. */
        private void skipToEnd(int place) {
            if (place < length) {
                withs[place] = length;
            }
        }

        private void name(int h, int b, int m, int n, int p, int q) {
            names[0] = h;
            names[1] = b;
            names[2] = m;
            names[3] = n;
            names[4] = p;
            names[5] = q;
        }

        private int work() {
            int high = 0;
            int from = 0;
            for (int at = 0; at < length; at++) {
                int step = steps[at];
                if (at < from) {
                    continue;
                }
                if (step == NUMBER || step == NAME) {
                    open[high] = step == NUMBER ? withs[at] : names[withs[at]];
                    high++;
                } else if (high < 1) {
                    return 0;
                } else if (step == ANSWER) {
                    return open[high - 1];
                } else if (step == SKIP_IF_ZERO) {
                    high--;
                    from = open[high] == 0 ? withs[at] : from;
                } else if (step == NEGATE || step == DENY) {
                    open[high - 1] = step == NEGATE ? -open[high - 1] : truth(open[high - 1] == 0);
                } else if (high < 2) {
                    return 0;
                } else {
                    high--;
                    open[high - 1] = joined(step, open[high - 1], open[high]);
                }
            }
            return 0;
        }

        private static int joined(int sign, int a, int b) {
            switch (sign) {
                case '|':
                    return truth(a != 0 || b != 0);
                case '&':
                    return truth(a != 0 && b != 0);
                case '<':
                    return truth(a < b);
                case '=':
                    return truth(a == b);
                case '>':
                    return truth(a > b);
                case '+':
                    return a + b;
                case '-':
                    return a - b;
                case '*':
                    return a * b;
                case '/':
                    return b == 0 ? 0 : a / b;
                case '%':
                    return b == 0 ? 0 : a % b;
                default:
                    return 0;
            }
        }

        private static int truth(boolean is) {
            return is ? 1 : 0;
        }
    }

    /** The tape, and how it is read as a law. */
    private static final class LawReader {
        private static final int LONGEST = 120;
        private static final int OPEN_AT_MOST = 6, DIGITS_AT_MOST = 4;
        /** Signs that join two operands, by how loosely they bind; behind the last level stands a lone operand. */
        private static final int COMPARISONS = 2, OPERANDS = 5;

        private final int[] bytes = new int[LONGEST];
        private int length = 0;
        private int place = 0;
        private Program law = new Program();
        private Program draft = new Program();

        private boolean add(int letter) {
            if (length >= LONGEST) {
                return false;
            }
            bytes[length] = letter;
            length++;
            return true;
        }

        /** Makes the tape the law and empties it: -1, or the place of the fault. A faulty tape leaves the law as it was. */
        private int readAll() {
            place = 0;
            draft.length = 0;
            boolean whole = readLine();
            while (whole && place < length && bytes[place] == ';') {
                place++;
                whole = readLine();
            }
            int fault = whole && place == length ? -1 : place;
            if (fault < 0) {
                Program before = law;
                law = draft;
                draft = before;
            }
            length = 0;
            return fault;
        }

        private boolean readLine() {
            if (!readJoined(0, 0)) {
                return false;
            }
            if (!isNext('?')) {
                draft.add(Program.ANSWER, 0);
                return true;
            }
            place++;
            int skip = draft.length;
            draft.add(Program.SKIP_IF_ZERO, 0);
            if (!readJoined(0, 0)) {
                return false;
            }
            draft.add(Program.ANSWER, 0);
            draft.skipToEnd(skip);
            return true;
        }

        private boolean isNext(int letter) {
            return place < length && bytes[place] == letter;
        }

        private boolean readPart(int level, int open) {
            return level >= OPERANDS ? readOperand(open) : readJoined(level, open);
        }

        /** Reads parts of the next level, joined by signs of this one. */
        private boolean readJoined(int level, int open) {
            if (!readPart(level + 1, open)) {
                return false;
            }
            boolean more = true;
            while (more && place < length && levelOf(bytes[place]) == level) {
                int sign = bytes[place];
                place++;
                if (!readPart(level + 1, open)) {
                    return false;
                }
                draft.add(sign, 0);
                more = level != COMPARISONS;
            }
            return true;
        }

        private boolean readOperand(int open) {
            if (place >= length) {
                return false;
            }
            int letter = bytes[place];
            if (isDigit(letter)) {
                draft.add(Program.NUMBER, readNumber());
                return true;
            }
            if (nameOf(letter) >= 0) {
                draft.add(Program.NAME, nameOf(letter));
                place++;
                return true;
            }
            if (open >= OPEN_AT_MOST) {
                return false;
            }
            if (letter == '(') {
                place++;
                return readBraced(open + 1);
            }
            if (letter == '!' || letter == '-') {
                place++;
                return readSigned(letter == '!' ? Program.DENY : Program.NEGATE, open + 1);
            }
            return false;
        }

        private boolean readSigned(int step, int open) {
            if (!readOperand(open)) {
                return false;
            }
            draft.add(step, 0);
            return true;
        }

        private boolean readBraced(int open) {
            if (!readJoined(0, open) || !isNext(')')) {
                return false;
            }
            place++;
            return true;
        }

        private int readNumber() {
            int number = 0;
            for (int k = 0; k < DIGITS_AT_MOST && place < length && isDigit(bytes[place]); k++) {
                number = number * 10 + bytes[place] - '0';
                place++;
            }
            return number;
        }

        private static boolean isDigit(int letter) {
            return letter >= '0' && letter <= '9';
        }

        private static int nameOf(int letter) {
            switch (letter) {
                case 'h':
                    return 0;
                case 'b':
                    return 1;
                case 'm':
                    return 2;
                case 'n':
                    return 3;
                case 'p':
                    return 4;
                case 'q':
                    return 5;
                default:
                    return -1;
            }
        }

        private static int levelOf(int sign) {
            switch (sign) {
                case '|':
                    return 0;
                case '&':
                    return 1;
                case '<':
                case '=':
                case '>':
                    return COMPARISONS;
                case '+':
                case '-':
                    return 3;
                case '*':
                case '/':
                case '%':
                    return 4;
                default:
                    return -1;
            }
        }
    }

    /** Whether bells tell hours apart, and how likely they do. */
    private static final class Telling {
        private static final int PAIRS_AT_MOST = HOURS_AT_MOST * (HOURS_AT_MOST - 1) / 2;

        private final Tower tower;
        /** For each pair in question the bells (bits) in which its hours differ. */
        private final int[] unlike = new int[PAIRS_AT_MOST];
        private int pairs = 0;

        private Telling(Tower tower) {
            this.tower = tower;
        }

        private void takePair(int g, int h) {
            if (g != h && !tower.areMixed(g, h) && pairs < PAIRS_AT_MOST) {
                unlike[pairs] = tower.bellsUnlike(g, h);
                pairs++;
            }
        }

        private void takeAllPairs() {
            pairs = 0;
            for (int g = 0; g < tower.hours; g++) {
                for (int h = g + 1; h < tower.hours; h++) {
                    takePair(g, h);
                }
            }
        }

        private void takePairsOf(int hour) {
            pairs = 0;
            for (int other = 0; other < tower.hours; other++) {
                takePair(hour, other);
            }
        }

        /** Whether in each pair so many of these bells differ. */
        private boolean allDifferIn(int bells, int wanted) {
            for (int k = 0; k < pairs; k++) {
                if (Integer.bitCount(unlike[k] & bells) < wanted) {
                    return false;
                }
            }
            return true;
        }

        private boolean allTold() {
            takeAllPairs();
            return allDifferIn(tower.allBells(), tower.differencesWanted());
        }

        private boolean isHeardSet(int bells) {
            return Integer.bitCount(bells) == tower.heardTogether();
        }

        /** Of the first fault the bells (part 0), the lesser hour (1), the other hour (2). */
        private int firstFault(int part) {
            takeAllPairs();
            for (int bells = 1; bells <= tower.allBells(); bells++) {
                if (isHeardSet(bells) && !allDifferIn(bells, 1)) {
                    return part == 0 ? bells : hourOfFault(bells, part);
                }
            }
            return NOT;
        }

        private int hourOfFault(int bells, int part) {
            for (int g = 0; g < tower.hours; g++) {
                for (int h = g + 1; h < tower.hours; h++) {
                    if (!tower.areMixed(g, h) && (tower.bellsUnlike(g, h) & bells) == 0) {
                        return part == 1 ? g : h;
                    }
                }
            }
            return NOT;
        }

        private int leastDifference() {
            takeAllPairs();
            int least = NOT;
            for (int k = 0; k < pairs; k++) {
                int differ = Integer.bitCount(unlike[k]);
                least = least == NOT ? differ : Math.min(least, differ);
            }
            return least;
        }

        private boolean allToldWithAStrokeLost() {
            for (int g = 0; g < tower.hours; g++) {
                for (int h = g + 1; h < tower.hours; h++) {
                    if (!tower.areMixed(g, h) && !toldWithAStrokeLost(g, h)) {
                        return false;
                    }
                }
            }
            return true;
        }

        private boolean toldWithAStrokeLost(int g, int h) {
            int oneMore = bellsOneMore(g, h);
            int oneLess = bellsOneMore(h, g);
            int further = tower.bellsUnlike(g, h) & ~oneMore & ~oneLess;
            for (int bells = 1; bells <= tower.allBells(); bells++) {
                // each hour loses one stroke at most: so it can make good one bell in which it strikes one more
                boolean alike = (further & bells) == 0
                        && Integer.bitCount(oneMore & bells) <= 1 && Integer.bitCount(oneLess & bells) <= 1;
                if (alike && isHeardSet(bells)) {
                    return false;
                }
            }
            return true;
        }

        /** The bells (bits) that strike just once more at g than at h. */
        private int bellsOneMore(int g, int h) {
            int found = 0;
            for (int bell = 0; bell < tower.bells; bell++) {
                if (tower.struck(g, bell) == tower.struck(h, bell) + 1) {
                    found |= 1 << bell;
                }
            }
            return found;
        }

        private int fewestBells() {
            takeAllPairs();
            for (int size = 0; size <= tower.bells; size++) {
                for (int bells = 0; bells <= tower.allBells(); bells++) {
                    if (Integer.bitCount(bells) == size && allDifferIn(bells, 1)) {
                        return bells;
                    }
                }
            }
            return NOT;
        }

        private int bellsThatMayRest() {
            takeAllPairs();
            int others = tower.bells - 1;
            int heard = Math.min(Math.max(1, tower.heard - 1), others);
            int found = 0;
            for (int bell = 0; bell < tower.bells; bell++) {
                if (allDifferIn(tower.allBells() & ~(1 << bell), others - heard + 1)) {
                    found |= 1 << bell;
                }
            }
            return found;
        }

        private long chanceInLowestTerms(int hour, int part) {
            long above = 0;
            long below = 1;
            for (int bell = 0; bell < tower.bells; bell++) {
                below *= HUNDRED;
            }
            if (hour >= 0) {
                above = chanceOf(hour);
            } else {
                below *= tower.hours;
                for (int each = 0; each < tower.hours; each++) {
                    above += chanceOf(each);
                }
            }
            long common = Math.max(1, greatestDivisor(above, below));
            return part == 0 ? above / common : below / common;
        }

        private long chanceOf(int hour) {
            takePairsOf(hour);
            long chance = 0;
            for (int bells = 0; bells <= tower.allBells(); bells++) {
                if (allDifferIn(bells, 1)) {
                    chance += chanceHeard(bells);
                }
            }
            return chance;
        }

        /** How likely just these bells are heard, in parts of 100 by itself as often as there are bells. */
        private long chanceHeard(int bells) {
            long chance = 1;
            for (int bell = 0; bell < tower.bells; bell++) {
                int lost = tower.lostOf[bell];
                chance *= (bells >> bell & 1) != 0 ? HUNDRED - lost : lost;
            }
            return chance;
        }

        private static long greatestDivisor(long a, long b) {
            long greater = b;
            long lesser = a;
            // Euclid's way needs fewer than a hundred steps for any two longs
            for (int step = 0; step < 1000 && lesser != 0; step++) {
                long left = greater % lesser;
                greater = lesser;
                lesser = left;
            }
            return greater;
        }
    }

    /** Tables and rows of strokes found by trying, for three bells at most. */
    private static final class Search {
        private static final int BELLS_TRIED = 3, HOURS_TRIED = 4, TABLES_TRIED = 65536;

        private final Tower tower;
        private final int[] trial = new int[BELLS_AT_MOST];
        private final int[] draft = new int[HOURS_AT_MOST * BELLS_AT_MOST];
        private final int[] found = new int[HOURS_AT_MOST * BELLS_AT_MOST];
        private int best = -1;

        private Search(Tower tower) {
            this.tower = tower;
        }

        private boolean mayTryAllRows() {
            return tower.bells >= 1 && tower.bells <= BELLS_TRIED;
        }

        private boolean mayTryAllTables() {
            if (!mayTryAllRows() || tower.hours > HOURS_TRIED) {
                return false;
            }
            long tables = 1;
            for (int hour = 0; hour < tower.hours; hour++) {
                tables *= rowsThereAre();
            }
            return tables <= TABLES_TRIED;
        }

        private int rowsThereAre() {
            int rows = 1;
            for (int bell = 0; bell < tower.bells; bell++) {
                rows *= tower.mostOf[bell] + 1;
            }
            return rows;
        }

        private int answerOf(int hb, int total) {
            return hb == -1 ? total : found[hb / 10 * BELLS_AT_MOST + hb % 10];
        }

        /** The strokes of the least table, which stands in found then; -1: there is none. */
        private int leastTable() {
            best = -1;
            fillFrom(0, 0);
            return best;
        }

        private void fillFrom(int hour, int strokesAhead) {
            if (hour >= tower.hours || hour >= HOURS_TRIED) {
                best = strokesAhead;
                System.arraycopy(draft, 0, found, 0, found.length);
                return;
            }
            int rows = rowsThereAre();
            for (int number = 0; number < rows; number++) {
                tryRow(hour, number, strokesAhead);
            }
        }

        private void tryRow(int hour, int number, int strokesAhead) {
            int strokes = strokesAhead + spell(number);
            // a table no better than the best one comes behind it: it may be left out
            if ((best < 0 || strokes < best) && isTold(draft, hoursAhead(hour))) {
                System.arraycopy(trial, 0, draft, hour * BELLS_AT_MOST, BELLS_AT_MOST);
                fillFrom(hour + 1, strokes);
            }
        }

        /** Makes the trial the row of that number, rows counted by bells, least strokes first: its strokes. */
        private int spell(int number) {
            int left = number;
            int strokes = 0;
            for (int bell = tower.bells - 1; bell >= 0; bell--) {
                int ways = tower.mostOf[bell] + 1;
                trial[bell] = left % ways;
                left /= ways;
                strokes += trial[bell];
            }
            return strokes;
        }

        /** The hours (bits) ahead of an hour that it must be told from. */
        private int hoursAhead(int hour) {
            return (1 << hour) - 1 & ~tower.mixed[hour];
        }

        /** Whether any bells heard together tell the trial from the rows of these hours (bits). */
        private boolean isTold(int[] rows, int hours) {
            int wanted = tower.differencesWanted();
            for (int hour = 0; hour < tower.hours; hour++) {
                if ((hours >> hour & 1) != 0 && differences(rows, hour) < wanted) {
                    return false;
                }
            }
            return true;
        }

        private int differences(int[] rows, int hour) {
            int differ = 0;
            for (int bell = 0; bell < tower.bells; bell++) {
                if (rows[hour * BELLS_AT_MOST + bell] != trial[bell]) {
                    differ++;
                }
            }
            return differ;
        }

        /** The strokes of the greedy table, which stands in found then; -1: some hour has no row. */
        private int greedyTable() {
            int strokes = 0;
            for (int hour = 0; hour < tower.hours; hour++) {
                if (!firstRowTold(found, hoursAhead(hour))) {
                    return -1;
                }
                System.arraycopy(trial, 0, found, hour * BELLS_AT_MOST, BELLS_AT_MOST);
                strokes += trial[0] + trial[1] + trial[2];
            }
            return strokes;
        }

        private boolean firstAlarm() {
            return firstRowTold(tower.table, (1 << tower.hours) - 1);
        }

        /** Makes the trial the first row, by sums and then by bells, that is told from the rows of these hours. */
        private boolean firstRowTold(int[] rows, int hours) {
            int sums = greatest(0) + greatest(1) + greatest(2);
            for (int sum = 0; sum <= sums; sum++) {
                for (int one = 0; one <= greatest(0) && one <= sum; one++) {
                    for (int two = 0; two <= greatest(1) && one + two <= sum; two++) {
                        trial[0] = one;
                        trial[1] = two;
                        trial[2] = sum - one - two;
                        if (trial[2] <= greatest(2) && isTold(rows, hours)) {
                            return true;
                        }
                    }
                }
            }
            return false;
        }

        /** The most strokes of a bell; one that is not there never strikes. */
        private int greatest(int bell) {
            return bell < tower.bells ? tower.mostOf[bell] : 0;
        }
    }

    /** What was heard: the row that is just being told, and the rows of a night. */
    private static final class Ear {
        private final Tower tower;
        private final int[] row = new int[BELLS_AT_MOST];
        private final int[] nightRows = new int[ROWS_OF_A_NIGHT * BELLS_AT_MOST];
        private int told = 0;
        private int rows = 0;

        private Ear(Tower tower) {
            this.tower = tower;
            forgetTold();
        }

        private boolean add(int strokes) {
            if (told >= tower.bells) {
                return false;
            }
            row[told] = strokes;
            told++;
            return true;
        }

        private void forgetTold() {
            for (int bell = 0; bell < BELLS_AT_MOST; bell++) {
                row[bell] = NOT_HEARD;
            }
            told = 0;
        }

        private boolean keepTold() {
            if (rows >= ROWS_OF_A_NIGHT) {
                return false;
            }
            System.arraycopy(row, 0, nightRows, rows * BELLS_AT_MOST, BELLS_AT_MOST);
            rows++;
            forgetTold();
            return true;
        }

        private int hoursHeard() {
            int found = 0;
            for (int hour = 0; hour < tower.hours; hour++) {
                if (mayBe(row, 0, hour)) {
                    found |= 1 << hour;
                }
            }
            return found;
        }

        /** Whether the row that begins at that place of heard may be an hour's. */
        private boolean mayBe(int[] heard, int place, int hour) {
            for (int bell = 0; bell < tower.bells; bell++) {
                int strokes = heard[place + bell];
                if (strokes != NOT_HEARD && strokes != tower.struck(hour, bell)) {
                    return false;
                }
            }
            return true;
        }

        private int hoursBegun() {
            int found = 0;
            for (int hour = 0; hour < tower.hours; hour++) {
                if (mayHaveBegun(hour)) {
                    found |= 1 << hour;
                }
            }
            return found;
        }

        private boolean mayHaveBegun(int hour) {
            for (int k = 0; k < rows; k++) {
                if (!mayBe(nightRows, k * BELLS_AT_MOST, hourBehind(hour, k))) {
                    return false;
                }
            }
            return true;
        }

        private int hourBehind(int hour, int later) {
            return Math.floorMod(hour + later, tower.hours);
        }

        /** How many rows more it takes until any two of these hours (bits), not mixed, have differed. */
        private int rowsMore(int hours) {
            int most = 0;
            for (int g = 0; g < tower.hours; g++) {
                for (int h = g + 1; h < tower.hours; h++) {
                    boolean both = (hours >> g & 1) != 0 && (hours >> h & 1) != 0;
                    if (both && !tower.areMixed(g, h)) {
                        int more = rowsMoreForPair(g, h);
                        if (more == NOT) {
                            return NOT;
                        }
                        most = Math.max(most, more);
                    }
                }
            }
            return most;
        }

        private int rowsMoreForPair(int g, int h) {
            for (int k = 0; k < ROWS_MORE_AT_MOST; k++) {
                if (tower.bellsUnlike(hourBehind(g, rows + k), hourBehind(h, rows + k)) != 0) {
                    return k + 1;
                }
            }
            return NOT;
        }
    }

    /** The tables' ways: bodies by their kinds, and which body of an act runs. */
    private static final class Acts {
        private static final int KINDS = 8, ACTS = 4, BODIES_AT_MOST = 50, TRACES_AT_MOST = 24, DEEPEST = 40;
        private static final int STRIKES = 0, SOUNDS = 1, RESTS = 2, TELLS = 3;
        /** The kind above each kind; TABLE has none, and has a body for each act. */
        private static final int[] ABOVE = {0, 0, 0, 2, 0, 1, 0, 3};
        /** For each kind the bodies of its own: strikes, sounds, rests, tells (0: none). */
        private static final int[] OWN = {
            1, 10, 11, 2,
            20, 0, 0, 0,
            0, 30, 0, 0,
            0, 41, 40, 0,
            0, 0, 50, 0,
            0, 0, 0, 60,
            70, 0, 0, 0,
            0, 80, 0, 81
        };

        private final int[] kinds = new int[BODIES_AT_MOST];
        private final int[] traces = new int[TRACES_AT_MOST];
        private int bodies = 0;
        private int ran = 0;
        private int actor = 0;

        private boolean add(int kind) {
            if (bodies >= BODIES_AT_MOST) {
                return false;
            }
            kinds[bodies] = kind;
            bodies++;
            return true;
        }

        private int kindOf(int number) {
            return number >= 0 && number < bodies ? kinds[number] : 0;
        }

        private boolean isUnder(int kind, int above) {
            int at = kind;
            for (int up = 0; up < KINDS; up++) {
                if (at == above) {
                    return true;
                }
                at = ABOVE[at];
            }
            return false;
        }

        private int tracesKept() {
            return Math.min(ran, TRACES_AT_MOST);
        }

        private int perform(int number, int act, int x) {
            ran = 0;
            if (number < 0 || number >= bodies || act < 0 || act >= ACTS) {
                return 0;
            }
            actor = number;
            return asKind(kinds[number], act, x, 0);
        }

        /** The act as a kind has it, of its own or from the next kind above that has one. */
        private int asKind(int kind, int act, int x, int depth) {
            if (depth >= DEEPEST) {
                return 0;
            }
            int owner = kind;
            for (int up = 0; up < KINDS && OWN[owner * ACTS + act] == 0; up++) {
                owner = ABOVE[owner];
            }
            int number = OWN[owner * ACTS + act];
            if (ran < TRACES_AT_MOST) {
                traces[ran] = number;
            }
            ran++;
            return runBody(number, ABOVE[owner], x, depth + 1);
        }

        private int runBody(int number, int above, int x, int depth) {
            int own = kinds[actor];
            switch (number) {
                case 1:
                    return x + actor;
                case 2:
                    return asKind(own, SOUNDS, x, depth) - asKind(own, RESTS, 1, depth);
                case 10:
                    return asKind(own, STRIKES, x, depth) * 2;
                case 11:
                    return x ^ actor;
                case 20:
                    return asKind(above, STRIKES, x, depth) + 3;
                case 30:
                    return -asKind(above, SOUNDS, x, depth);
                case 40:
                    return asKind(above, RESTS, x, depth) * 3;
                case 41:
                    return asKind(above, SOUNDS, x + 1, depth);
                case 50:
                    return asKind(above, RESTS, x, depth) - asKind(own, STRIKES, 2, depth);
                case 60:
                    return asKind(above, TELLS, x, depth) ^ 5;
                case 70:
                    return asKind(above, STRIKES, x, depth) * 2;
                case 80:
                    return asKind(above, SOUNDS, x, depth) + asKind(own, RESTS, 2, depth);
                case 81:
                    return asKind(above, TELLS, x, depth) - 1;
                default:
                    return 0;
            }
        }
    }

    /** Six shelves, each with nothing, a table (a body), or a row of one sort. */
    private static final class Shelves {
        private static final int SHELVES = 6, SORTS = 5, LONGEST = 60;
        private static final int BYTES = 0, SHORTS = 1, INTS = 2, BOOLEANS = 4;
        private static final int NOTHING = -1, TABLE = 5;

        /** The sort of the row that a shelf holds, or that it holds nothing, or a table. */
        private final int[] holds = {NOTHING, NOTHING, NOTHING, NOTHING, NOTHING, NOTHING};
        private final int[] bodyOn = new int[SHELVES];
        /** How many elements: 0 too where there is no row. */
        private final int[] lengths = new int[SHELVES];
        private final long[] elements = new long[SHELVES * LONGEST];

        private boolean hasShelf(int shelf) {
            return shelf >= 0 && shelf < SHELVES;
        }

        private boolean isBare(int shelf) {
            return holds[shelf] == NOTHING;
        }

        private boolean holdsATable(int shelf) {
            return holds[shelf] == TABLE;
        }

        private boolean holdsARow(int shelf) {
            return holds[shelf] != TABLE && holds[shelf] != NOTHING;
        }

        private boolean holdsBytes(int shelf) {
            return holds[shelf] == BYTES;
        }

        private boolean sameSort(int shelf, int other) {
            return holds[shelf] == holds[other];
        }

        private boolean hasPlace(int shelf, int i) {
            return i >= 0 && i < lengths[shelf];
        }

        /** Whether a row has n elements from place i on. */
        private boolean hasPart(int shelf, int i, int n) {
            return i >= 0 && n >= 0 && i <= lengths[shelf] - n;
        }

        private void clear(int shelf) {
            holds[shelf] = NOTHING;
            lengths[shelf] = 0;
        }

        private void holdTable(int shelf, int number) {
            holds[shelf] = TABLE;
            lengths[shelf] = 0;
            bodyOn[shelf] = number;
        }

        private void holdRow(int shelf, int sort, int n) {
            holds[shelf] = sort;
            lengths[shelf] = n;
            for (int i = 0; i < n; i++) {
                elements[shelf * LONGEST + i] = 0;
            }
        }

        /** Why there is no element i on a shelf; 0: there is one. */
        private int refusalAt(int shelf, int i) {
            if (!hasShelf(shelf)) {
                return BAD;
            }
            if (isBare(shelf)) {
                return NOTHING_THERE;
            }
            if (!holdsARow(shelf)) {
                return ANOTHER_KIND;
            }
            return hasPlace(shelf, i) ? 0 : NO_SUCH_PLACE;
        }

        private long at(int shelf, int i) {
            return elements[shelf * LONGEST + i];
        }

        private void write(int shelf, int i, long v) {
            elements[shelf * LONGEST + i] = lowestBits(holds[shelf], v);
        }

        private static long lowestBits(int sort, long v) {
            switch (sort) {
                case BYTES:
                    return (byte) v;
                case SHORTS:
                    return (short) v;
                case INTS:
                    return (int) v;
                case BOOLEANS:
                    return v != 0 ? 1 : 0;
                default:
                    return v;
            }
        }

        private void copy(int shelf, int i, int other, int j, int n) {
            System.arraycopy(elements, shelf * LONGEST + i, elements, other * LONGEST + j, n);
        }
    }
}
