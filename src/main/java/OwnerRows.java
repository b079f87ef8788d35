import java.util.Arrays;
import java.util.NoSuchElementException;

/**
 * Histories of owners: rows with spans of days, corrected later and known as of any day, with what
 * is asked of them. Everything is made in the constructor; no later call makes more than the
 * exception that it throws.
 */
public final class OwnerRows {
    public static final int NONE = -1;

    private static final int LAST_DAY = 100000;
    private static final int DAYS_OF_YEAR = 365;
    private static final int MOST_YEARS = 200;
    private static final int MOST_BELOW = 1000;
    private static final long MOST_OF_SUM = 1000000000L;

    private static final int PERSONS = 32;
    private static final int ROLES = 8;
    private static final int KINDS = 4;
    private static final int USES = 8;
    private static final int CURRENCIES = 8;

    private static final int MOST_THINGS = 16;
    private static final int MOST_ROWS = 120;
    private static final int MOST_CORRECTIONS = 200;
    private static final int MOST_RULES = 10;
    private static final int MOST_CLAIMS = 30;
    private static final int MOST_LICENCES = 40;
    private static final int MOST_VALUES = 60;

    private static final int PERSON = 0;
    private static final int FROM = 1;
    private static final int TO = 2;
    private static final int FIELDS = 3;

    private static final int TELL_YEARS = 0;
    private static final int TELL_MAKER = 1;
    private static final int TELLINGS = 3;

    /** Calls that ask for one of a pair: first or last day of a gap, above or below of a fraction. */
    private static final int PAIR = 2;

    private final Rows rows = new Rows();
    private final Corrections corrections = new Corrections();
    private final View view = new View();
    private final Sum sum = new Sum();
    private final Print print = new Print();
    private final Rules rules = new Rules();
    private final Claims claims = new Claims();
    private final Rights makers = new Rights();
    private final Licences licences = new Licences();
    private final Values values = new Values();
    private int things;

    public OwnerRows() {
        things = 0;
    }

    public int thing() throws IllegalStateException {
        mustHaveRoom(things, MOST_THINGS);
        things++;
        return things - 1;
    }

    public int owner(int thing, int person, int from, int to, int told)
            throws NoSuchElementException, IllegalArgumentException, IllegalStateException {
        mustExist(thing, things);
        mustExist(person, PERSONS);
        mustBeSpan(from, to);
        mustBeDay(told);
        mustHaveRoom(rows.count, MOST_ROWS);
        return rows.add(thing, person, from, to, told);
    }

    public void share(int row, int above, int below)
            throws NoSuchElementException, IllegalArgumentException {
        mustExist(row, rows.count);
        if (above < 1 || above > below || below > MOST_BELOW) {
            throw new IllegalArgumentException("no share");
        }
        rows.above[row] = above;
        rows.below[row] = below;
    }

    public boolean doubt(int row, boolean on) throws NoSuchElementException {
        mustExist(row, rows.count);
        boolean changed = rows.doubted[row] != on;
        rows.doubted[row] = on;
        return changed;
    }

    public void correct(int row, int field, int v, int told)
            throws NoSuchElementException, IllegalArgumentException, IllegalStateException {
        mustExist(row, rows.count);
        mustExist(field, FIELDS);
        if (field == PERSON) {
            mustExist(v, PERSONS);
        } else {
            mustBeDay(v);
        }
        mustBeDay(told);
        if (told < rows.told[row]) {
            throw new IllegalArgumentException("a correction told before its row");
        }
        mustHaveRoom(corrections.count, MOST_CORRECTIONS);
        corrections.add(row, field, v, told);
    }

    public int known(int row, int field, int day)
            throws NoSuchElementException, IllegalArgumentException {
        mustExist(row, rows.count);
        mustExist(field, FIELDS);
        mustBeDay(day);
        if (rows.told[row] > day) {
            return NONE;
        }
        view.learn(rows, corrections, day);
        return view.now[field][row];
    }

    public int gap(int thing, int k, int end, int day)
            throws NoSuchElementException, IllegalArgumentException {
        mustExist(thing, things);
        mustBePlace(k);
        mustExist(end, PAIR);
        mustBeDay(day);
        listRows(thing, day);
        view.sortByFrom();
        return view.edgeOfGap(k, end);
    }

    public int held(int thing, int on, int day, int part)
            throws NoSuchElementException, IllegalArgumentException, IllegalStateException {
        mustExist(thing, things);
        mustExist(part, PAIR);
        mustBeDay(on);
        mustBeDay(day);
        listRows(thing, day);
        sumShares(on);
        return (int) (part == 0 ? sum.above : sum.below);
    }

    public int danger(int person, int from, int to)
            throws NoSuchElementException, IllegalArgumentException, IllegalStateException {
        if (person != NONE) {
            mustExist(person, PERSONS);
        }
        mustBeSpan(from, to);
        mustHaveRoom(rules.count, MOST_RULES);
        return rules.add(person, from, to);
    }

    public int asked(int thing, int k, int day)
            throws NoSuchElementException, IllegalArgumentException {
        mustExist(thing, things);
        mustBePlace(k);
        mustBeDay(day);
        listRows(thing, day);
        int left = k;
        for (int i = 0; i < view.size; i++) {
            int row = view.listed[i];
            if (rules.touch(view.now[PERSON][row], view.now[FROM][row], view.now[TO][row])) {
                if (left == 0) {
                    return row;
                }
                left--;
            }
        }
        return NONE;
    }

    public int claim(int thing, int person, int day)
            throws NoSuchElementException, IllegalArgumentException, IllegalStateException {
        mustExist(thing, things);
        mustExist(person, PERSONS);
        mustBeDay(day);
        mustHaveRoom(claims.count, MOST_CLAIMS);
        return claims.add(thing, day);
    }

    public void settle(int claim, int day)
            throws NoSuchElementException, IllegalArgumentException, IllegalStateException {
        mustExist(claim, claims.count);
        mustBeDay(day);
        if (day < claims.from[claim]) {
            throw new IllegalArgumentException("settled before it was claimed");
        }
        if (claims.settled[claim] != NONE) {
            throw new IllegalStateException("the claim is settled");
        }
        claims.settled[claim] = day;
    }

    public boolean stops(int thing, int day)
            throws NoSuchElementException, IllegalArgumentException {
        mustExist(thing, things);
        mustBeDay(day);
        return claims.hold(thing, day);
    }

    public void tell(int what, int a, int b)
            throws NoSuchElementException, IllegalArgumentException {
        mustExist(what, TELLINGS);
        if (what == TELL_YEARS) {
            tellYears(a, b);
        } else if (what == TELL_MAKER) {
            tellMaker(a, b);
        } else {
            tellEnd(a, b);
        }
    }

    public int rights(int thing, int kind, int day)
            throws NoSuchElementException, IllegalArgumentException {
        mustExist(thing, things);
        mustExist(kind, KINDS);
        mustBeDay(day);
        return makers.holder(thing, kind, day);
    }

    public int licence(int thing, int use, int from, int to)
            throws NoSuchElementException, IllegalArgumentException, IllegalStateException {
        mustExist(thing, things);
        mustExist(use, USES);
        mustBeSpan(from, to);
        mustHaveRoom(licences.count, MOST_LICENCES);
        return licences.add(thing, use, from, to);
    }

    public boolean licensed(int thing, int use, int day)
            throws NoSuchElementException, IllegalArgumentException {
        mustExist(thing, things);
        mustExist(use, USES);
        mustBeDay(day);
        return licences.allow(thing, use, day);
    }

    public boolean seal(int row, int role, boolean on) throws NoSuchElementException {
        mustExist(row, rows.count);
        mustExist(role, ROLES);
        boolean changed = rows.isSealed(row, role) != on;
        if (changed) {
            rows.seals[row] ^= 1 << role;
        }
        return changed;
    }

    public int seen(int thing, int role, int k, int day)
            throws NoSuchElementException, IllegalArgumentException {
        mustExist(thing, things);
        mustExist(role, ROLES);
        mustBePlace(k);
        mustBeDay(day);
        listRows(thing, day);
        int left = k;
        for (int i = 0; i < view.size; i++) {
            int row = view.listed[i];
            if (!rows.isSealed(row, role)) {
                if (left == 0) {
                    return row;
                }
                left--;
            }
        }
        return NONE;
    }

    public int worth(int thing, int day, int currency, int v)
            throws NoSuchElementException, IllegalArgumentException, IllegalStateException {
        mustExist(thing, things);
        mustExist(currency, CURRENCIES);
        mustBeDay(day);
        if (v < 0) {
            throw new IllegalArgumentException("a value below 0");
        }
        mustHaveRoom(values.count, MOST_VALUES);
        return values.add(thing, day, currency, v);
    }

    public int value(int thing, int day, int currency)
            throws NoSuchElementException, IllegalArgumentException {
        mustExist(thing, things);
        mustExist(currency, CURRENCIES);
        mustBeDay(day);
        return values.latest(thing, day, currency);
    }

    public int chain(int thing, int day, int i)
            throws NoSuchElementException, IllegalArgumentException {
        mustExist(thing, things);
        // No chain of any day has a sign below NONE, so this goes before the day; whether there is
        // a sign i from 0 on can only be said once the day is one.
        if (i < NONE) {
            throw new NoSuchElementException("no such sign");
        }
        mustBeDay(day);
        listRows(thing, day);
        view.sortByFrom();
        printRows(i);
        if (i == NONE) {
            return print.length;
        }
        mustExist(i, print.length);
        return print.caught;
    }

    private void listRows(int thing, int day) {
        view.learn(rows, corrections, day);
        view.list(rows, thing, day);
    }

    private void sumShares(int on) {
        sum.clear();
        for (int i = 0; i < view.size; i++) {
            int row = view.listed[i];
            if (view.now[FROM][row] <= on && on <= view.now[TO][row]) {
                sum.add(rows.above[row], rows.below[row]);
                // Looked at behind each row, not at the end alone: a later row may lessen it again.
                if (sum.above > MOST_OF_SUM || sum.below > MOST_OF_SUM) {
                    throw new IllegalStateException("the shares' sum is too long");
                }
            }
        }
    }

    private void printRows(int wanted) {
        print.start(wanted);
        for (int i = 0; i < view.size; i++) {
            int row = view.listed[i];
            print.number(view.now[PERSON][row]);
            print.sign('@');
            print.number(view.now[FROM][row]);
            print.sign('-');
            print.number(view.now[TO][row]);
            if (rows.doubted[row]) {
                print.sign('?');
            }
            print.sign(';');
        }
    }

    private void tellYears(int kind, int years) {
        mustExist(kind, KINDS);
        if (years < 0 || years > MOST_YEARS) {
            throw new IllegalArgumentException("no such years");
        }
        makers.years[kind] = years;
    }

    private void tellMaker(int thing, int person) {
        mustExist(thing, things);
        mustExist(person, PERSONS);
        makers.maker[thing] = person;
    }

    private void tellEnd(int person, int day) {
        mustExist(person, PERSONS);
        mustBeDay(day);
        makers.end[person] = day;
    }

    private static void mustExist(int number, int howMany) {
        if (number < 0 || number >= howMany) {
            throw new NoSuchElementException("there is none of this number");
        }
    }

    private static void mustBePlace(int k) {
        if (k < 0) {
            throw new NoSuchElementException("a place below 0");
        }
    }

    private static void mustBeDay(int day) {
        if (day < 0 || day > LAST_DAY) {
            throw new IllegalArgumentException("no day");
        }
    }

    private static void mustBeSpan(int from, int to) {
        mustBeDay(from);
        mustBeDay(to);
        if (from > to) {
            throw new IllegalArgumentException("from is above to");
        }
    }

    private static void mustHaveRoom(int count, int most) {
        if (count >= most) {
            throw new IllegalStateException("there are as many as there may be");
        }
    }

    /** The rows as they were first told, and what is true of them whatever the day: shares, doubts, seals. */
    private static final class Rows {
        private final int[] thing = new int[MOST_ROWS];
        private final int[][] first = new int[FIELDS][MOST_ROWS];
        private final int[] told = new int[MOST_ROWS];
        private final int[] above = new int[MOST_ROWS];
        private final int[] below = new int[MOST_ROWS];
        private final boolean[] doubted = new boolean[MOST_ROWS];
        /** One bit a role. */
        private final int[] seals = new int[MOST_ROWS];
        private int count;

        private int add(int ofThing, int person, int from, int to, int toldOn) {
            int row = count;
            thing[row] = ofThing;
            first[PERSON][row] = person;
            first[FROM][row] = from;
            first[TO][row] = to;
            told[row] = toldOn;
            above[row] = 1;
            below[row] = 1;
            count++;
            return row;
        }

        private boolean isSealed(int row, int role) {
            return (seals[row] & (1 << role)) != 0;
        }
    }

    /** All corrections, in the order in which they came. */
    private static final class Corrections {
        private final int[] row = new int[MOST_CORRECTIONS];
        private final int[] field = new int[MOST_CORRECTIONS];
        private final int[] v = new int[MOST_CORRECTIONS];
        private final int[] told = new int[MOST_CORRECTIONS];
        private int count;

        private void add(int ofRow, int ofField, int newValue, int toldOn) {
            row[count] = ofRow;
            field[count] = ofField;
            v[count] = newValue;
            told[count] = toldOn;
            count++;
        }
    }

    /** Rows as known on a day; filled anew by each call that asks, so that no call makes arrays. */
    private static final class View {
        private final int[][] now = new int[FIELDS][MOST_ROWS];
        /** The day on which each value of now was told. */
        private final int[][] since = new int[FIELDS][MOST_ROWS];
        private final int[] listed = new int[MOST_ROWS];
        private int size;

        private void learn(Rows rows, Corrections corrections, int day) {
            for (int field = 0; field < FIELDS; field++) {
                System.arraycopy(rows.first[field], 0, now[field], 0, rows.count);
                System.arraycopy(rows.told, 0, since[field], 0, rows.count);
            }
            for (int c = 0; c < corrections.count; c++) {
                int row = corrections.row[c];
                int field = corrections.field[c];
                int told = corrections.told[c];
                // Not less, rather than above: of corrections told on one day the later one holds.
                if (told <= day && told >= since[field][row]) {
                    now[field][row] = corrections.v[c];
                    since[field][row] = told;
                }
            }
        }

        /**
         * Lists by their numbers the thing's rows that were told by the day and are not void; wants
         * that day learnt.
         */
        private void list(Rows rows, int thing, int day) {
            size = 0;
            for (int row = 0; row < rows.count; row++) {
                boolean isVoid = now[FROM][row] > now[TO][row];
                if (rows.thing[row] == thing && rows.told[row] <= day && !isVoid) {
                    listed[size] = row;
                    size++;
                }
            }
        }

        /** Rows of equal from stay in the order of their numbers. */
        private void sortByFrom() {
            int[] from = now[FROM];
            for (int i = 1; i < size; i++) {
                int row = listed[i];
                int at = i;
                for (; at > 0 && from[listed[at - 1]] > from[row]; at--) {
                    listed[at] = listed[at - 1];
                }
                listed[at] = row;
            }
        }

        /** Wants the list sorted by from. */
        private int edgeOfGap(int k, int end) {
            if (size == 0) {
                return NONE;
            }
            int reached = now[TO][listed[0]];
            int left = k;
            for (int i = 1; i < size; i++) {
                int from = now[FROM][listed[i]];
                if (from > reached + 1) {
                    if (left == 0) {
                        return end == 0 ? reached + 1 : from - 1;
                    }
                    left--;
                }
                reached = Math.max(reached, now[TO][listed[i]]);
            }
            return NONE;
        }
    }

    /** A fraction that is always lessened; longs, for a step's product is above an int before that. */
    private static final class Sum {
        /** More steps than Euclid's way can take with any two longs. */
        private static final int MOST_STEPS = 100;

        private long above;
        private long below = 1;

        private void clear() {
            above = 0;
            below = 1;
        }

        private void add(int shareAbove, int shareBelow) {
            long newAbove = above * shareBelow + shareAbove * below;
            long newBelow = below * shareBelow;
            long divisor = commonDivisor(newAbove, newBelow);
            above = newAbove / divisor;
            below = newBelow / divisor;
        }

        private static long commonDivisor(long a, long b) {
            long greater = a;
            long lesser = b;
            for (int step = 0; step < MOST_STEPS && lesser != 0; step++) {
                long rest = greater % lesser;
                greater = lesser;
                lesser = rest;
            }
            return Math.max(1, greater);
        }
    }

    /** Counts the signs of a chain and catches the wanted one, so that no text is ever kept. */
    private static final class Print {
        /** The greatest power of ten in any number of a chain. */
        private static final int GREATEST_UNIT = 100000;

        private int wanted;
        private int length;
        private int caught;

        private void start(int wantedSign) {
            wanted = wantedSign;
            length = 0;
            caught = NONE;
        }

        private void sign(int sign) {
            if (length == wanted) {
                caught = sign;
            }
            length++;
        }

        private void number(int n) {
            for (int unit = GREATEST_UNIT; unit > 0; unit /= 10) {
                if (n >= unit || unit == 1) {
                    sign('0' + n / unit % 10);
                }
            }
        }
    }

    /** The rules of danger. */
    private static final class Rules {
        private final int[] person = new int[MOST_RULES];
        private final int[] from = new int[MOST_RULES];
        private final int[] to = new int[MOST_RULES];
        private int count;

        private int add(int ofPerson, int fromDay, int toDay) {
            person[count] = ofPerson;
            from[count] = fromDay;
            to[count] = toDay;
            count++;
            return count - 1;
        }

        private boolean touch(int ofPerson, int fromDay, int toDay) {
            for (int rule = 0; rule < count; rule++) {
                boolean meets = from[rule] <= toDay && fromDay <= to[rule];
                if (meets && (person[rule] == NONE || person[rule] == ofPerson)) {
                    return true;
                }
            }
            return false;
        }
    }

    /** The claims; who made one is not kept, for no answer tells it. */
    private static final class Claims {
        private final int[] thing = new int[MOST_CLAIMS];
        private final int[] from = new int[MOST_CLAIMS];
        /** The day, or NONE while the claim is open. */
        private final int[] settled = new int[MOST_CLAIMS];
        private int count;

        private int add(int ofThing, int day) {
            thing[count] = ofThing;
            from[count] = day;
            settled[count] = NONE;
            count++;
            return count - 1;
        }

        private boolean hold(int ofThing, int day) {
            for (int claim = 0; claim < count; claim++) {
                boolean open = settled[claim] == NONE || day < settled[claim];
                if (thing[claim] == ofThing && from[claim] <= day && open) {
                    return true;
                }
            }
            return false;
        }
    }

    /** What was told of makers and their rights. */
    private static final class Rights {
        private final int[] years = new int[KINDS];
        private final int[] maker = new int[MOST_THINGS];
        private final int[] end = new int[PERSONS];

        private Rights() {
            Arrays.fill(maker, NONE);
            Arrays.fill(end, NONE);
        }

        private int holder(int thing, int kind, int day) {
            int person = maker[thing];
            if (person == NONE) {
                return NONE;
            }
            boolean lives = end[person] == NONE;
            return lives || day <= end[person] + years[kind] * DAYS_OF_YEAR ? person : NONE;
        }
    }

    /** The licences. */
    private static final class Licences {
        private final int[] thing = new int[MOST_LICENCES];
        private final int[] use = new int[MOST_LICENCES];
        private final int[] from = new int[MOST_LICENCES];
        private final int[] to = new int[MOST_LICENCES];
        private int count;

        private int add(int ofThing, int forUse, int fromDay, int toDay) {
            thing[count] = ofThing;
            use[count] = forUse;
            from[count] = fromDay;
            to[count] = toDay;
            count++;
            return count;
        }

        private boolean allow(int ofThing, int forUse, int day) {
            for (int i = 0; i < count; i++) {
                boolean same = thing[i] == ofThing && use[i] == forUse;
                if (same && from[i] <= day && day <= to[i]) {
                    return true;
                }
            }
            return false;
        }
    }

    /** The values, in the order in which they came. */
    private static final class Values {
        private final int[] thing = new int[MOST_VALUES];
        private final int[] from = new int[MOST_VALUES];
        private final int[] currency = new int[MOST_VALUES];
        private final int[] v = new int[MOST_VALUES];
        private int count;

        private int add(int ofThing, int day, int inCurrency, int amount) {
            thing[count] = ofThing;
            from[count] = day;
            currency[count] = inCurrency;
            v[count] = amount;
            count++;
            return count;
        }

        private int latest(int ofThing, int day, int inCurrency) {
            int answer = NONE;
            int best = NONE;
            for (int i = 0; i < count; i++) {
                boolean same = thing[i] == ofThing && currency[i] == inCurrency;
                if (same && from[i] <= day && from[i] >= best) {
                    answer = v[i];
                    best = from[i];
                }
            }
            return answer;
        }
    }
}
