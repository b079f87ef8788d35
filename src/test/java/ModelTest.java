import java.math.BigInteger;
import java.util.ArrayList;
import java.util.Comparator;
import java.util.List;
import java.util.NoSuchElementException;
import java.util.Objects;
import java.util.Random;
import java.util.TreeSet;

/**
 * Long runs of calls with fixed seeds, each answer held against a slow model that takes the
 * document word by word: each field by all corrections, chains as whole texts, sums of any length.
 */
public final class ModelTest {
    private static final int NONE = -1;
    private static final int LAST = 100000;
    private static final int RUNS = 1500;
    private static final int CALLS = 512;

    private static final String N = "NoSuchElementException";
    private static final String A = "IllegalArgumentException";
    private static final String S = "IllegalStateException";

    private static final class Row {
        int number;
        int thing;
        int[] first;
        int told;
        int above = 1;
        int below = 1;
        boolean doubt;
        TreeSet<Integer> sealed = new TreeSet<>();
        List<int[]> corrections = new ArrayList<>();
    }

    private record Known(Row row, int person, int from, int to) {}

    /** Answers are numbers or the names of exceptions. */
    private static final class Model {
        int things;
        int corrections;
        List<Row> rows = new ArrayList<>();
        List<int[]> rules = new ArrayList<>();
        List<int[]> claims = new ArrayList<>();
        List<int[]> licences = new ArrayList<>();
        List<int[]> worths = new ArrayList<>();
        int[] years = new int[4];
        Integer[] maker = new Integer[16];
        Integer[] end = new Integer[32];

        static boolean in(int n, int many) {
            return 0 <= n && n < many;
        }

        static boolean day(int d) {
            return in(d, LAST + 1);
        }

        static int field(Row r, int field, int day) {
            int[] best = {field, r.first[field], NONE};
            for (int[] c : r.corrections) {
                if (c[0] == field && c[2] <= day && c[2] >= best[2]) {
                    best = c;
                }
            }
            return best[1];
        }

        List<Known> known(int thing, int day) {
            List<Known> all = new ArrayList<>();
            for (Row r : rows) {
                if (r.thing == thing && r.told <= day) {
                    Known k = new Known(r, field(r, 0, day), field(r, 1, day), field(r, 2, day));
                    if (k.from <= k.to) {
                        all.add(k);
                    }
                }
            }
            return all;
        }

        Object answer(int call, int[] a) {
            String fault = fault(call, a);
            return fault != null ? fault : result(call, a);
        }

        String fault(int call, int[] a) {
            if (missing(call, a)) {
                return N;
            }
            if (bad(call, a)) {
                return A;
            }
            return full(call, a) ? S : null;
        }

        boolean missing(int call, int[] a) {
            switch (call) {
                case 0: return false;
                case 1: return !in(a[0], things) || !in(a[1], 32);
                case 2: return !in(a[0], rows.size());
                case 3: return !in(a[0], rows.size());
                case 4: return !in(a[0], rows.size()) || !in(a[1], 3) || a[1] == 0 && !in(a[2], 32);
                case 5: return !in(a[0], rows.size()) || !in(a[1], 3);
                case 6: return !in(a[0], things) || a[1] < 0 || !in(a[2], 2);
                case 7: return !in(a[0], things) || !in(a[3], 2);
                case 8: return a[0] != NONE && !in(a[0], 32);
                case 9: return !in(a[0], things) || a[1] < 0;
                case 10: return !in(a[0], things) || !in(a[1], 32);
                case 11: return !in(a[0], claims.size());
                case 12: return !in(a[0], things);
                case 13: return !in(a[0], 3) || a[0] == 0 && !in(a[1], 4)
                        || a[0] == 1 && (!in(a[1], things) || !in(a[2], 32)) || a[0] == 2 && !in(a[1], 32);
                case 14: return !in(a[0], things) || !in(a[1], 4);
                case 15: case 16: return !in(a[0], things) || !in(a[1], 8);
                case 17: return !in(a[0], rows.size()) || !in(a[1], 8);
                case 18: return !in(a[0], things) || !in(a[1], 8) || a[2] < 0;
                case 19: case 20: return !in(a[0], things) || !in(a[2], 8);
                default: return !in(a[0], things) || a[2] < NONE || day(a[1]) && a[2] >= chain(a).length();
            }
        }

        boolean bad(int call, int[] a) {
            switch (call) {
                case 1: return !day(a[2]) || !day(a[3]) || !day(a[4]) || a[2] > a[3];
                case 2: return !(1 <= a[1] && a[1] <= a[2] && a[2] <= 1000);
                case 4: return a[1] != 0 && !day(a[2]) || !day(a[3]) || a[3] < rows.get(a[0]).told;
                case 5: return !day(a[2]);
                case 6: return !day(a[3]);
                case 7: return !day(a[1]) || !day(a[2]);
                case 8: return !day(a[1]) || !day(a[2]) || a[1] > a[2];
                case 9: case 10: case 14: case 16: return !day(a[2]);
                case 11: return !day(a[1]) || a[1] < claims.get(a[0])[1];
                case 12: return !day(a[1]);
                case 13: return a[0] == 0 && !in(a[2], 201) || a[0] == 2 && !day(a[2]);
                case 15: return !day(a[2]) || !day(a[3]) || a[2] > a[3];
                case 18: return !day(a[3]);
                case 19: return !day(a[1]) || a[3] < 0;
                case 20: case 21: return !day(a[1]);
                default: return false;
            }
        }

        boolean full(int call, int[] a) {
            switch (call) {
                case 0: return things == 16;
                case 1: return rows.size() == 120;
                case 4: return corrections == 200;
                case 7: return sum(a) == null;
                case 8: return rules.size() == 10;
                case 10: return claims.size() == 30;
                case 11: return claims.get(a[0])[2] != NONE;
                case 15: return licences.size() == 40;
                case 19: return worths.size() == 60;
                default: return false;
            }
        }

        Object result(int call, int[] a) {
            switch (call) {
                case 0: return things++;
                case 1: return addRow(a);
                case 2: rows.get(a[0]).above = a[1]; rows.get(a[0]).below = a[2]; return 0;
                case 3: return setDoubt(rows.get(a[0]), a[1] == 1);
                case 4: corrections++; rows.get(a[0]).corrections.add(new int[] {a[1], a[2], a[3]}); return 0;
                case 5: return rows.get(a[0]).told > a[2] ? NONE : field(rows.get(a[0]), a[1], a[2]);
                case 6: return gap(a);
                case 7: return sum(a)[a[3]].intValueExact();
                case 8: rules.add(a); return rules.size() - 1;
                case 9: return kth(known(a[0], a[2]).stream().filter(this::inDanger).toList(), a[1]);
                case 10: claims.add(new int[] {a[0], a[2], NONE}); return claims.size() - 1;
                case 11: claims.get(a[0])[2] = a[1]; return 0;
                case 12: return claims.stream().anyMatch(c -> c[0] == a[0] && c[1] <= a[1]
                        && !(c[2] != NONE && c[2] <= a[1])) ? 1 : 0;
                case 13: tell(a); return 0;
                case 14: return rights(a);
                case 15: licences.add(a); return licences.size();
                case 16: return licences.stream().anyMatch(l -> l[0] == a[0] && l[1] == a[1]
                        && l[2] <= a[2] && a[2] <= l[3]) ? 1 : 0;
                case 17: return (a[2] == 1 ? rows.get(a[0]).sealed.add(a[1]) : rows.get(a[0]).sealed.remove(a[1])) ? 1 : 0;
                case 18: return kth(known(a[0], a[3]).stream().filter(k -> !k.row.sealed.contains(a[1])).toList(), a[2]);
                case 19: worths.add(a); return worths.size();
                case 20: return value(a);
                default: return a[2] == NONE ? chain(a).length() : chain(a).charAt(a[2]);
            }
        }

        int addRow(int[] a) {
            Row r = new Row();
            r.number = rows.size();
            r.thing = a[0];
            r.first = new int[] {a[1], a[2], a[3]};
            r.told = a[4];
            rows.add(r);
            return r.number;
        }

        static int setDoubt(Row r, boolean on) {
            boolean was = r.doubt;
            r.doubt = on;
            return was == on ? 0 : 1;
        }

        static int kth(List<Known> all, int k) {
            return k < all.size() ? all.get(k).row.number : NONE;
        }

        boolean inDanger(Known k) {
            for (int[] rule : rules) {
                int common = Math.min(k.to, rule[2]) - Math.max(k.from, rule[1]);
                if (common >= 0 && (rule[0] == NONE || rule[0] == k.person)) {
                    return true;
                }
            }
            return false;
        }

        /** A gap begins behind some row and ends before some row, on days in which no row lies. */
        int gap(int[] a) {
            List<Known> all = known(a[0], a[3]);
            if (all.isEmpty()) {
                return NONE;
            }
            int least = all.stream().mapToInt(Known::from).min().getAsInt();
            int greatest = all.stream().mapToInt(Known::to).max().getAsInt();
            TreeSet<Integer> starts = new TreeSet<>();
            TreeSet<Integer> ends = new TreeSet<>();
            for (Known k : all) {
                if (k.to < greatest && !covered(all, k.to + 1)) {
                    starts.add(k.to + 1);
                }
                if (k.from > least && !covered(all, k.from - 1)) {
                    ends.add(k.from - 1);
                }
            }
            List<Integer> wanted = new ArrayList<>(a[2] == 0 ? starts : ends);
            return a[1] < wanted.size() ? wanted.get(a[1]) : NONE;
        }

        static boolean covered(List<Known> all, int day) {
            return all.stream().anyMatch(k -> k.from <= day && day <= k.to);
        }

        /** Null if it grows too long. */
        BigInteger[] sum(int[] a) {
            BigInteger most = BigInteger.valueOf(1000000000);
            BigInteger above = BigInteger.ZERO;
            BigInteger below = BigInteger.ONE;
            for (Known k : known(a[0], a[2])) {
                if (k.from <= a[1] && a[1] <= k.to) {
                    BigInteger p = BigInteger.valueOf(k.row.above);
                    BigInteger q = BigInteger.valueOf(k.row.below);
                    above = above.multiply(q).add(p.multiply(below));
                    below = below.multiply(q);
                    BigInteger g = above.gcd(below);
                    above = above.divide(g);
                    below = below.divide(g);
                    if (above.compareTo(most) > 0 || below.compareTo(most) > 0) {
                        return null;
                    }
                }
            }
            return new BigInteger[] {above, below};
        }

        void tell(int[] a) {
            if (a[0] == 0) {
                years[a[1]] = a[2];
            } else if (a[0] == 1) {
                maker[a[1]] = a[2];
            } else {
                end[a[1]] = a[2];
            }
        }

        int rights(int[] a) {
            Integer m = maker[a[0]];
            if (m == null) {
                return NONE;
            }
            return end[m] == null || a[2] <= end[m] + 365 * years[a[1]] ? m : NONE;
        }

        int value(int[] a) {
            int[] best = null;
            for (int[] w : worths) {
                if (w[0] == a[0] && w[2] == a[2] && w[1] <= a[1] && (best == null || w[1] >= best[1])) {
                    best = w;
                }
            }
            return best == null ? NONE : best[3];
        }

        String chain(int[] a) {
            StringBuilder text = new StringBuilder();
            List<Known> all = known(a[0], a[1]);
            all.sort(Comparator.comparingInt(Known::from).thenComparingInt(k -> k.row.number));
            for (Known k : all) {
                text.append(k.person).append('@').append(k.from).append('-').append(k.to);
                text.append(k.row.doubt ? "?;" : ";");
            }
            return text.toString();
        }
    }

    private static Object call(OwnerRows x, int call, int[] a) {
        switch (call) {
            case 0: return x.thing();
            case 1: return x.owner(a[0], a[1], a[2], a[3], a[4]);
            case 2: x.share(a[0], a[1], a[2]); return 0;
            case 3: return x.doubt(a[0], a[1] == 1) ? 1 : 0;
            case 4: x.correct(a[0], a[1], a[2], a[3]); return 0;
            case 5: return x.known(a[0], a[1], a[2]);
            case 6: return x.gap(a[0], a[1], a[2], a[3]);
            case 7: return x.held(a[0], a[1], a[2], a[3]);
            case 8: return x.danger(a[0], a[1], a[2]);
            case 9: return x.asked(a[0], a[1], a[2]);
            case 10: return x.claim(a[0], a[1], a[2]);
            case 11: x.settle(a[0], a[1]); return 0;
            case 12: return x.stops(a[0], a[1]) ? 1 : 0;
            case 13: x.tell(a[0], a[1], a[2]); return 0;
            case 14: return x.rights(a[0], a[1], a[2]);
            case 15: return x.licence(a[0], a[1], a[2], a[3]);
            case 16: return x.licensed(a[0], a[1], a[2]) ? 1 : 0;
            case 17: return x.seal(a[0], a[1], a[2] == 1) ? 1 : 0;
            case 18: return x.seen(a[0], a[1], a[2], a[3]);
            case 19: return x.worth(a[0], a[1], a[2], a[3]);
            case 20: return x.value(a[0], a[1], a[2]);
            default: return x.chain(a[0], a[1], a[2]);
        }
    }

    private static Object answer(OwnerRows x, int call, int[] a) {
        try {
            Object got = call(x, call, a);
            return got instanceof Character c ? Integer.valueOf(c) : got;
        } catch (NoSuchElementException | IllegalArgumentException | IllegalStateException e) {
            return e.getClass().getSimpleName();
        }
    }

    /** What each parameter is: t thing, p person or NONE, d day, r row, and so on; the form of each call. */
    private static final String[] FORMS = {
        "", "tpddd", "rss", "rb", "rfvd", "rfd", "tked", "tdde", "pdd", "tkd", "tpd", "cd", "td", "wxy",
        "tid", "tudd", "tud", "rub", "tukd", "tdun", "tdu", "tdg",
    };

    private static final class Chooser {
        final Random random;
        final Model model;
        final int spread;
        final int faults;
        final int shares;

        Chooser(Random random, Model model) {
            this.random = random;
            this.model = model;
            int[] spreads = {6, 40, 300, LAST};
            spread = spreads[random.nextInt(spreads.length)];
            faults = random.nextInt(3) == 0 ? 8 : 60;
            shares = random.nextInt(2) == 0 ? 12 : 1000;
        }

        int below(int n) {
            return n <= 0 ? 0 : random.nextInt(n);
        }

        int fault() {
            int[] odd = {-1, -2, 2, 3, 4, 8, 16, 32, 120, 201, LAST, LAST + 1, Integer.MAX_VALUE, Integer.MIN_VALUE};
            return odd[below(odd.length)];
        }

        int[] arguments(int call) {
            String form = FORMS[call];
            int[] a = new int[form.length()];
            for (int i = 0; i < a.length; i++) {
                a[i] = below(faults) == 0 ? fault() : good(form.charAt(i), a, i);
            }
            boolean spans = form.contains("pdd") || form.contains("udd");
            int at = form.indexOf("dd");
            if (spans && below(faults) != 0 && a[at] > a[at + 1]) {
                int other = a[at];
                a[at] = a[at + 1];
                a[at + 1] = other;
            }
            return a;
        }

        int good(char what, int[] a, int i) {
            switch (what) {
                case 't': return below(model.things);
                case 'p': return below(6) == 0 ? 31 : below(4);
                case 'r': return below(model.rows.size());
                case 's': return i == 1 ? 1 + below(shares) : Math.max(a[1], 1 + below(shares));
                case 'b': case 'e': return below(2);
                case 'f': case 'w': return below(3);
                case 'v': return a[1] == 0 ? below(32) : below(spread + 1);
                case 'k': return below(below(3) == 0 ? 20 : 3);
                case 'c': return below(model.claims.size());
                case 'x': return a[0] == 0 ? below(4) : a[0] == 1 ? below(model.things) : below(4);
                case 'y': return a[0] == 0 ? below(201) : a[0] == 1 ? below(4) : below(spread + 1);
                case 'i': return below(4);
                case 'u': return below(3) == 0 ? 7 : below(3);
                case 'n': return random.nextInt() >>> 1;
                case 'g': return below(8) == 0 ? NONE : below(below(3) == 0 ? 1500 : 40);
                default: return below(20) == 0 ? LAST : below(spread + 1);
            }
        }
    }

    private static final int[] ANSWERS = new int[3];

    private static boolean run(int seed) {
        Random random = new Random(seed);
        Model model = new Model();
        OwnerRows x = new OwnerRows();
        Chooser chooser = new Chooser(random, model);
        int favoured = random.nextInt(FORMS.length);
        int manyThings = random.nextInt(3) == 0 ? 16 : 1 + random.nextInt(3);
        for (int n = 0; n < CALLS; n++) {
            int call = random.nextInt(FORMS.length);
            if (n < manyThings) {
                call = 0;
            } else if (call == 0 && manyThings < 16) {
                call = 1;
            } else if (random.nextInt(3) == 0) {
                call = random.nextBoolean() ? favoured : 1 + 3 * random.nextInt(2);
            }
            int[] a = chooser.arguments(call);
            Object due = model.answer(call, a);
            due = due instanceof Character c ? Integer.valueOf(c) : due;
            Object got = answer(x, call, a.clone());
            ANSWERS[due instanceof String ? 2 : due.equals(NONE) ? 1 : 0]++;
            if (!Objects.equals(due, got)) {
                System.out.println("seed " + seed + ", call " + n + ": " + call + java.util.Arrays.toString(a)
                        + " answered " + got + ", due is " + due);
                return false;
            }
        }
        return true;
    }

    public static void main(String[] args) {
        int wrong = 0;
        for (int seed = 0; seed < RUNS && wrong < 10; seed++) {
            wrong += run(seed) ? 0 : 1;
        }
        System.out.println(ANSWERS[0] + " answers, " + ANSWERS[1] + " NONE, " + ANSWERS[2] + " exceptions; "
                + wrong + " wrong runs");
        if (wrong != 0) {
            System.exit(1);
        }
    }
}
