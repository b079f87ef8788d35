import java.lang.reflect.InvocationTargetException;
import java.lang.reflect.Method;
import java.util.ArrayList;
import java.util.Arrays;
import java.util.List;

/**
 * Every call with every argument at the ends of its range and beyond them, with room left and with
 * every limit reached: which exception comes, which one first, and that a refused call changes
 * nothing.
 */
public final class RefusalTest extends Checks {
    private static final int MOST_CALLS = 512;
    /** Of thing 0 in both worlds, on the last day. */
    private static final String CHAIN = "3@0-100000?;";

    /** What an argument may be, by the document's terms; ROW and CLAIM depend on the world. */
    private enum Range {
        THING("THINGS are 0 .. 15", 0, 15, NO_SUCH),
        PERSON("PERSONS 0 .. 31", 0, 31, NO_SUCH),
        PERSON_OR_ANY("a person or any (NONE)", NONE, 31, NO_SUCH),
        ROLE("ROLES 0 .. 7", 0, 7, NO_SUCH),
        ROW("ROWS are 0, 1, ..", 0, 0, NO_SUCH),
        FIELD("its person (field 0), from (1) or to (2)", 0, 2, NO_SUCH),
        KIND("RIGHTS of kinds 0 .. 3", 0, 3, NO_SUCH),
        USE("a USE 0 .. 7", 0, 7, NO_SUCH),
        CURRENCY("a CURRENCY 0 .. 7", 0, 7, NO_SUCH),
        CLAIM("its number (of a claim)", 0, 0, NO_SUCH),
        WHAT("what 0 .. 1 .. 2", 0, 2, NO_SUCH),
        PLACE("k is below 0", 0, MOST_INT, NO_SUCH),
        SIDE("end (part) is neither", 0, 1, NO_SUCH),
        SIGN("there is no such sign", NONE, CHAIN.length() - 1, NO_SUCH),
        DAY("DAYS are 0 .. 100000", 0, LAST, ARGUMENT),
        YEARS("YEARS 0 .. 200", 0, 200, ARGUMENT),
        AMOUNT("v is below 0", 0, MOST_INT, ARGUMENT),
        PART_OF_SHARE("1 <= above <= below <= 1000", 1, 1000, ARGUMENT),
        FLAG("on", 0, 1, null);

        final String words;
        final int least;
        final int most;
        final Class<?> refusal;

        Range(String words, int least, int most, Class<?> refusal) {
            this.words = words;
            this.least = least;
            this.most = most;
            this.refusal = refusal;
        }
    }

    /** A call: arguments that hold in both worlds, their ranges, and whether a limit can refuse it. */
    private static final class Form {
        final String name;
        final List<Range> ranges = new ArrayList<>();
        final List<Integer> good = new ArrayList<>();
        /** Arguments that are fine one by one and wrong together. */
        final List<int[]> crossed = new ArrayList<>();
        boolean limited;

        Form(String name) {
            this.name = name;
        }

        Form takes(Range range, int value) {
            ranges.add(range);
            good.add(value);
            return this;
        }

        Form crossed(int... args) {
            crossed.add(args);
            return this;
        }

        Form limited() {
            limited = true;
            return this;
        }

        int[] args() {
            return good.stream().mapToInt(Integer::intValue).toArray();
        }

        int[] argsWith(int place, int value) {
            int[] args = args();
            args[place] = value;
            return args;
        }
    }

    private static final Form[] FORMS = {
        new Form("thing").limited(),
        new Form("owner").takes(Range.THING, 0).takes(Range.PERSON, 0).takes(Range.DAY, 0).takes(Range.DAY, LAST)
            .takes(Range.DAY, 0).limited().crossed(0, 0, 1, 0, 0).crossed(0, 0, LAST, LAST - 1, 0),
        new Form("share").takes(Range.ROW, 0).takes(Range.PART_OF_SHARE, 1).takes(Range.PART_OF_SHARE, 1000)
            .crossed(0, 2, 1).crossed(0, 1000, 999),
        new Form("doubt").takes(Range.ROW, 0).takes(Range.FLAG, 0),
        new Form("correct").takes(Range.ROW, 0).takes(Range.FIELD, 0).takes(Range.PERSON, 31).takes(Range.DAY, LAST)
            .limited().crossed(1, 0, 31, 9),
        new Form("correct").takes(Range.ROW, 0).takes(Range.FIELD, 1).takes(Range.DAY, 5).takes(Range.DAY, LAST)
            .limited().crossed(1, 1, 0, 9),
        new Form("correct").takes(Range.ROW, 0).takes(Range.FIELD, 2).takes(Range.DAY, 5).takes(Range.DAY, LAST)
            .limited().crossed(1, 2, 0, 9),
        new Form("known").takes(Range.ROW, 0).takes(Range.FIELD, 0).takes(Range.DAY, 0),
        new Form("gap").takes(Range.THING, 0).takes(Range.PLACE, 0).takes(Range.SIDE, 0).takes(Range.DAY, 0),
        new Form("held").takes(Range.THING, 0).takes(Range.DAY, 0).takes(Range.DAY, 0).takes(Range.SIDE, 0).limited(),
        new Form("danger").takes(Range.PERSON_OR_ANY, 0).takes(Range.DAY, 0).takes(Range.DAY, LAST).limited()
            .crossed(0, 1, 0).crossed(NONE, LAST, LAST - 1),
        new Form("asked").takes(Range.THING, 0).takes(Range.PLACE, 0).takes(Range.DAY, 0),
        new Form("claim").takes(Range.THING, 0).takes(Range.PERSON, 0).takes(Range.DAY, 0).limited(),
        new Form("settle").takes(Range.CLAIM, 0).takes(Range.DAY, LAST).limited().crossed(1, 9),
        new Form("stops").takes(Range.THING, 0).takes(Range.DAY, 0),
        new Form("tell").takes(Range.WHAT, 0).takes(Range.KIND, 0).takes(Range.YEARS, 0),
        new Form("tell").takes(Range.WHAT, 1).takes(Range.THING, 0).takes(Range.PERSON, 0),
        new Form("tell").takes(Range.WHAT, 2).takes(Range.PERSON, 0).takes(Range.DAY, 0),
        new Form("rights").takes(Range.THING, 0).takes(Range.KIND, 0).takes(Range.DAY, 0),
        new Form("licence").takes(Range.THING, 0).takes(Range.USE, 0).takes(Range.DAY, 0).takes(Range.DAY, LAST)
            .limited().crossed(0, 0, 1, 0).crossed(0, 0, LAST, LAST - 1),
        new Form("licensed").takes(Range.THING, 0).takes(Range.USE, 0).takes(Range.DAY, 0),
        new Form("seal").takes(Range.ROW, 0).takes(Range.ROLE, 0).takes(Range.FLAG, 0),
        new Form("seen").takes(Range.THING, 0).takes(Range.ROLE, 0).takes(Range.PLACE, 0).takes(Range.DAY, 0),
        new Form("worth").takes(Range.THING, 0).takes(Range.DAY, 0).takes(Range.CURRENCY, 0).takes(Range.AMOUNT, 0)
            .limited(),
        new Form("value").takes(Range.THING, 0).takes(Range.DAY, 0).takes(Range.CURRENCY, 0),
        new Form("chain").takes(Range.THING, 0).takes(Range.DAY, LAST).takes(Range.SIGN, NONE),
    };

    /** Objects that have all been made by the same calls. */
    private abstract static class World {
        int rows;
        int claims;
        int calls;

        abstract OwnerRows make();

        int most(Range range) {
            if (range == Range.ROW) {
                return rows - 1;
            }
            return range == Range.CLAIM ? claims - 1 : range.most;
        }

        /** Sixteen things, and two or three of whatever else there is; 38 calls. */
        static OwnerRows some() {
            OwnerRows x = withThings(16);
            x.owner(0, 3, 0, LAST, 0);
            x.owner(15, 31, 20, 30, 10);
            x.owner(15, 0, 40, 50, 0);
            x.doubt(0, true);
            x.seal(1, 7, true);
            x.share(1, 1, 3);
            x.correct(2, 1, 35, 20);
            x.correct(2, 2, 45, 20);
            x.danger(3, 0, 0);
            x.danger(NONE, 50, LAST);
            x.claim(0, 1, 0);
            x.claim(15, 31, 10);
            x.tell(0, 3, 1);
            x.tell(1, 15, 31);
            x.tell(2, 31, 10);
            x.licence(0, 0, 5, 9);
            x.licence(15, 7, 10, 10);
            x.worth(0, 5, 0, 70);
            x.worth(15, LAST, 7, MOST_INT);
            x.tell(1, 0, 2);
            x.tell(2, 3, 3);
            x.seal(2, 0, true);
            return x;
        }
    }

    /** There is room for more of everything. */
    private static final class Roomy extends World {
        Roomy() {
            rows = 3;
            claims = 2;
            calls = 38;
        }

        @Override
        OwnerRows make() {
            return some();
        }
    }

    /** Every limit is reached, claim 0 is settled, and what thing 0's shares come to on day 0 is too long. */
    private static final class Full extends World {
        Full() {
            rows = 120;
            claims = 30;
            calls = 38 + 1 + 117 + 4 + 198 + 8 + 28 + 38 + 58;
        }

        @Override
        OwnerRows make() {
            OwnerRows x = some();
            x.settle(0, 10);
            for (int row = 3; row < 120; row++) {
                x.owner(row < 100 ? 0 : 15, row % 32, 0, 0, row < 7 ? 0 : LAST);
            }
            x.share(3, 1, 1000);
            x.share(4, 1, 999);
            x.share(5, 1, 997);
            x.share(6, 1, 991);
            // All of these are void on the last day, so that thing 0's chain stays CHAIN.
            for (int i = 0; i < 198; i++) {
                x.correct(3 + i % 117, i < 117 ? 1 : 0, 7, LAST);
            }
            fillTheRest(x);
            return x;
        }

        private static void fillTheRest(OwnerRows x) {
            for (int i = 0; i < 58; i++) {
                if (i < 8) {
                    x.danger(i, i, i);
                }
                if (i < 28) {
                    x.claim(1, i, i);
                }
                if (i < 38) {
                    x.licence(2, 7, i, i);
                }
                x.worth(3, i, 7, i);
            }
        }
    }

    private record Question(String name, int[] args) {}

    private static List<Question> questions(World world) {
        List<Question> all = new ArrayList<>();
        for (int row : new int[] {0, 1, 2, world.rows - 1}) {
            for (int field = 0; field < 3; field++) {
                ask(all, "known", row, field, 0);
                ask(all, "known", row, field, 10);
                ask(all, "known", row, field, LAST);
            }
        }
        for (int thing : new int[] {0, 15}) {
            askOfRows(all, thing);
            askOfTheRest(all, thing);
        }
        // The last of each limit; then what a call that changes something tells of the state before.
        ask(all, "stops", 1, 26);
        ask(all, "stops", 1, 27);
        ask(all, "licensed", 2, 7, 37);
        ask(all, "value", 3, LAST, 7);
        for (int row : new int[] {0, 1, 2, world.rows - 1}) {
            ask(all, "doubt", row, 1);
            ask(all, "seal", row, 0, 1);
            ask(all, "seal", row, 7, 1);
        }
        ask(all, "settle", 0, LAST);
        ask(all, "settle", world.claims - 1, LAST);
        for (Form form : FORMS) {
            if (form.limited) {
                ask(all, form.name, form.args());
            }
        }
        return all;
    }

    private static void askOfRows(List<Question> all, int thing) {
        for (int i = NONE; i < CHAIN.length(); i++) {
            ask(all, "chain", thing, LAST, i);
        }
        for (int k = 0; k < 3; k++) {
            ask(all, "gap", thing, k, 0, LAST);
            ask(all, "gap", thing, k, 1, LAST);
            ask(all, "asked", thing, k, 20);
            ask(all, "seen", thing, 0, k, 20);
            ask(all, "seen", thing, 7, k, LAST);
        }
        for (int on : new int[] {0, 25, 40}) {
            ask(all, "held", thing, on, 20, 0);
            ask(all, "held", thing, on, 20, 1);
        }
    }

    private static void askOfTheRest(List<Question> all, int thing) {
        for (int day : new int[] {0, 5, 10, 375, 376, LAST}) {
            ask(all, "stops", thing, day);
            ask(all, "rights", thing, 0, day);
            ask(all, "rights", thing, 3, day);
            ask(all, "licensed", thing, 0, day);
            ask(all, "licensed", thing, 7, day);
            ask(all, "value", thing, day, 0);
            ask(all, "value", thing, day, 7);
        }
    }

    private static void ask(List<Question> all, String name, int... args) {
        all.add(new Question(name, args));
    }

    /** The answer, or the class of what was thrown. */
    private static Object answer(OwnerRows x, String name, int... args) {
        Method method = Arrays.stream(OwnerRows.class.getMethods())
            .filter(m -> m.getName().equals(name)).findFirst().orElseThrow();
        Object[] given = new Object[args.length];
        for (int i = 0; i < args.length; i++) {
            given[i] = method.getParameterTypes()[i] == boolean.class ? (Object) (args[i] == 1) : (Object) args[i];
        }
        try {
            Object got = method.invoke(x, given);
            return got == null ? "nothing" : got;
        } catch (InvocationTargetException e) {
            return e.getCause().getClass();
        } catch (IllegalAccessException e) {
            throw new IllegalStateException(e);
        }
    }

    /** What the world answers behind the call (or behind none, if it is null), never by more than 512 calls. */
    private static List<Object> answersBehind(World world, List<Question> all, Question call) {
        List<Object> answers = new ArrayList<>();
        OwnerRows x = null;
        int left = 0;
        for (Question q : all) {
            if (left == 0) {
                x = world.make();
                left = MOST_CALLS - world.calls - 1;
                if (call != null) {
                    answer(x, call.name, call.args);
                }
            }
            answers.add(answer(x, q.name, q.args));
            left--;
        }
        return answers;
    }

    private static void accepts(World world, Form form, int place, int value) {
        Object got = answer(world.make(), form.name, form.argsWith(place, value));
        is(form.name + " argument " + place + " = " + value + " accepted",
            form.name + " argument " + place + " = " + value + (got instanceof Class ? " refused by " + got : " accepted"));
    }

    private static void refuses(World world, Form form, int place, int value) {
        String text = form.name + " argument " + place + " = " + value + " ";
        is(text + form.ranges.get(place).refusal, text + answer(world.make(), form.name, form.argsWith(place, value)));
    }

    private static void checkRange(Range range) {
        World world = new Roomy();
        for (Form form : FORMS) {
            for (int place = 0; place < form.ranges.size(); place++) {
                if (form.ranges.get(place) == range) {
                    accepts(world, form, place, range.least);
                    accepts(world, form, place, world.most(range));
                    refuses(world, form, place, range.least - 1);
                    refuses(world, form, place, LEAST_INT);
                    if (world.most(range) != MOST_INT) {
                        refuses(world, form, place, world.most(range) + 1);
                        refuses(world, form, place, MOST_INT);
                    }
                }
            }
        }
    }

    /** All ways in which the arguments are good, one too small or one too large, each by itself. */
    private static List<int[]> mixtures(World world, Form form) {
        List<int[]> all = new ArrayList<>();
        all.add(form.args());
        for (int place = 0; place < form.ranges.size(); place++) {
            Range range = form.ranges.get(place);
            List<int[]> more = new ArrayList<>();
            for (int[] args : all) {
                if (range.refusal != null) {
                    more.add(with(args, place, range.least - 1));
                }
                if (range.refusal != null && world.most(range) != MOST_INT) {
                    more.add(with(args, place, world.most(range) + 1));
                }
            }
            all.addAll(more);
        }
        return all;
    }

    private static int[] with(int[] args, int place, int value) {
        int[] copy = args.clone();
        copy[place] = value;
        return copy;
    }

    private static Class<?> refusalOf(World world, Form form, int[] args) {
        Class<?> due = null;
        for (int place = 0; place < args.length; place++) {
            Range range = form.ranges.get(place);
            boolean good = range.refusal == null || range.least <= args[place] && args[place] <= world.most(range);
            if (!good && due != NO_SUCH) {
                due = range.refusal;
            }
        }
        return due;
    }

    /** Which signs there are on what is no day, the document does not say. */
    private static boolean isOpen(Form form, int[] args) {
        return form.name.equals("chain") && args[2] > NONE && (args[1] < 0 || args[1] > LAST);
    }

    private static void checkRefused(World world, List<Question> all, List<Object> before, Form form, int[] args,
            Class<?> due) {
        String text = form.name + Arrays.toString(args) + " ";
        is(text + due, text + answer(world.make(), form.name, args));
        List<Object> behind = answersBehind(world, all, new Question(form.name, args));
        for (int i = 0; i < all.size(); i++) {
            if (!before.get(i).equals(behind.get(i))) {
                Question q = all.get(i);
                report(text + "changed " + q.name + Arrays.toString(q.args) + " from " + before.get(i) + " to "
                    + behind.get(i));
            }
        }
    }

    private static void checkForm(World world, List<Question> all, List<Object> before, Form form) {
        boolean full = world instanceof Full;
        for (int[] args : mixtures(world, form)) {
            Class<?> refusal = refusalOf(world, form, args);
            Class<?> due = refusal == null && full && form.limited ? STATE : refusal;
            if (due != null && !isOpen(form, args)) {
                checkRefused(world, all, before, form, args, due);
            }
        }
        for (int[] args : form.crossed) {
            checkRefused(world, all, before, form, args, ARGUMENT);
            for (int place = 0; place < args.length; place++) {
                if (form.ranges.get(place).refusal == NO_SUCH) {
                    checkRefused(world, all, before, form, with(args, place, form.ranges.get(place).least - 1), NO_SUCH);
                }
            }
        }
    }

    private static void checkWorld(World world) {
        is(CHAIN, chainOf(world.make(), 0, LAST));
        List<Question> all = questions(world);
        List<Object> before = answersBehind(world, all, null);
        for (Form form : FORMS) {
            checkForm(world, all, before, form);
        }
    }

    public static void main(String[] args) {
        for (Range range : Range.values()) {
            if (range.refusal != null) {
                part(range.words, () -> checkRange(range));
            }
        }
        part("Such a call changes nothing (with room left)", () -> checkWorld(new Roomy()));
        part("Such a call changes nothing (at every limit)", () -> checkWorld(new Full()));
        end();
    }
}
