/** Each promise of the document: ordinary inputs, the edges that it names, wrong inputs and their order. */
public final class PromiseTest extends Checks {
    private static void promise1() {
        OwnerRows x = new OwnerRows();
        fails(NO_SUCH, () -> x.chain(0, 0, NONE));
        fails(NO_SUCH, () -> x.owner(0, 0, 0, 0, 0));
        fails(NO_SUCH, () -> x.doubt(0, true));
        failsAct(NO_SUCH, () -> x.settle(0, 0));
        is(0, x.thing());
        is(0, x.chain(0, LAST, NONE));
        is(NONE, x.gap(0, 0, 0, LAST));
        is(0, x.held(0, 0, LAST, 0));
        is(1, x.held(0, 0, LAST, 1));
        is(NONE, x.asked(0, 0, LAST));
        is(NONE, x.seen(0, 0, 0, LAST));
        is(NONE, x.rights(0, 0, 0));
        is(NONE, x.value(0, LAST, 0));
        is(false, x.stops(0, LAST));
        is(false, x.licensed(0, 0, 0));
        is(0, new OwnerRows().thing());
    }

    private static void promise2() {
        OwnerRows x = new OwnerRows();
        for (int i = 0; i < 16; i++) {
            is(i, x.thing());
        }
        fails(STATE, x::thing);
        fails(STATE, x::thing);
        is(0, x.chain(15, 0, NONE));
        fails(NO_SUCH, () -> x.chain(16, 0, NONE));
        fails(NO_SUCH, () -> x.chain(-1, 0, NONE));
    }

    private static void promise3() {
        OwnerRows x = withThings(2);
        is(0, x.owner(0, 0, 0, 0, 0));
        is(1, x.owner(1, 31, LAST, LAST, LAST));
        is(2, x.owner(0, 5, 0, LAST, 7));
        is("0@0-0;5@0-100000;", chainOf(x, 0, 7));
        is("0@0-0;", chainOf(x, 0, 6));
        is("31@100000-100000;", chainOf(x, 1, LAST));
        fails(NO_SUCH, () -> x.owner(2, 0, 0, 0, 0));
        fails(NO_SUCH, () -> x.owner(-1, 0, 0, 0, 0));
        fails(NO_SUCH, () -> x.owner(0, 32, 0, 0, 0));
        fails(NO_SUCH, () -> x.owner(0, NONE, 0, 0, 0));
        fails(NO_SUCH, () -> x.owner(0, 32, 2, 1, -1));
        fails(ARGUMENT, () -> x.owner(0, 0, -1, 0, 0));
        fails(ARGUMENT, () -> x.owner(0, 0, LAST + 1, LAST + 1, 0));
        fails(ARGUMENT, () -> x.owner(0, 0, 0, LAST + 1, 0));
        fails(ARGUMENT, () -> x.owner(0, 0, 0, 0, -1));
        fails(ARGUMENT, () -> x.owner(0, 0, 0, 0, LAST + 1));
        fails(ARGUMENT, () -> x.owner(0, 0, 2, 1, 0));
        for (int row = 3; row < 120; row++) {
            is(row, x.owner(1, 0, 0, 0, 0));
        }
        fails(STATE, () -> x.owner(0, 0, 0, 0, 0));
        fails(ARGUMENT, () -> x.owner(0, 0, 2, 1, 0));
        fails(NO_SUCH, () -> x.owner(0, 32, 0, 0, 0));
        is("0@0-0;5@0-100000;", chainOf(x, 0, 7));
    }

    private static void promise4() {
        OwnerRows x = withThings(1);
        x.owner(0, 1, 10, 20, 0);
        is("1/1", heldOf(x, 0, 15, 0));
        x.share(0, 1, 1000);
        is("1/1000", heldOf(x, 0, 15, 0));
        x.share(0, 1000, 1000);
        is("1/1", heldOf(x, 0, 15, 0));
        x.share(0, 6, 8);
        is("3/4", heldOf(x, 0, 15, 0));
        failsAct(NO_SUCH, () -> x.share(1, 1, 2));
        failsAct(NO_SUCH, () -> x.share(-1, 0, 0));
        failsAct(ARGUMENT, () -> x.share(0, 0, 1));
        failsAct(ARGUMENT, () -> x.share(0, -1, 1));
        failsAct(ARGUMENT, () -> x.share(0, 2, 1));
        failsAct(ARGUMENT, () -> x.share(0, 1, 1001));
        failsAct(ARGUMENT, () -> x.share(0, 0, 0));
        is("3/4", heldOf(x, 0, 15, 0));
    }

    private static void promise5() {
        OwnerRows x = withThings(1);
        x.owner(0, 1, 10, 20, 0);
        is(false, x.doubt(0, false));
        is(true, x.doubt(0, true));
        is(false, x.doubt(0, true));
        is("1@10-20?;", chainOf(x, 0, 0));
        is(true, x.doubt(0, false));
        is("1@10-20;", chainOf(x, 0, 0));
        fails(NO_SUCH, () -> x.doubt(1, true));
        fails(NO_SUCH, () -> x.doubt(-1, false));
    }

    private static void promise6() {
        OwnerRows x = withThings(1);
        x.owner(0, 1, 10, 20, 5);
        x.correct(0, 0, 31, 5);
        is("31@10-20;", chainOf(x, 0, 5));
        x.correct(0, 1, 0, 9);
        x.correct(0, 2, LAST, LAST);
        is("31@0-20;", chainOf(x, 0, 9));
        is("31@0-100000;", chainOf(x, 0, LAST));
        failsAct(NO_SUCH, () -> x.correct(1, 0, 0, 5));
        failsAct(NO_SUCH, () -> x.correct(-1, 0, 0, 5));
        failsAct(NO_SUCH, () -> x.correct(0, 3, 0, 5));
        failsAct(NO_SUCH, () -> x.correct(0, -1, 0, 5));
        failsAct(NO_SUCH, () -> x.correct(0, 0, 32, 5));
        failsAct(NO_SUCH, () -> x.correct(0, 0, NONE, -1));
        failsAct(NO_SUCH, () -> x.correct(0, 0, 32, 4));
        failsAct(ARGUMENT, () -> x.correct(0, 1, -1, 5));
        failsAct(ARGUMENT, () -> x.correct(0, 2, LAST + 1, 5));
        failsAct(ARGUMENT, () -> x.correct(0, 0, 1, 4));
        failsAct(ARGUMENT, () -> x.correct(0, 0, 1, -1));
        failsAct(ARGUMENT, () -> x.correct(0, 0, 1, LAST + 1));
        is("31@0-100000;", chainOf(x, 0, LAST));
        for (int i = 3; i < 200; i++) {
            x.correct(0, 0, i % 32, 5);
        }
        failsAct(STATE, () -> x.correct(0, 0, 1, 5));
        failsAct(ARGUMENT, () -> x.correct(0, 0, 1, 4));
        failsAct(NO_SUCH, () -> x.correct(0, 0, 32, 5));
        is(199 % 32, x.known(0, 0, 5));
    }

    private static void promise7() {
        OwnerRows x = withThings(1);
        x.owner(0, 1, 10, 20, 5);
        is(NONE, x.known(0, 0, 4));
        is(NONE, x.known(0, 1, 0));
        is(1, x.known(0, 0, 5));
        is(10, x.known(0, 1, 5));
        is(20, x.known(0, 2, LAST));
        x.correct(0, 2, 30, 40);
        x.correct(0, 2, 25, 30);
        is(20, x.known(0, 2, 29));
        is(25, x.known(0, 2, 30));
        is(25, x.known(0, 2, 39));
        is(30, x.known(0, 2, 40));
        x.correct(0, 2, 31, 40);
        is(31, x.known(0, 2, 40));
        x.correct(0, 2, 29, 39);
        is(29, x.known(0, 2, 39));
        is(31, x.known(0, 2, LAST));
        is(10, x.known(0, 1, LAST));
        x.correct(0, 1, 50, 60);
        is(50, x.known(0, 1, 60));
        is(31, x.known(0, 2, 60));
        is(1, x.known(0, 0, 60));
        fails(NO_SUCH, () -> x.known(1, 0, 0));
        fails(NO_SUCH, () -> x.known(-1, 0, 0));
        fails(NO_SUCH, () -> x.known(0, 3, 0));
        fails(NO_SUCH, () -> x.known(0, -1, LAST + 1));
        fails(ARGUMENT, () -> x.known(0, 0, -1));
        fails(ARGUMENT, () -> x.known(0, 0, LAST + 1));
    }

    private static void promise8() {
        OwnerRows x = withThings(2);
        x.owner(0, 1, 40, 41, 0);
        is("", gapsOf(x, 0, 0));
        x.owner(0, 2, 10, 20, 0);
        x.owner(0, 3, 21, 21, 0);
        x.owner(0, 4, 23, 24, 0);
        is("22..22 25..39", gapsOf(x, 0, 0));
        x.owner(0, 5, 15, 30, 9);
        is("22..22 25..39", gapsOf(x, 0, 8));
        is("31..39", gapsOf(x, 0, 9));
        x.owner(1, 5, 0, LAST, 0);
        is("31..39", gapsOf(x, 0, 9));
        is("", gapsOf(x, 1, 9));
        x.owner(0, 6, LAST, LAST, 9);
        x.owner(0, 6, 0, 0, 9);
        is("1..9 31..39 42..99999", gapsOf(x, 0, 9));
        x.correct(4, 2, 14, 10);
        is("1..9 22..22 25..39 42..99999", gapsOf(x, 0, 10));
        is(NONE, x.gap(0, Integer.MAX_VALUE, 0, 10));
        OwnerRows full = withThings(1);
        for (int row = 0; row < 120; row++) {
            full.owner(0, 1, 500 - 2 * row, 500 - 2 * row, 0);
        }
        is(263, full.gap(0, 0, 0, 0));
        is(499, full.gap(0, 118, 1, 0));
        is(NONE, full.gap(0, 119, 0, 0));
        is(NONE, x.gap(0, 4, 1, 10));
        fails(NO_SUCH, () -> x.gap(2, 0, 0, 0));
        fails(NO_SUCH, () -> x.gap(-1, 0, 0, 0));
        fails(NO_SUCH, () -> x.gap(0, -1, 0, 0));
        fails(NO_SUCH, () -> x.gap(0, 0, 2, 0));
        fails(NO_SUCH, () -> x.gap(0, 0, -1, -1));
        fails(ARGUMENT, () -> x.gap(0, 0, 0, -1));
        fails(ARGUMENT, () -> x.gap(0, 0, 0, LAST + 1));
    }

    private static void promise9() {
        OwnerRows x = withThings(2);
        x.owner(0, 1, 10, 20, 0);
        x.owner(0, 2, 20, 30, 5);
        x.owner(1, 2, 0, LAST, 0);
        x.share(0, 1, 6);
        x.share(1, 2, 12);
        is("0/1", heldOf(x, 0, 9, 5));
        is("1/6", heldOf(x, 0, 10, 5));
        is("1/3", heldOf(x, 0, 20, 5));
        is("1/6", heldOf(x, 0, 20, 4));
        is("1/6", heldOf(x, 0, 30, 5));
        is("0/1", heldOf(x, 0, 31, 5));
        x.share(1, 5, 6);
        is("1/1", heldOf(x, 0, 20, 5));
        x.share(1, 1, 1);
        is("7/6", heldOf(x, 0, 20, 5));
        x.correct(1, 2, 19, 50);
        is("1/6", heldOf(x, 0, 20, 50));
        fails(NO_SUCH, () -> x.held(2, 0, 0, 0));
        fails(NO_SUCH, () -> x.held(0, 0, 0, 2));
        fails(NO_SUCH, () -> x.held(0, -1, -1, -1));
        fails(ARGUMENT, () -> x.held(0, -1, 0, 0));
        fails(ARGUMENT, () -> x.held(0, LAST + 1, 0, 0));
        fails(ARGUMENT, () -> x.held(0, 0, -1, 0));
        fails(ARGUMENT, () -> x.held(0, 0, LAST + 1, 1));
        tooLongSums();
    }

    /** A thing whose three rows, of day 50 and known from day 0 on, come to 2992003 / 996003000. */
    private static OwnerRows withLongSum() {
        OwnerRows x = withThings(1);
        int[] below = {1000, 999, 997};
        for (int row = 0; row < below.length; row++) {
            x.owner(0, 1, 50, 50 + row, 0);
            x.share(row, 1, below[row]);
        }
        return x;
    }

    /** Ten whole rows and three parts of 999, 997 and 89. */
    private static OwnerRows withTenAnd(int a, int b, int c) {
        OwnerRows x = withThings(1);
        for (int row = 0; row < 13; row++) {
            x.owner(0, 1, 0, 0, 0);
        }
        x.share(10, a, 999);
        x.share(11, b, 997);
        x.share(12, c, 89);
        return x;
    }

    private static void tooLongSums() {
        OwnerRows x = withLongSum();
        is("2992003/996003000", heldOf(x, 0, 50, 0));
        x.owner(0, 1, 50, 50, 9);
        x.share(3, 1, 991);
        fails(STATE, () -> x.held(0, 50, 9, 0));
        fails(STATE, () -> x.held(0, 50, 9, 1));
        fails(ARGUMENT, () -> x.held(0, 50, -1, 1));
        fails(NO_SUCH, () -> x.held(0, 50, 9, 2));
        is("2992003/996003000", heldOf(x, 0, 50, 8));
        is(999 * 997, x.held(0, 51, 9, 1));
        // With 990 / 991 more the whole sum is short again; the row before it is too much already.
        x.owner(0, 1, 50, 50, 9);
        x.share(4, 990, 991);
        fails(STATE, () -> x.held(0, 50, 9, 1));

        OwnerRows aboveAlone = withLongSum();
        aboveAlone.owner(0, 1, 50, 50, 0);
        is("998995003/996003000", heldOf(aboveAlone, 0, 50, 0));
        aboveAlone.owner(0, 1, 50, 50, 0);
        fails(STATE, () -> aboveAlone.held(0, 50, 0, 0));
        fails(STATE, () -> aboveAlone.held(0, 50, 0, 1));

        is("1000000000/88644267", heldOf(withTenAnd(275, 241, 68), 0, 0, 0));
        fails(STATE, () -> withTenAnd(550, 213, 46).held(0, 0, 0, 1));

        OwnerRows lessened = withThings(1);
        for (int row = 0; row < 100; row++) {
            lessened.owner(0, 1, 0, 0, 0);
            lessened.share(row, 997, 1000);
        }
        is("997/10", heldOf(lessened, 0, 0, 0));
    }

    private static void promise10() {
        OwnerRows x = withThings(1);
        x.owner(0, 4, 10, 20, 0);
        x.owner(0, 0, 0, 0, 9);
        is(NONE, x.asked(0, 0, 9));
        is(0, x.danger(31, 0, 0));
        is(1, x.danger(0, LAST, LAST));
        is(NONE, x.asked(0, 0, 0));
        is(2, x.danger(NONE, 0, 10));
        is(0, x.asked(0, 0, 0));
        fails(NO_SUCH, () -> x.danger(32, 0, 0));
        fails(NO_SUCH, () -> x.danger(-2, 1, 0));
        fails(ARGUMENT, () -> x.danger(NONE, -1, 0));
        fails(ARGUMENT, () -> x.danger(NONE, 0, LAST + 1));
        fails(ARGUMENT, () -> x.danger(0, 1, 0));
        for (int rule = 3; rule < 10; rule++) {
            is(rule, x.danger(3, 0, 0));
        }
        is(NONE, x.asked(0, 1, 0));
        fails(STATE, () -> x.danger(3, 0, 0));
        fails(ARGUMENT, () -> x.danger(3, 1, 0));
        fails(NO_SUCH, () -> x.danger(32, 0, 0));
    }

    private static void promise11() {
        OwnerRows x = withThings(2);
        x.owner(0, 1, 10, 20, 0);
        x.owner(0, 2, 30, 40, 0);
        x.owner(1, 2, 30, 40, 0);
        x.owner(0, 2, 35, 36, 5);
        is(NONE, x.asked(0, 0, 9));
        x.danger(2, 21, 30);
        is(1, x.asked(0, 0, 9));
        is(NONE, x.asked(0, 1, 9));
        is(2, x.asked(1, 0, 9));
        x.danger(1, 30, 40);
        is(1, x.asked(0, 0, 9));
        x.danger(NONE, 36, 37);
        is(3, x.asked(0, 1, 5));
        is(NONE, x.asked(0, 1, 4));
        x.danger(1, 20, 20);
        is(0, x.asked(0, 0, 9));
        is(1, x.asked(0, 1, 9));
        is(3, x.asked(0, 2, 9));
        is(NONE, x.asked(0, 3, 9));
        x.correct(0, 0, 9, 50);
        is(1, x.asked(0, 0, 50));
        x.correct(1, 1, 41, 60);
        is(3, x.asked(0, 0, 60));
        is(NONE, x.asked(0, Integer.MAX_VALUE, 60));
        fails(NO_SUCH, () -> x.asked(2, 0, 0));
        fails(NO_SUCH, () -> x.asked(0, -1, -1));
        fails(ARGUMENT, () -> x.asked(0, 0, -1));
        fails(ARGUMENT, () -> x.asked(0, 0, LAST + 1));
    }

    private static void promise12() {
        OwnerRows x = withThings(2);
        is(0, x.claim(0, 31, LAST));
        is(1, x.claim(1, 0, 0));
        fails(NO_SUCH, () -> x.claim(2, 0, 0));
        fails(NO_SUCH, () -> x.claim(0, 32, 0));
        fails(NO_SUCH, () -> x.claim(0, NONE, -1));
        fails(ARGUMENT, () -> x.claim(0, 0, -1));
        fails(ARGUMENT, () -> x.claim(0, 0, LAST + 1));
        for (int claim = 2; claim < 30; claim++) {
            is(claim, x.claim(1, 0, 0));
        }
        fails(STATE, () -> x.claim(0, 0, 0));
        fails(ARGUMENT, () -> x.claim(0, 0, -1));
        fails(NO_SUCH, () -> x.claim(0, 32, 0));
        is(false, x.stops(0, LAST - 1));
        x.settle(29, 0);
        failsAct(NO_SUCH, () -> x.settle(30, 0));
    }

    private static void promise13() {
        OwnerRows x = withThings(1);
        x.claim(0, 1, 50);
        failsAct(NO_SUCH, () -> x.settle(1, 60));
        failsAct(NO_SUCH, () -> x.settle(-1, -1));
        failsAct(ARGUMENT, () -> x.settle(0, -1));
        failsAct(ARGUMENT, () -> x.settle(0, LAST + 1));
        failsAct(ARGUMENT, () -> x.settle(0, 49));
        is(true, x.stops(0, 50));
        is(true, x.stops(0, LAST));
        x.settle(0, 50);
        is(false, x.stops(0, 50));
        failsAct(STATE, () -> x.settle(0, 50));
        failsAct(STATE, () -> x.settle(0, LAST));
        failsAct(ARGUMENT, () -> x.settle(0, 49));
        is(1, x.claim(0, 1, 0));
        x.settle(1, 0);
        failsAct(STATE, () -> x.settle(1, 0));
    }

    private static void promise14() {
        OwnerRows x = withThings(2);
        x.claim(0, 1, 10);
        x.claim(0, 2, 20);
        is(false, x.stops(0, 9));
        is(true, x.stops(0, 10));
        is(false, x.stops(1, 10));
        x.settle(0, 15);
        is(true, x.stops(0, 14));
        is(false, x.stops(0, 15));
        is(true, x.stops(0, 20));
        x.settle(1, LAST);
        is(true, x.stops(0, LAST - 1));
        is(false, x.stops(0, LAST));
        fails(NO_SUCH, () -> x.stops(2, 0));
        fails(NO_SUCH, () -> x.stops(-1, -1));
        fails(ARGUMENT, () -> x.stops(0, -1));
        fails(ARGUMENT, () -> x.stops(0, LAST + 1));
    }

    private static void promise15() {
        OwnerRows x = withThings(1);
        x.tell(0, 3, 200);
        x.tell(1, 0, 31);
        x.tell(2, 31, LAST);
        is(31, x.rights(0, 3, LAST));
        x.tell(2, 31, 0);
        is(31, x.rights(0, 3, 73000));
        is(NONE, x.rights(0, 3, 73001));
        failsAct(NO_SUCH, () -> x.tell(3, 0, 0));
        failsAct(NO_SUCH, () -> x.tell(-1, 0, 0));
        failsAct(NO_SUCH, () -> x.tell(0, 4, 201));
        failsAct(NO_SUCH, () -> x.tell(0, -1, 0));
        failsAct(NO_SUCH, () -> x.tell(1, 1, 0));
        failsAct(NO_SUCH, () -> x.tell(1, 0, 32));
        failsAct(NO_SUCH, () -> x.tell(1, 0, NONE));
        failsAct(NO_SUCH, () -> x.tell(2, 32, -1));
        failsAct(NO_SUCH, () -> x.tell(2, NONE, 0));
        failsAct(ARGUMENT, () -> x.tell(0, 3, 201));
        failsAct(ARGUMENT, () -> x.tell(0, 3, -1));
        failsAct(ARGUMENT, () -> x.tell(2, 31, -1));
        failsAct(ARGUMENT, () -> x.tell(2, 31, LAST + 1));
        is(31, x.rights(0, 3, 73000));
        is(NONE, x.rights(0, 3, 73001));
        x.tell(0, 3, 0);
        is(NONE, x.rights(0, 3, 1));
        x.tell(1, 0, 30);
        is(30, x.rights(0, 3, 1));
    }

    private static void promise16() {
        OwnerRows x = withThings(2);
        x.tell(0, 1, 2);
        is(NONE, x.rights(0, 1, 0));
        x.tell(1, 0, 5);
        is(5, x.rights(0, 0, LAST));
        is(5, x.rights(0, 1, 0));
        is(NONE, x.rights(1, 1, 0));
        x.tell(2, 5, 100);
        is(5, x.rights(0, 0, 100));
        is(NONE, x.rights(0, 0, 101));
        is(5, x.rights(0, 1, 830));
        is(NONE, x.rights(0, 1, 831));
        x.tell(1, 1, 0);
        is(0, x.rights(1, 0, 831));
        fails(NO_SUCH, () -> x.rights(2, 0, 0));
        fails(NO_SUCH, () -> x.rights(0, 4, 0));
        fails(NO_SUCH, () -> x.rights(0, -1, -1));
        fails(ARGUMENT, () -> x.rights(0, 0, -1));
        fails(ARGUMENT, () -> x.rights(0, 0, LAST + 1));
    }

    private static void promise17() {
        OwnerRows x = withThings(2);
        is(1, x.licence(0, 7, 0, LAST));
        is(2, x.licence(1, 0, 5, 5));
        fails(NO_SUCH, () -> x.licence(2, 0, 0, 0));
        fails(NO_SUCH, () -> x.licence(0, 8, 0, 0));
        fails(NO_SUCH, () -> x.licence(0, -1, 1, 0));
        fails(ARGUMENT, () -> x.licence(0, 0, -1, 0));
        fails(ARGUMENT, () -> x.licence(0, 0, 0, LAST + 1));
        fails(ARGUMENT, () -> x.licence(0, 0, 1, 0));
        for (int many = 3; many <= 40; many++) {
            is(many, x.licence(1, 0, 5, 5));
        }
        fails(STATE, () -> x.licence(0, 0, 0, 0));
        fails(ARGUMENT, () -> x.licence(0, 0, 1, 0));
        fails(NO_SUCH, () -> x.licence(0, 8, 0, 0));
        is(false, x.licensed(0, 0, 0));
    }

    private static void promise18() {
        OwnerRows x = withThings(2);
        x.licence(0, 3, 10, 20);
        x.licence(0, 3, 30, 30);
        x.licence(0, 4, 25, 25);
        is(false, x.licensed(0, 3, 9));
        is(true, x.licensed(0, 3, 10));
        is(true, x.licensed(0, 3, 20));
        is(false, x.licensed(0, 3, 21));
        is(false, x.licensed(0, 3, 25));
        is(true, x.licensed(0, 3, 30));
        is(false, x.licensed(0, 3, 31));
        is(false, x.licensed(1, 3, 10));
        fails(NO_SUCH, () -> x.licensed(2, 0, 0));
        fails(NO_SUCH, () -> x.licensed(0, 8, 0));
        fails(NO_SUCH, () -> x.licensed(0, -1, -1));
        fails(ARGUMENT, () -> x.licensed(0, 3, -1));
        fails(ARGUMENT, () -> x.licensed(0, 3, LAST + 1));
    }

    private static void promise19() {
        OwnerRows x = withThings(1);
        x.owner(0, 1, 5, 9, 0);
        x.owner(0, 2, 5, 9, 0);
        is(false, x.seal(0, 7, false));
        is(true, x.seal(0, 7, true));
        is(false, x.seal(0, 7, true));
        is(true, x.seal(0, 0, true));
        is(1, x.seen(0, 7, 0, 0));
        is(1, x.seen(0, 0, 0, 0));
        is(0, x.seen(0, 1, 0, 0));
        is(true, x.seal(0, 7, false));
        is(false, x.seal(0, 7, false));
        is(0, x.seen(0, 7, 0, 0));
        is(1, x.seen(0, 0, 0, 0));
        fails(NO_SUCH, () -> x.seal(2, 0, true));
        fails(NO_SUCH, () -> x.seal(-1, 0, true));
        fails(NO_SUCH, () -> x.seal(0, 8, true));
        fails(NO_SUCH, () -> x.seal(0, -1, true));
    }

    private static void promise20() {
        OwnerRows x = withThings(2);
        x.owner(0, 1, 5, 9, 0);
        x.owner(1, 1, 5, 9, 0);
        x.owner(0, 1, 1, 2, 3);
        x.owner(0, 1, 5, 9, 0);
        is(0, x.seen(0, 2, 0, 9));
        is(2, x.seen(0, 2, 1, 9));
        is(3, x.seen(0, 2, 2, 9));
        is(NONE, x.seen(0, 2, 3, 9));
        is(3, x.seen(0, 2, 1, 2));
        is(1, x.seen(1, 2, 0, 9));
        x.seal(2, 2, true);
        is(3, x.seen(0, 2, 1, 9));
        is(2, x.seen(0, 3, 1, 9));
        x.correct(0, 2, 4, 7);
        is(3, x.seen(0, 2, 0, 7));
        is(0, x.seen(0, 2, 0, 6));
        is(NONE, x.seen(0, 2, Integer.MAX_VALUE, 7));
        fails(NO_SUCH, () -> x.seen(2, 0, 0, 0));
        fails(NO_SUCH, () -> x.seen(0, 8, 0, 0));
        fails(NO_SUCH, () -> x.seen(0, -1, 0, 0));
        fails(NO_SUCH, () -> x.seen(0, 0, -1, -1));
        fails(ARGUMENT, () -> x.seen(0, 0, 0, -1));
        fails(ARGUMENT, () -> x.seen(0, 0, 0, LAST + 1));
    }

    private static void promise21() {
        OwnerRows x = withThings(2);
        is(1, x.worth(0, 0, 0, 0));
        is(2, x.worth(1, LAST, 7, Integer.MAX_VALUE));
        is(Integer.MAX_VALUE, x.value(1, LAST, 7));
        fails(NO_SUCH, () -> x.worth(2, 0, 0, 0));
        fails(NO_SUCH, () -> x.worth(0, 0, 8, 0));
        fails(NO_SUCH, () -> x.worth(0, -1, -1, -1));
        fails(ARGUMENT, () -> x.worth(0, -1, 0, 0));
        fails(ARGUMENT, () -> x.worth(0, LAST + 1, 0, 0));
        fails(ARGUMENT, () -> x.worth(0, 0, 0, -1));
        is(0, x.value(0, 0, 0));
        for (int many = 3; many <= 60; many++) {
            is(many, x.worth(1, 0, 1, many));
        }
        fails(STATE, () -> x.worth(0, 0, 0, 9));
        fails(ARGUMENT, () -> x.worth(0, 0, 0, -1));
        fails(NO_SUCH, () -> x.worth(0, 0, 8, 9));
        is(0, x.value(0, LAST, 0));
        is(60, x.value(1, 0, 1));
    }

    private static void promise22() {
        OwnerRows x = withThings(2);
        x.worth(0, 10, 1, 500);
        x.worth(0, 10, 1, 600);
        x.worth(0, 5, 1, 400);
        x.worth(0, 10, 2, 7);
        is(NONE, x.value(0, 4, 1));
        is(400, x.value(0, 5, 1));
        is(400, x.value(0, 9, 1));
        is(600, x.value(0, 10, 1));
        is(600, x.value(0, LAST, 1));
        is(7, x.value(0, LAST, 2));
        is(NONE, x.value(1, LAST, 1));
        is(NONE, x.value(0, LAST, 0));
        x.worth(0, 0, 1, 0);
        is(0, x.value(0, 4, 1));
        fails(NO_SUCH, () -> x.value(2, 0, 0));
        fails(NO_SUCH, () -> x.value(0, 0, 8));
        fails(NO_SUCH, () -> x.value(0, -1, -1));
        fails(ARGUMENT, () -> x.value(0, -1, 0));
        fails(ARGUMENT, () -> x.value(0, LAST + 1, 0));
    }

    private static void promise23() {
        OwnerRows x = withThings(2);
        x.owner(0, 10, 500, 600, 0);
        x.owner(0, 0, 0, 0, 0);
        x.owner(0, 31, 1000, LAST, 3);
        x.owner(0, 9, 500, 501, 0);
        x.owner(1, 7, 1, 2, 0);
        is("0@0-0;10@500-600;9@500-501;", chainOf(x, 0, 2));
        is("0@0-0;10@500-600;9@500-501;31@1000-100000;", chainOf(x, 0, 3));
        is("7@1-2;", chainOf(x, 1, 3));
        x.doubt(0, true);
        x.correct(0, 1, 501, 10);
        is("0@0-0;9@500-501;10@501-600?;31@1000-100000;", chainOf(x, 0, 10));
        x.correct(1, 1, 1, 20);
        is("9@500-501;10@501-600?;31@1000-100000;", chainOf(x, 0, 20));
        int length = x.chain(0, 20, NONE);
        is((int) ';', x.chain(0, 20, length - 1));
        fails(NO_SUCH, () -> x.chain(0, 20, length));
        fails(NO_SUCH, () -> x.chain(0, 20, Integer.MAX_VALUE));
        fails(NO_SUCH, () -> x.chain(0, 20, -2));
        fails(NO_SUCH, () -> x.chain(0, 20, Integer.MIN_VALUE));
        fails(NO_SUCH, () -> x.chain(2, 0, NONE));
        fails(NO_SUCH, () -> x.chain(-1, -1, NONE));
        fails(NO_SUCH, () -> x.chain(0, -1, -2));
        fails(ARGUMENT, () -> x.chain(0, -1, NONE));
        fails(ARGUMENT, () -> x.chain(0, LAST + 1, 0));
        OwnerRows empty = withThings(1);
        is(0, empty.chain(0, 0, NONE));
        fails(NO_SUCH, () -> empty.chain(0, 0, 0));
    }

    public static void main(String[] args) {
        Act[] all = {
            PromiseTest::promise1, PromiseTest::promise2, PromiseTest::promise3, PromiseTest::promise4,
            PromiseTest::promise5, PromiseTest::promise6, PromiseTest::promise7, PromiseTest::promise8,
            PromiseTest::promise9, PromiseTest::promise10, PromiseTest::promise11, PromiseTest::promise12,
            PromiseTest::promise13, PromiseTest::promise14, PromiseTest::promise15, PromiseTest::promise16,
            PromiseTest::promise17, PromiseTest::promise18, PromiseTest::promise19, PromiseTest::promise20,
            PromiseTest::promise21, PromiseTest::promise22, PromiseTest::promise23,
        };
        for (int i = 0; i < all.length; i++) {
            part("promise " + (i + 1), all[i]);
        }
        end();
    }
}
