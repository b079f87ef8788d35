/**
 * One part for each sentence of the document that names a boundary case: too small, too large,
 * empty, full, a refused call. Each part bears the sentence's words and makes its own objects.
 * The sentences that name an argument's range (days, things, persons ..) are parts of RefusalTest,
 * which holds them against every call that takes such an argument.
 */
public final class BoundaryTest extends Checks {
    /** A thing 0 with one row 0: person 3, days 10 to 20, told on day 5. */
    private static OwnerRows withRow() {
        OwnerRows x = withThings(1);
        x.owner(0, 3, 10, 20, 5);
        return x;
    }

    /** A thing 0 with a row of each given pair of from and to, all told on day 0. */
    private static OwnerRows withSpans(int... fromTo) {
        OwnerRows x = withThings(1);
        for (int i = 0; i + 1 < fromTo.length; i += 2) {
            x.owner(0, 1, fromTo[i], fromTo[i + 1], 0);
        }
        return x;
    }

    /** A thing 0 with a row of day 0, told on day 0, for each share 1 / below. */
    private static OwnerRows withParts(int... belows) {
        OwnerRows x = withThings(1);
        for (int row = 0; row < belows.length; row++) {
            x.owner(0, 1, 0, 0, 0);
            x.share(row, 1, belows[row]);
        }
        return x;
    }

    private static void theWhole() {
        part("An object is used for at most 512 calls", BoundaryTest::useAllCalls);
        part("An object is its own: what is told to one is not told to another", BoundaryTest::twoObjects);
    }

    /** 476 calls that reach every limit, and 36 that ask at the far end of it all. */
    private static void useAllCalls() {
        OwnerRows x = withThings(16);
        fillAll(x);
        is(31, x.known(119, 0, LAST));
        is(LAST - 80, x.known(119, 1, LAST));
        is(LAST, x.known(119, 2, LAST));
        is(LAST, x.known(79, 1, LAST));
        is(NONE, x.gap(15, 0, 0, LAST));
        is(120, x.held(15, LAST, LAST, 0));
        is(1, x.held(15, LAST, LAST, 1));
        is(NONE, x.asked(15, 120, LAST));
        is(119, x.asked(15, 119, LAST));
        is(119, x.seen(15, 7, 119, LAST));
        is(NONE, x.seen(15, 7, 120, LAST));
        is(119 * 16 + 17, x.chain(15, LAST, NONE));
        is((int) ';', x.chain(15, LAST, 119 * 16 + 16));
        fails(NO_SUCH, () -> x.chain(15, LAST, 119 * 16 + 17));
        is(true, x.stops(15, 29));
        is(false, x.stops(14, LAST));
        is(true, x.licensed(15, 7, 39));
        is(false, x.licensed(15, 7, 40));
        is(59, x.value(15, LAST, 7));
        is(NONE, x.value(14, LAST, 7));
        fails(STATE, x::thing);
        fails(STATE, () -> x.owner(15, 31, 0, 0, 0));
        failsAct(STATE, () -> x.correct(119, 0, 31, LAST));
        fails(STATE, () -> x.danger(31, 0, 0));
        fails(STATE, () -> x.claim(15, 31, 0));
        fails(STATE, () -> x.licence(15, 7, 0, 0));
        fails(STATE, () -> x.worth(15, 0, 7, 0));
        x.tell(0, 3, 200);
        x.tell(1, 15, 31);
        x.tell(2, 31, LAST);
        is(31, x.rights(15, 3, LAST));
        is(true, x.doubt(119, true));
        is(true, x.seal(119, 7, true));
        x.settle(29, 29);
        x.share(119, 1, 1000);
        is(119001, x.held(15, LAST, LAST, 0));
    }

    /** 460 calls: all rows are of thing 15 and end on the last day; row 79 alone begins on it, too. */
    private static void fillAll(OwnerRows x) {
        for (int row = 0; row < 120; row++) {
            x.owner(15, 31, 0, LAST, LAST);
        }
        for (int i = 0; i < 200; i++) {
            x.correct(i % 120, 1, LAST - 199 + i, LAST);
        }
        for (int i = 0; i < 10; i++) {
            x.danger(i == 9 ? 31 : 30, LAST, LAST);
        }
        for (int i = 0; i < 30; i++) {
            x.claim(15, 31, i);
        }
        for (int i = 0; i < 40; i++) {
            x.licence(15, 7, i, i);
        }
        for (int i = 0; i < 60; i++) {
            x.worth(15, i, 7, i);
        }
    }

    private static void twoObjects() {
        OwnerRows x = withRow();
        OwnerRows y = withThings(1);
        is(0, y.chain(0, LAST, NONE));
        fails(NO_SUCH, () -> y.doubt(0, true));
        is(0, y.owner(0, 4, 1, 2, 0));
        is("3@10-20;", chainOf(x, 0, LAST));
        is("4@1-2;", chainOf(y, 0, LAST));
    }

    private static void termsOfRows() {
        part("ROWS are 0, 1, .. , at most 120 in all", () -> {
            OwnerRows x = withThings(16);
            for (int row = 0; row < 120; row++) {
                is(row, x.owner(row % 16, 0, 0, 0, 0));
            }
            fails(STATE, () -> x.owner(0, 0, 0, 0, 0));
            fails(STATE, () -> x.owner(15, 0, 0, 0, 0));
            fails(NO_SUCH, () -> x.doubt(120, true));
            is(true, x.doubt(119, true));
        });
        part("a person had it from a day to another one (both with it)", () -> {
            OwnerRows x = withRow();
            is("0/1", heldOf(x, 0, 9, 5));
            is("1/1", heldOf(x, 0, 10, 5));
            is("1/1", heldOf(x, 0, 20, 5));
            is("0/1", heldOf(x, 0, 21, 5));
            OwnerRows oneDay = withSpans(0, 0, LAST, LAST);
            is("1/1", heldOf(oneDay, 0, 0, 0));
            is("0/1", heldOf(oneDay, 0, 1, 0));
            is("0/1", heldOf(oneDay, 0, LAST - 1, 0));
            is("1/1", heldOf(oneDay, 0, LAST, 0));
        });
        part("by a SHARE above / below (1 / 1 at first)", () -> {
            OwnerRows x = withSpans(0, 0, 0, 0);
            is("2/1", heldOf(x, 0, 0, 0));
            x.share(1, 1, 2);
            is("3/2", heldOf(x, 0, 0, 0));
        });
    }

    private static void termsOfCorrections() {
        part("A row may be corrected, at most 200 times in all", () -> {
            OwnerRows x = withSpans(0, 5, 0, 5);
            for (int i = 0; i < 199; i++) {
                x.correct(i % 2, i % 3, 1 + i % 5, 0);
            }
            failsAct(NO_SUCH, () -> x.correct(2, 0, 0, 0));
            failsAct(ARGUMENT, () -> x.correct(0, 1, -1, 0));
            x.correct(0, 2, 77, 0);
            is(77, x.known(0, 2, 0));
            failsAct(STATE, () -> x.correct(0, 2, 78, 0));
            failsAct(STATE, () -> x.correct(1, 0, 9, LAST));
            is(77, x.known(0, 2, LAST));
        });
        part("its person (field 0), from (1) or to (2) becomes another one, told on a day", () -> {
            OwnerRows x = withRow();
            x.correct(0, 0, 0, 6);
            is("0@10-20;", chainOf(x, 0, 6));
            x.correct(0, 1, 0, 7);
            is("0@0-20;", chainOf(x, 0, 7));
            x.correct(0, 2, LAST, 8);
            is("0@0-100000;", chainOf(x, 0, 8));
            is("3@10-20;", chainOf(x, 0, 5));
            failsAct(NO_SUCH, () -> x.correct(0, 3, 0, 9));
            failsAct(NO_SUCH, () -> x.correct(0, -1, 0, 9));
        });
    }

    private static void termsOfKnowing() {
        part("AS KNOWN on a day: rows that were told by then", () -> {
            OwnerRows x = withThings(1);
            x.owner(0, 1, 0, 0, 0);
            x.owner(0, 2, 0, 0, LAST);
            x.owner(0, 3, 0, 0, 7);
            is("1@0-0;", chainOf(x, 0, 0));
            is("1@0-0;", chainOf(x, 0, 6));
            is("1@0-0;3@0-0;", chainOf(x, 0, 7));
            is("1@0-0;3@0-0;", chainOf(x, 0, LAST - 1));
            is("1@0-0;2@0-0;3@0-0;", chainOf(x, 0, LAST));
        });
        part("each with the corrections told by then", () -> {
            OwnerRows x = withRow();
            x.correct(0, 0, 4, 5);
            x.correct(0, 0, 6, LAST);
            is(NONE, x.known(0, 0, 4));
            is(4, x.known(0, 0, 5));
            is(4, x.known(0, 0, LAST - 1));
            is(6, x.known(0, 0, LAST));
        });
        part("for each field the one with the greatest day", () -> {
            OwnerRows x = withRow();
            x.correct(0, 2, 40, 9);
            x.correct(0, 2, 30, 7);
            x.correct(0, 1, 11, 8);
            is(30, x.known(0, 2, 8));
            is(40, x.known(0, 2, 9));
            is(40, x.known(0, 2, LAST));
            is(11, x.known(0, 1, LAST));
            is(3, x.known(0, 0, LAST));
        });
        part("(of equal ones the later one)", () -> {
            OwnerRows x = withRow();
            x.correct(0, 2, 40, 9);
            x.correct(0, 2, 39, 9);
            is(39, x.known(0, 2, 9));
            x.correct(0, 2, 38, 8);
            is(39, x.known(0, 2, 9));
            x.correct(0, 2, 41, 9);
            is(41, x.known(0, 2, 9));
            x.correct(0, 2, 21, 5);
            x.correct(0, 2, 22, 5);
            is(22, x.known(0, 2, 5));
        });
    }

    private static void termsOfVoid() {
        part("A row of which from is above to, as known, is VOID", () -> {
            OwnerRows x = withRow();
            x.correct(0, 1, 20, 6);
            is("3@20-20;", chainOf(x, 0, 6));
            x.correct(0, 1, 21, 7);
            is("", chainOf(x, 0, 7));
            x.correct(0, 2, 21, 8);
            is("3@21-21;", chainOf(x, 0, 8));
            x.correct(0, 2, 0, 9);
            is("", chainOf(x, 0, 9));
            is("3@10-20;", chainOf(x, 0, 5));
        });
        part("it counts nowhere but in known()", () -> {
            OwnerRows x = withSpans(10, 20, 0, 5, 30, 40, 90, 95);
            x.danger(NONE, 0, LAST);
            x.correct(1, 1, LAST, 1);
            x.correct(3, 2, 0, 1);
            x.share(1, 1, 3);
            is(LAST, x.known(1, 1, 1));
            is(5, x.known(1, 2, 1));
            is(1, x.known(1, 0, 1));
            is(0, x.known(3, 2, 1));
            is("21..29", gapsOf(x, 0, 1));
            is("0/1", heldOf(x, 0, LAST, 1));
            is("0/1", heldOf(x, 0, 0, 1));
            is(0, x.asked(0, 0, 1));
            is(2, x.asked(0, 1, 1));
            is(NONE, x.asked(0, 2, 1));
            is(2, x.seen(0, 0, 1, 1));
            is(NONE, x.seen(0, 0, 2, 1));
            is("1@10-20;1@30-40;", chainOf(x, 0, 1));
            is("6..9 21..29 41..89", gapsOf(x, 0, 0));
        });
    }

    private static void termsOfGaps() {
        part("GAPS .. between the least from and the greatest to of its rows", () -> {
            is("", gapsOf(withThings(1), 0, LAST));
            is("", gapsOf(withSpans(50, 60), 0, 0));
            is("", gapsOf(withSpans(0, LAST), 0, 0));
            is("1..99999", gapsOf(withSpans(0, 0, LAST, LAST), 0, 0));
            is("61..69", gapsOf(withSpans(70, 80, 50, 60), 0, 0));
        });
        part("are the longest spans of days .. in which no row lies", () -> {
            is("", gapsOf(withSpans(10, 20, 21, 30), 0, 0));
            is("", gapsOf(withSpans(10, 20, 20, 30), 0, 0));
            is("21..21", gapsOf(withSpans(10, 20, 22, 30), 0, 0));
            is("", gapsOf(withSpans(10, 40, 12, 15, 20, 30), 0, 0));
            is("41..49", gapsOf(withSpans(10, 40, 12, 15, 50, 50), 0, 0));
            is("13..13 15..15", gapsOf(withSpans(16, 16, 14, 14, 12, 12), 0, 0));
            is("", gapsOf(withSpans(10, 20, 10, 30, 10, 15), 0, 0));
        });
        part("What shares come to on some day is the sum of those of the rows in which it lies.", () -> {
            OwnerRows x = withSpans(10, 20, 20, 30);
            x.thing();
            x.owner(1, 0, 0, LAST, 0);
            x.share(0, 1, 2);
            x.share(1, 1, 2);
            is("1/2", heldOf(x, 0, 19, 0));
            is("1/1", heldOf(x, 0, 20, 0));
            is("1/2", heldOf(x, 0, 21, 0));
            is("0/1", heldOf(x, 0, 31, 0));
        });
    }

    private static void termsOfDanger() {
        part("DANGER: rules, at most 10", () -> {
            OwnerRows x = withSpans(5, 5);
            for (int rule = 0; rule < 9; rule++) {
                is(rule, x.danger(NONE, 0, 0));
            }
            fails(ARGUMENT, () -> x.danger(NONE, 1, 0));
            is(9, x.danger(NONE, 5, 5));
            is(0, x.asked(0, 0, 0));
            fails(STATE, () -> x.danger(NONE, 0, 0));
        });
        part("a person or any (NONE)", () -> {
            OwnerRows x = withThings(1);
            x.owner(0, 0, 5, 5, 0);
            x.owner(0, 31, 5, 5, 0);
            x.danger(31, 5, 5);
            is(1, x.asked(0, 0, 0));
            is(NONE, x.asked(0, 1, 0));
            x.danger(NONE, 5, 5);
            is(0, x.asked(0, 0, 0));
            is(1, x.asked(0, 1, 0));
            fails(NO_SUCH, () -> x.danger(-2, 5, 5));
        });
        part("A row is in danger by a rule if it has a day of the span", () -> {
            is(NONE, askedBy(0, 9));
            is(0, askedBy(0, 10));
            is(0, askedBy(10, 10));
            is(0, askedBy(15, 15));
            is(0, askedBy(20, 20));
            is(0, askedBy(20, LAST));
            is(NONE, askedBy(21, LAST));
            is(0, askedBy(0, LAST));
        });
        part("and is of that person (if it tells one)", () -> {
            OwnerRows x = withRow();
            x.danger(2, 0, LAST);
            x.danger(3, 21, LAST);
            is(NONE, x.asked(0, 0, LAST));
            x.correct(0, 0, 2, 9);
            is(0, x.asked(0, 0, 9));
            is(NONE, x.asked(0, 0, 8));
        });
    }

    /** Of one row from 10 to 20 and one rule for all. */
    private static int askedBy(int from, int to) {
        OwnerRows x = withRow();
        x.danger(NONE, from, to);
        return x.asked(0, 0, 5);
    }

    private static void termsOfClaims() {
        part("A CLAIM .. from a day on stops its moves until it is settled", () -> {
            OwnerRows x = withThings(2);
            x.claim(0, 1, 10);
            is(false, x.stops(0, 9));
            is(true, x.stops(0, 10));
            is(true, x.stops(0, LAST));
            is(false, x.stops(1, 10));
            x.settle(0, 20);
            is(true, x.stops(0, 19));
            is(false, x.stops(0, 20));
        });
        part("(at most 30 claims in all)", () -> {
            OwnerRows x = withThings(16);
            for (int claim = 0; claim < 29; claim++) {
                is(claim, x.claim(claim % 16, claim, 0));
                x.settle(claim, 0);
            }
            fails(NO_SUCH, () -> x.claim(0, 32, 0));
            is(29, x.claim(7, 0, 0));
            fails(STATE, () -> x.claim(0, 0, 0));
            is(true, x.stops(7, 0));
            is(false, x.stops(0, 0));
        });
    }

    private static void termsOfRights() {
        part("YEARS 0 .. 200 of 365 days", () -> {
            OwnerRows x = withEndedMaker(10);
            x.tell(0, 1, 1);
            x.tell(0, 2, 200);
            is(4, x.rights(0, 1, 375));
            is(NONE, x.rights(0, 1, 376));
            is(4, x.rights(0, 2, 73010));
            is(NONE, x.rights(0, 2, 73011));
        });
        part("(0 at first)", () -> {
            OwnerRows x = withEndedMaker(10);
            for (int kind = 0; kind < 4; kind++) {
                is(4, x.rights(0, kind, 10));
                is(NONE, x.rights(0, kind, 11));
            }
        });
        part("A thing may have a MAKER, a person", () -> {
            OwnerRows x = withThings(16);
            is(NONE, x.rights(15, 0, 0));
            x.tell(1, 15, 0);
            is(0, x.rights(15, 0, 0));
            x.tell(1, 15, 31);
            is(31, x.rights(15, 0, 0));
            is(NONE, x.rights(14, 0, 0));
        });
        part("a person's life may have ENDED on a day", () -> {
            OwnerRows x = withEndedMaker(0);
            is(4, x.rights(0, 0, 0));
            is(NONE, x.rights(0, 0, 1));
            x.tell(1, 0, 5);
            is(5, x.rights(0, 0, LAST));
            x.tell(1, 0, 4);
            x.tell(2, 4, LAST);
            is(4, x.rights(0, 0, LAST));
        });
        part("if it did not end, or the day is not above its end and so many years", () -> {
            OwnerRows x = withThings(1);
            x.tell(1, 0, 4);
            is(4, x.rights(0, 0, 0));
            is(4, x.rights(0, 0, LAST));
            x.tell(2, 4, LAST);
            x.tell(0, 0, 200);
            is(4, x.rights(0, 0, LAST));
            x.tell(2, 4, LAST - 200 * 365);
            is(4, x.rights(0, 0, LAST));
            x.tell(2, 4, LAST - 200 * 365 - 1);
            is(4, x.rights(0, 0, LAST - 1));
            is(NONE, x.rights(0, 0, LAST));
            is(4, x.rights(0, 0, 0));
        });
    }

    /** A thing 0 of maker 4, whose life ended on the day. */
    private static OwnerRows withEndedMaker(int day) {
        OwnerRows x = withThings(1);
        x.tell(1, 0, 4);
        x.tell(2, 4, day);
        return x;
    }

    private static void termsOfLicencesAndValues() {
        part("LICENCES, at most 40", () -> {
            OwnerRows x = withThings(16);
            for (int many = 1; many < 40; many++) {
                is(many, x.licence(many % 16, many % 8, 0, 0));
            }
            fails(ARGUMENT, () -> x.licence(0, 0, 1, 0));
            is(40, x.licence(3, 3, 9, 9));
            is(true, x.licensed(3, 3, 9));
            fails(STATE, () -> x.licence(4, 4, 9, 9));
            is(false, x.licensed(4, 4, 9));
        });
        part("of a thing, for a USE 0 .. 7, from a day to another one", () -> {
            OwnerRows x = withThings(2);
            x.licence(0, 7, 10, 20);
            x.licence(0, 0, 0, 0);
            x.licence(0, 0, LAST, LAST);
            is(false, x.licensed(0, 7, 9));
            is(true, x.licensed(0, 7, 10));
            is(true, x.licensed(0, 7, 20));
            is(false, x.licensed(0, 7, 21));
            is(false, x.licensed(1, 7, 10));
            is(false, x.licensed(0, 6, 10));
            is(true, x.licensed(0, 0, 0));
            is(false, x.licensed(0, 0, 1));
            is(true, x.licensed(0, 0, LAST));
        });
        part("VALUES, at most 60", () -> {
            OwnerRows x = withThings(16);
            for (int many = 1; many < 60; many++) {
                is(many, x.worth(many % 16, 0, many % 8, many));
            }
            fails(ARGUMENT, () -> x.worth(0, 0, 0, -1));
            is(60, x.worth(3, 9, 3, 1234));
            is(1234, x.value(3, 9, 3));
            fails(STATE, () -> x.worth(3, 9, 3, 5));
            is(1234, x.value(3, LAST, 3));
        });
        part("of a thing, in a CURRENCY 0 .. 7, from a day on", () -> {
            OwnerRows x = withThings(2);
            x.worth(0, 10, 7, 5);
            is(NONE, x.value(0, 9, 7));
            is(5, x.value(0, 10, 7));
            is(5, x.value(0, LAST, 7));
            is(NONE, x.value(0, 10, 6));
            is(NONE, x.value(1, 10, 7));
        });
    }

    private static void termsOfSealsAndChains() {
        part("A row may be SEALED for roles.", () -> {
            OwnerRows x = withRow();
            for (int role = 0; role < 8; role++) {
                is(0, x.seen(0, role, 0, 5));
                is(true, x.seal(0, role, true));
                is(NONE, x.seen(0, role, 0, 5));
            }
            is(true, x.seal(0, 0, false));
            is(0, x.seen(0, 0, 0, 5));
            is(NONE, x.seen(0, 1, 0, 5));
            is("3@10-20;", chainOf(x, 0, 5));
        });
        part("DOUBT is told of rows.", () -> {
            OwnerRows x = withSpans(0, 0, 1, 1);
            x.doubt(1, true);
            is("1@0-0;1@1-1?;", chainOf(x, 0, 0));
            is("1/1", heldOf(x, 0, 1, 0));
        });
        part("the thing's rows by their from (of equal ones by number)", () -> {
            OwnerRows x = withThings(1);
            x.owner(0, 1, 9, 9, 0);
            x.owner(0, 2, 8, 20, 0);
            x.owner(0, 3, 9, 9, 0);
            x.owner(0, 4, 8, 8, 0);
            is("2@8-20;4@8-8;1@9-9;3@9-9;", chainOf(x, 0, 0));
            x.correct(0, 1, 8, 1);
            is("1@8-9;2@8-20;4@8-8;3@9-9;", chainOf(x, 0, 1));
            x.correct(1, 1, 0, 2);
            is("2@0-20;1@8-9;4@8-8;3@9-9;", chainOf(x, 0, 2));
        });
        part("each as its person, 64, from, 45, to; 63 if there is doubt; 59", () -> {
            OwnerRows x = withSpans(2, 3);
            int[] due = {49, 64, 50, 45, 51, 59};
            is(due.length, x.chain(0, 0, NONE));
            for (int i = 0; i < due.length; i++) {
                is(due[i], x.chain(0, 0, i));
            }
            x.doubt(0, true);
            is(due.length + 1, x.chain(0, 0, NONE));
            is(51, x.chain(0, 0, 4));
            is(63, x.chain(0, 0, 5));
            is(59, x.chain(0, 0, 6));
        });
        part("numbers by their decimal digits", () -> {
            int[] days = {0, 9, 10, 99, 100, 999, 1000, 1001, 9999, 10000, 10101, 99999, 100000};
            for (int day : days) {
                OwnerRows x = withThings(1);
                x.owner(0, day % 32, day, day, 0);
                is(day % 32 + "@" + day + "-" + day + ";", chainOf(x, 0, 0));
            }
            for (int person = 0; person < 32; person++) {
                OwnerRows x = withThings(1);
                x.owner(0, person, 0, 0, 0);
                is(person + "@0-0;", chainOf(x, 0, 0));
            }
        });
        part("IllegalArgumentException, then IllegalStateException, as told. Such a call changes nothing.", () -> {
            OwnerRows x = withSpans(0, LAST);
            fails(NO_SUCH, () -> x.owner(0, 32, 1, 0, -1));
            fails(ARGUMENT, () -> x.owner(0, 0, 0, 0, -1));
            is(1, x.owner(0, 0, 0, 0, 0));
            is("1@0-100000;0@0-0;", chainOf(x, 0, 0));
        });
    }

    private static void promises1To5() {
        part("Promise 1: No things.", () -> {
            OwnerRows x = new OwnerRows();
            fails(NO_SUCH, () -> x.chain(0, 0, NONE));
            fails(NO_SUCH, () -> x.claim(0, 0, 0));
            fails(NO_SUCH, () -> x.licence(0, 0, 0, 0));
            fails(NO_SUCH, () -> x.worth(0, 0, 0, 0));
            failsAct(NO_SUCH, () -> x.tell(1, 0, 0));
            is(0, x.danger(NONE, 0, 0));
            x.tell(0, 0, 1);
            x.tell(2, 0, 0);
            is(0, x.thing());
            is(0, x.chain(0, 0, NONE));
        });
        part("Promise 2: IllegalStateException: there are sixteen.", () -> {
            OwnerRows x = withThings(15);
            fails(NO_SUCH, () -> x.stops(15, 0));
            is(15, x.thing());
            is(false, x.stops(15, 0));
            fails(STATE, x::thing);
            fails(STATE, x::thing);
            fails(NO_SUCH, () -> x.stops(16, 0));
        });
        part("Promise 3: NoSuchElementException: thing or person.", () -> {
            OwnerRows x = withThings(1);
            fails(NO_SUCH, () -> x.owner(1, 0, 0, 0, 0));
            fails(NO_SUCH, () -> x.owner(-1, 0, 0, 0, 0));
            fails(NO_SUCH, () -> x.owner(0, 32, 0, 0, 0));
            fails(NO_SUCH, () -> x.owner(0, -1, 0, 0, 0));
            is(0, x.owner(0, 31, 0, 0, 0));
        });
        part("Promise 3: IllegalArgumentException: a day, or from is above to.", () -> {
            OwnerRows x = withThings(1);
            fails(ARGUMENT, () -> x.owner(0, 0, -1, 5, 0));
            fails(ARGUMENT, () -> x.owner(0, 0, LAST + 1, LAST + 1, 0));
            fails(ARGUMENT, () -> x.owner(0, 0, 5, LAST + 1, 0));
            fails(ARGUMENT, () -> x.owner(0, 0, -2, -1, 0));
            fails(ARGUMENT, () -> x.owner(0, 0, 5, 5, -1));
            fails(ARGUMENT, () -> x.owner(0, 0, 5, 5, LAST + 1));
            fails(ARGUMENT, () -> x.owner(0, 0, 6, 5, 0));
            is(0, x.owner(0, 0, 5, 5, 0));
            is(1, x.owner(0, 0, 0, LAST, LAST));
        });
        part("Promise 3: IllegalStateException: there are 120.", () -> {
            OwnerRows x = withThings(1);
            for (int row = 0; row < 119; row++) {
                x.owner(0, 0, 0, 0, 0);
            }
            fails(NO_SUCH, () -> x.owner(0, 32, 0, 0, 0));
            is(119, x.owner(0, 0, 0, 0, 0));
            fails(STATE, () -> x.owner(0, 0, 0, 0, 0));
            fails(ARGUMENT, () -> x.owner(0, 0, 1, 0, 0));
            is(120 * 6, x.chain(0, 0, NONE));
        });
        part("Promise 4: NoSuchElementException; not 1 <= above <= below <= 1000.", () -> {
            OwnerRows x = withRow();
            failsAct(NO_SUCH, () -> x.share(1, 1, 1));
            failsAct(NO_SUCH, () -> x.share(-1, 1, 1));
            failsAct(ARGUMENT, () -> x.share(0, 0, 1000));
            failsAct(ARGUMENT, () -> x.share(0, 2, 1));
            failsAct(ARGUMENT, () -> x.share(0, 1001, 1001));
            failsAct(ARGUMENT, () -> x.share(0, 1, 1001));
            is("1/1", heldOf(x, 0, 10, 5));
            x.share(0, 1, 1000);
            is("1/1000", heldOf(x, 0, 10, 5));
            x.share(0, 999, 1000);
            is("999/1000", heldOf(x, 0, 10, 5));
            x.share(0, 1000, 1000);
            is("1/1", heldOf(x, 0, 10, 5));
            x.share(0, 1, 2);
            x.share(0, 1, 1);
            is("1/1", heldOf(x, 0, 10, 5));
        });
        part("Promise 5: or not: whether that was not so. NoSuchElementException.", () -> {
            OwnerRows x = withRow();
            is(false, x.doubt(0, false));
            is(true, x.doubt(0, true));
            is(false, x.doubt(0, true));
            is(true, x.doubt(0, false));
            is(false, x.doubt(0, false));
            fails(NO_SUCH, () -> x.doubt(1, false));
            fails(NO_SUCH, () -> x.doubt(-1, true));
        });
    }

    private static void promises6And7() {
        part("Promise 6: NoSuchElementException: row, field, or v is no person (field 0).", () -> {
            OwnerRows x = withRow();
            failsAct(NO_SUCH, () -> x.correct(1, 0, 0, 5));
            failsAct(NO_SUCH, () -> x.correct(-1, 0, 0, 5));
            failsAct(NO_SUCH, () -> x.correct(0, 3, 0, 5));
            failsAct(NO_SUCH, () -> x.correct(0, -1, 0, 5));
            failsAct(NO_SUCH, () -> x.correct(0, 0, 32, 5));
            failsAct(NO_SUCH, () -> x.correct(0, 0, -1, 5));
            failsAct(NO_SUCH, () -> x.correct(0, 0, LAST + 1, -1));
            x.correct(0, 1, 32, 5);
            x.correct(0, 2, 32, 5);
            is("3@32-32;", chainOf(x, 0, 5));
        });
        part("Promise 6: v is no day (fields 1, 2), told no day, or less than the row's.", () -> {
            OwnerRows x = withRow();
            failsAct(ARGUMENT, () -> x.correct(0, 1, -1, 5));
            failsAct(ARGUMENT, () -> x.correct(0, 1, LAST + 1, 5));
            failsAct(ARGUMENT, () -> x.correct(0, 2, -1, 5));
            failsAct(ARGUMENT, () -> x.correct(0, 2, LAST + 1, 5));
            failsAct(ARGUMENT, () -> x.correct(0, 0, 0, -1));
            failsAct(ARGUMENT, () -> x.correct(0, 0, 0, LAST + 1));
            failsAct(ARGUMENT, () -> x.correct(0, 0, 0, 4));
            x.correct(0, 0, 1, 5);
            x.correct(0, 0, 2, LAST);
            is(1, x.known(0, 0, 5));
            is(2, x.known(0, 0, LAST));
        });
        part("Promise 6: less than the row's, not than that of an earlier correction", () -> {
            OwnerRows x = withRow();
            x.correct(0, 0, 1, 50);
            x.correct(0, 0, 2, 49);
            is(2, x.known(0, 0, 49));
            is(1, x.known(0, 0, 50));
        });
        part("Promise 6: IllegalStateException: there are 200.", () -> {
            OwnerRows x = withRow();
            for (int i = 0; i < 200; i++) {
                x.correct(0, 0, i % 32, 5);
            }
            failsAct(STATE, () -> x.correct(0, 0, 30, 5));
            failsAct(ARGUMENT, () -> x.correct(0, 0, 30, 4));
            failsAct(NO_SUCH, () -> x.correct(0, 0, 32, 5));
            is(199 % 32, x.known(0, 0, 5));
        });
        part("Promise 7: NONE if the row was not told by then.", () -> {
            OwnerRows x = withRow();
            for (int field = 0; field < 3; field++) {
                is(NONE, x.known(0, field, 0));
                is(NONE, x.known(0, field, 4));
            }
            is(3, x.known(0, 0, 5));
            is(10, x.known(0, 1, 5));
            is(20, x.known(0, 2, 5));
        });
        part("Promise 7: NoSuchElementException; IllegalArgumentException: no day.", () -> {
            OwnerRows x = withRow();
            fails(NO_SUCH, () -> x.known(1, 0, 5));
            fails(NO_SUCH, () -> x.known(-1, 0, 5));
            fails(NO_SUCH, () -> x.known(0, 3, 5));
            fails(NO_SUCH, () -> x.known(0, -1, -1));
            fails(ARGUMENT, () -> x.known(0, 0, -1));
            fails(ARGUMENT, () -> x.known(0, 0, LAST + 1));
        });
    }

    private static void promise8() {
        part("Promise 8: its first day (end 0) or last one (1)", () -> {
            OwnerRows x = withSpans(0, 0, 2, 2, 5, LAST);
            is(1, x.gap(0, 0, 0, 0));
            is(1, x.gap(0, 0, 1, 0));
            is(3, x.gap(0, 1, 0, 0));
            is(4, x.gap(0, 1, 1, 0));
        });
        part("Promise 8: NONE if there is none such.", () -> {
            is(NONE, withThings(1).gap(0, 0, 0, 0));
            OwnerRows x = withSpans(0, 0, 2, 2);
            is(NONE, x.gap(0, 1, 0, 0));
            is(NONE, x.gap(0, 1, 1, 0));
            is(NONE, x.gap(0, MOST_INT, 0, 0));
            x.correct(1, 2, 1, 9);
            is(NONE, x.gap(0, 0, 0, 9));
        });
        part("Promise 8: NoSuchElementException: thing, k is below 0, or end is neither.", () -> {
            OwnerRows x = withSpans(0, 0, 2, 2);
            fails(NO_SUCH, () -> x.gap(1, 0, 0, 0));
            fails(NO_SUCH, () -> x.gap(-1, 0, 0, 0));
            fails(NO_SUCH, () -> x.gap(0, -1, 0, 0));
            fails(NO_SUCH, () -> x.gap(0, LEAST_INT, 0, 0));
            fails(NO_SUCH, () -> x.gap(0, 0, -1, 0));
            fails(NO_SUCH, () -> x.gap(0, 0, 2, -1));
        });
        part("Promise 8: IllegalArgumentException: no day.", () -> {
            OwnerRows x = withSpans(0, 0, 2, 2);
            fails(ARGUMENT, () -> x.gap(0, 0, 0, -1));
            fails(ARGUMENT, () -> x.gap(0, 0, 0, LAST + 1));
            is(1, x.gap(0, 0, 0, LAST));
        });
        part("Promise 8: all gaps that 120 rows can have", () -> {
            OwnerRows x = withThings(1);
            for (int row = 119; row >= 0; row--) {
                x.owner(0, 1, 2 * row, 2 * row, 0);
            }
            is(1, x.gap(0, 0, 0, 0));
            is(237, x.gap(0, 118, 0, 0));
            is(NONE, x.gap(0, 119, 0, 0));
        });
    }

    private static void promise9() {
        part("Promise 9: a fraction that cannot be lessened", () -> {
            is("1/1", heldOf(withParts(2, 3, 6), 0, 0, 0));
            is("1/500", heldOf(withParts(1000, 1000), 0, 0, 0));
            OwnerRows x = withThings(1);
            for (int row = 0; row < 120; row++) {
                x.owner(0, 1, 0, 0, 0);
                x.share(row, 999, 1000);
            }
            is("2997/25", heldOf(x, 0, 0, 0));
        });
        part("Promise 9: 0 / 1 for none", () -> {
            is("0/1", heldOf(withThings(1), 0, 0, 0));
            OwnerRows x = withRow();
            is("0/1", heldOf(x, 0, 10, 4));
            is("0/1", heldOf(x, 0, 9, 5));
            is("0/1", heldOf(x, 0, 21, 5));
        });
        part("Promise 9: NoSuchElementException: thing, or part is neither.", () -> {
            OwnerRows x = withRow();
            fails(NO_SUCH, () -> x.held(1, 10, 5, 0));
            fails(NO_SUCH, () -> x.held(-1, 10, 5, 0));
            fails(NO_SUCH, () -> x.held(0, 10, 5, -1));
            fails(NO_SUCH, () -> x.held(0, 10, 5, 2));
            fails(NO_SUCH, () -> x.held(0, -1, -1, 2));
        });
        part("Promise 9: IllegalArgumentException: a day.", () -> {
            OwnerRows x = withRow();
            fails(ARGUMENT, () -> x.held(0, -1, 5, 0));
            fails(ARGUMENT, () -> x.held(0, LAST + 1, 5, 0));
            fails(ARGUMENT, () -> x.held(0, 10, -1, 1));
            fails(ARGUMENT, () -> x.held(0, 10, LAST + 1, 1));
        });
        part("Promise 9: IllegalStateException: above or below would be above 1000000000", BoundaryTest::sumsAtTheLimit);
        part("Promise 9: (of the sum, row by row, each time lessened)", BoundaryTest::sumsRowByRow);
    }

    private static void sumsAtTheLimit() {
        // No two belows of parts come nearer to 1000000000 than these two, from either side.
        is(999999990, withParts(685, 909, 803, 2).held(0, 0, 0, 1));
        fails(STATE, () -> withParts(283, 271, 767, 17).held(0, 0, 0, 1));
        fails(STATE, () -> withParts(283, 271, 767, 17).held(0, 0, 0, 0));
        is("1000000000/88644267", heldOf(withTenAnd(275, 241, 68), 0, 0, 0));
        // 1000000001 / 88644267
        fails(STATE, () -> withTenAnd(550, 213, 46).held(0, 0, 0, 0));
        fails(STATE, () -> withTenAnd(550, 213, 46).held(0, 0, 0, 1));
        fails(NO_SUCH, () -> withTenAnd(550, 213, 46).held(0, 0, 0, 2));
        fails(ARGUMENT, () -> withTenAnd(550, 213, 46).held(0, LAST + 1, 0, 0));
        is("0/1", heldOf(withTenAnd(550, 213, 46), 0, 1, 0));
    }

    /** Ten whole rows and parts of 999, 997 and 89. */
    private static OwnerRows withTenAnd(int a, int b, int c) {
        OwnerRows x = withParts(1, 1, 1, 1, 1, 1, 1, 1, 1, 1, 1, 1, 1);
        x.share(10, a, 999);
        x.share(11, b, 997);
        x.share(12, c, 89);
        return x;
    }

    private static void sumsRowByRow() {
        // The sum of all five is short; that of the first four is not.
        OwnerRows late = withParts(1000, 999, 997, 991, 991);
        late.share(4, 990, 991);
        fails(STATE, () -> late.held(0, 0, 0, 0));
        OwnerRows early = withParts(991, 991, 1000, 999, 997);
        early.share(1, 990, 991);
        is("998995003/996003000", heldOf(early, 0, 0, 0));
        // 1000 to the 120th, were it not lessened each time.
        int[] belows = new int[120];
        java.util.Arrays.fill(belows, 1000);
        is("3/25", heldOf(withParts(belows), 0, 0, 0));
        // Rows that are void or of other days are not among those that are added.
        OwnerRows x = withParts(1000, 999, 997, 991);
        fails(STATE, () -> x.held(0, 0, 0, 1));
        x.correct(3, 1, 1, 5);
        is("2992003/996003000", heldOf(x, 0, 0, 5));
        fails(STATE, () -> x.held(0, 0, 4, 1));
    }

    private static void promises10And11() {
        part("Promise 10: NoSuchElementException: person.", () -> {
            OwnerRows x = withThings(0);
            fails(NO_SUCH, () -> x.danger(32, 0, 0));
            fails(NO_SUCH, () -> x.danger(-2, 0, 0));
            fails(NO_SUCH, () -> x.danger(32, 1, 0));
            is(0, x.danger(31, 0, 0));
            is(1, x.danger(NONE, 0, 0));
        });
        part("Promise 10: IllegalArgumentException: a day, or from is above to.", () -> {
            OwnerRows x = withThings(0);
            fails(ARGUMENT, () -> x.danger(0, -1, 0));
            fails(ARGUMENT, () -> x.danger(0, LAST + 1, LAST + 1));
            fails(ARGUMENT, () -> x.danger(0, 0, LAST + 1));
            fails(ARGUMENT, () -> x.danger(0, -2, -1));
            fails(ARGUMENT, () -> x.danger(NONE, 1, 0));
            is(0, x.danger(0, 0, 0));
            is(1, x.danger(0, LAST, LAST));
        });
        part("Promise 10: IllegalStateException: there are ten.", () -> {
            OwnerRows x = withSpans(5, 5);
            for (int rule = 0; rule < 10; rule++) {
                is(rule, x.danger(31, 0, 0));
            }
            fails(STATE, () -> x.danger(NONE, 0, LAST));
            fails(ARGUMENT, () -> x.danger(NONE, 1, 0));
            fails(NO_SUCH, () -> x.danger(32, 0, 0));
            is(NONE, x.asked(0, 0, 0));
        });
        part("Promise 11: The k-th row of a thing, by numbers; NONE.", () -> {
            OwnerRows x = withSpans(9, 9, 5, 5, 0, 0);
            is(NONE, x.asked(0, 0, 0));
            x.danger(NONE, 5, 9);
            x.danger(NONE, 0, 6);
            x.danger(1, 0, 9);
            is(0, x.asked(0, 0, 0));
            is(1, x.asked(0, 1, 0));
            is(2, x.asked(0, 2, 0));
            is(NONE, x.asked(0, 3, 0));
            is(NONE, x.asked(0, MOST_INT, 0));
            x.thing();
            is(NONE, x.asked(1, 0, 0));
        });
        part("Promise 11: NoSuchElementException: thing, or k is below 0; no day.", () -> {
            OwnerRows x = withRow();
            fails(NO_SUCH, () -> x.asked(1, 0, 0));
            fails(NO_SUCH, () -> x.asked(-1, 0, 0));
            fails(NO_SUCH, () -> x.asked(0, -1, 0));
            fails(NO_SUCH, () -> x.asked(0, LEAST_INT, LAST + 1));
            fails(ARGUMENT, () -> x.asked(0, 0, -1));
            fails(ARGUMENT, () -> x.asked(0, 0, LAST + 1));
        });
    }

    private static void promises12To14() {
        part("Promise 12: NoSuchElementException; IllegalArgumentException: no day.", () -> {
            OwnerRows x = withThings(1);
            fails(NO_SUCH, () -> x.claim(1, 0, 0));
            fails(NO_SUCH, () -> x.claim(-1, 0, 0));
            fails(NO_SUCH, () -> x.claim(0, 32, 0));
            fails(NO_SUCH, () -> x.claim(0, -1, -1));
            fails(ARGUMENT, () -> x.claim(0, 0, -1));
            fails(ARGUMENT, () -> x.claim(0, 0, LAST + 1));
            is(false, x.stops(0, LAST));
            is(0, x.claim(0, 31, LAST));
            is(true, x.stops(0, LAST));
            is(false, x.stops(0, LAST - 1));
        });
        part("Promise 12: IllegalStateException: there are 30.", () -> {
            OwnerRows x = withThings(2);
            for (int claim = 0; claim < 30; claim++) {
                is(claim, x.claim(0, 0, 0));
            }
            x.settle(0, 0);
            fails(STATE, () -> x.claim(1, 0, 0));
            fails(ARGUMENT, () -> x.claim(1, 0, -1));
            fails(NO_SUCH, () -> x.claim(1, 32, 0));
            is(false, x.stops(1, LAST));
            failsAct(NO_SUCH, () -> x.settle(30, 0));
        });
        part("Promise 13: NoSuchElementException; no day, or below the claim's.", () -> {
            OwnerRows x = withThings(1);
            failsAct(NO_SUCH, () -> x.settle(0, 0));
            x.claim(0, 0, 10);
            failsAct(NO_SUCH, () -> x.settle(1, 10));
            failsAct(NO_SUCH, () -> x.settle(-1, -1));
            failsAct(ARGUMENT, () -> x.settle(0, -1));
            failsAct(ARGUMENT, () -> x.settle(0, LAST + 1));
            failsAct(ARGUMENT, () -> x.settle(0, 9));
            is(true, x.stops(0, LAST));
            x.settle(0, 10);
            is(false, x.stops(0, 10));
        });
        part("Promise 13: IllegalStateException: it is settled.", () -> {
            OwnerRows x = withThings(1);
            x.claim(0, 0, 10);
            x.settle(0, 20);
            failsAct(STATE, () -> x.settle(0, 10));
            failsAct(STATE, () -> x.settle(0, 20));
            failsAct(STATE, () -> x.settle(0, LAST));
            failsAct(ARGUMENT, () -> x.settle(0, 9));
            is(true, x.stops(0, 19));
            is(false, x.stops(0, 20));
            x.claim(0, 0, 0);
            x.settle(1, 0);
            failsAct(STATE, () -> x.settle(1, 0));
        });
        part("Promise 14: Whether some claim stops a thing's moves on a day.", () -> {
            OwnerRows x = withThings(2);
            is(false, x.stops(0, 0));
            x.claim(0, 0, 0);
            x.claim(0, 0, 50);
            x.settle(0, 40);
            is(true, x.stops(0, 0));
            is(true, x.stops(0, 39));
            is(false, x.stops(0, 40));
            is(false, x.stops(0, 49));
            is(true, x.stops(0, 50));
            x.settle(1, LAST);
            is(true, x.stops(0, LAST - 1));
            is(false, x.stops(0, LAST));
            is(false, x.stops(1, 0));
        });
        part("Promise 14: NoSuchElementException; IllegalArgumentException: no day.", () -> {
            OwnerRows x = withThings(1);
            fails(NO_SUCH, () -> x.stops(1, 0));
            fails(NO_SUCH, () -> x.stops(-1, -1));
            fails(ARGUMENT, () -> x.stops(0, -1));
            fails(ARGUMENT, () -> x.stops(0, LAST + 1));
        });
    }

    private static void promises15And16() {
        part("Promise 15: NoSuchElementException: what, kind, thing or person.", () -> {
            OwnerRows x = withThings(1);
            failsAct(NO_SUCH, () -> x.tell(-1, 0, 0));
            failsAct(NO_SUCH, () -> x.tell(3, 0, 0));
            failsAct(NO_SUCH, () -> x.tell(0, -1, 0));
            failsAct(NO_SUCH, () -> x.tell(0, 4, 201));
            failsAct(NO_SUCH, () -> x.tell(1, -1, 0));
            failsAct(NO_SUCH, () -> x.tell(1, 1, 0));
            failsAct(NO_SUCH, () -> x.tell(1, 0, -1));
            failsAct(NO_SUCH, () -> x.tell(1, 0, 32));
            failsAct(NO_SUCH, () -> x.tell(2, -1, 0));
            failsAct(NO_SUCH, () -> x.tell(2, 32, LAST + 1));
            is(NONE, x.rights(0, 0, 0));
            x.tell(1, 0, 31);
            is(31, x.rights(0, 0, LAST));
        });
        part("Promise 15: IllegalArgumentException: years or day.", () -> {
            OwnerRows x = withEndedMaker(10);
            x.tell(0, 3, 1);
            failsAct(ARGUMENT, () -> x.tell(0, 3, -1));
            failsAct(ARGUMENT, () -> x.tell(0, 3, 201));
            failsAct(ARGUMENT, () -> x.tell(2, 4, -1));
            failsAct(ARGUMENT, () -> x.tell(2, 4, LAST + 1));
            is(4, x.rights(0, 3, 375));
            is(NONE, x.rights(0, 3, 376));
            x.tell(0, 3, 200);
            is(4, x.rights(0, 3, 73010));
            x.tell(0, 3, 0);
            is(NONE, x.rights(0, 3, 11));
        });
        part("Promise 16: Who has the right of a kind to a thing on a day; NONE.", () -> {
            OwnerRows x = withThings(2);
            is(NONE, x.rights(0, 0, 0));
            x.tell(1, 0, 0);
            is(0, x.rights(0, 0, 0));
            is(0, x.rights(0, 3, LAST));
            is(NONE, x.rights(1, 0, 0));
            x.tell(2, 1, 0);
            is(0, x.rights(0, 0, LAST));
            x.tell(2, 0, 0);
            is(NONE, x.rights(0, 0, 1));
        });
        part("Promise 16: NoSuchElementException; IllegalArgumentException: no day.", () -> {
            OwnerRows x = withThings(1);
            fails(NO_SUCH, () -> x.rights(1, 0, 0));
            fails(NO_SUCH, () -> x.rights(-1, 0, 0));
            fails(NO_SUCH, () -> x.rights(0, 4, 0));
            fails(NO_SUCH, () -> x.rights(0, -1, -1));
            fails(ARGUMENT, () -> x.rights(0, 0, -1));
            fails(ARGUMENT, () -> x.rights(0, 0, LAST + 1));
        });
    }

    private static void promises17And18() {
        part("Promise 17: NoSuchElementException: thing or use.", () -> {
            OwnerRows x = withThings(1);
            fails(NO_SUCH, () -> x.licence(1, 0, 0, 0));
            fails(NO_SUCH, () -> x.licence(-1, 0, 0, 0));
            fails(NO_SUCH, () -> x.licence(0, 8, 0, 0));
            fails(NO_SUCH, () -> x.licence(0, -1, 1, 0));
            is(1, x.licence(0, 7, 0, 0));
        });
        part("Promise 17: IllegalArgumentException: a day, or from is above to.", () -> {
            OwnerRows x = withThings(1);
            fails(ARGUMENT, () -> x.licence(0, 0, -1, 0));
            fails(ARGUMENT, () -> x.licence(0, 0, LAST + 1, LAST + 1));
            fails(ARGUMENT, () -> x.licence(0, 0, 0, LAST + 1));
            fails(ARGUMENT, () -> x.licence(0, 0, -2, -1));
            fails(ARGUMENT, () -> x.licence(0, 0, 1, 0));
            is(false, x.licensed(0, 0, 0));
            is(1, x.licence(0, 0, 0, 0));
            is(2, x.licence(0, 0, 0, LAST));
        });
        part("Promise 17: IllegalStateException: there are 40.", () -> {
            OwnerRows x = withThings(1);
            for (int many = 1; many <= 40; many++) {
                is(many, x.licence(0, 0, 0, 0));
            }
            fails(STATE, () -> x.licence(0, 1, 0, 0));
            fails(ARGUMENT, () -> x.licence(0, 1, 1, 0));
            fails(NO_SUCH, () -> x.licence(0, 8, 0, 0));
            is(false, x.licensed(0, 1, 0));
        });
        part("Promise 18: Whether a use of a thing is licensed on a day.", () -> {
            OwnerRows x = withThings(2);
            is(false, x.licensed(0, 0, 0));
            x.licence(0, 0, 1, LAST - 1);
            is(false, x.licensed(0, 0, 0));
            is(true, x.licensed(0, 0, 1));
            is(true, x.licensed(0, 0, LAST - 1));
            is(false, x.licensed(0, 0, LAST));
            x.licence(0, 0, 5, 6);
            is(true, x.licensed(0, 0, 7));
            is(false, x.licensed(0, 1, 5));
            is(false, x.licensed(1, 0, 5));
        });
        part("Promise 18: NoSuchElementException; IllegalArgumentException: no day.", () -> {
            OwnerRows x = withThings(1);
            fails(NO_SUCH, () -> x.licensed(1, 0, 0));
            fails(NO_SUCH, () -> x.licensed(-1, 0, 0));
            fails(NO_SUCH, () -> x.licensed(0, 8, 0));
            fails(NO_SUCH, () -> x.licensed(0, -1, -1));
            fails(ARGUMENT, () -> x.licensed(0, 0, -1));
            fails(ARGUMENT, () -> x.licensed(0, 0, LAST + 1));
        });
    }

    private static void promises19And20() {
        part("Promise 19: or not: whether that was not so. NoSuchElementException.", () -> {
            OwnerRows x = withRow();
            is(false, x.seal(0, 0, false));
            is(true, x.seal(0, 0, true));
            is(false, x.seal(0, 0, true));
            is(false, x.seal(0, 7, false));
            is(true, x.seal(0, 7, true));
            is(true, x.seal(0, 0, false));
            is(false, x.seal(0, 7, true));
            fails(NO_SUCH, () -> x.seal(1, 0, true));
            fails(NO_SUCH, () -> x.seal(-1, 0, true));
            fails(NO_SUCH, () -> x.seal(0, 8, true));
            fails(NO_SUCH, () -> x.seal(0, -1, true));
            fails(NO_SUCH, () -> x.seal(0, 32, true));
            is(0, x.seen(0, 0, 0, 5));
            is(NONE, x.seen(0, 7, 0, 5));
        });
        part("Promise 20: The k-th row of a thing, by numbers, that is not sealed for a role; NONE.", () -> {
            OwnerRows x = withSpans(9, 9, 5, 5, 0, 0);
            is(0, x.seen(0, 0, 0, 0));
            is(1, x.seen(0, 0, 1, 0));
            is(2, x.seen(0, 0, 2, 0));
            is(NONE, x.seen(0, 0, 3, 0));
            is(NONE, x.seen(0, 0, MOST_INT, 0));
            x.seal(0, 0, true);
            x.seal(2, 0, true);
            is(1, x.seen(0, 0, 0, 0));
            is(NONE, x.seen(0, 0, 1, 0));
            x.seal(1, 0, true);
            is(NONE, x.seen(0, 0, 0, 0));
            is(2, x.seen(0, 1, 2, 0));
            x.thing();
            is(NONE, x.seen(1, 0, 0, 0));
        });
        part("Promise 20: NoSuchElementException: thing or role, or k is below 0; no day.", () -> {
            OwnerRows x = withRow();
            fails(NO_SUCH, () -> x.seen(1, 0, 0, 5));
            fails(NO_SUCH, () -> x.seen(-1, 0, 0, 5));
            fails(NO_SUCH, () -> x.seen(0, 8, 0, 5));
            fails(NO_SUCH, () -> x.seen(0, -1, 0, 5));
            fails(NO_SUCH, () -> x.seen(0, 0, -1, 5));
            fails(NO_SUCH, () -> x.seen(0, 0, LEAST_INT, -1));
            fails(ARGUMENT, () -> x.seen(0, 0, 0, -1));
            fails(ARGUMENT, () -> x.seen(0, 0, 0, LAST + 1));
        });
    }

    private static void promises21And22() {
        part("Promise 21: NoSuchElementException: thing or currency.", () -> {
            OwnerRows x = withThings(1);
            fails(NO_SUCH, () -> x.worth(1, 0, 0, 0));
            fails(NO_SUCH, () -> x.worth(-1, 0, 0, 0));
            fails(NO_SUCH, () -> x.worth(0, 0, 8, 0));
            fails(NO_SUCH, () -> x.worth(0, -1, -1, -1));
            is(1, x.worth(0, 0, 7, 0));
        });
        part("Promise 21: IllegalArgumentException: a day, or v is below 0.", () -> {
            OwnerRows x = withThings(1);
            fails(ARGUMENT, () -> x.worth(0, -1, 0, 0));
            fails(ARGUMENT, () -> x.worth(0, LAST + 1, 0, 0));
            fails(ARGUMENT, () -> x.worth(0, 0, 0, -1));
            fails(ARGUMENT, () -> x.worth(0, 0, 0, LEAST_INT));
            is(NONE, x.value(0, LAST, 0));
            is(1, x.worth(0, 0, 0, 0));
            is(0, x.value(0, 0, 0));
            is(2, x.worth(0, LAST, 0, MOST_INT));
            is(MOST_INT, x.value(0, LAST, 0));
            is(0, x.value(0, LAST - 1, 0));
        });
        part("Promise 21: IllegalStateException: there are 60.", () -> {
            OwnerRows x = withThings(1);
            for (int many = 1; many <= 60; many++) {
                is(many, x.worth(0, 0, 0, many));
            }
            fails(STATE, () -> x.worth(0, 0, 0, 61));
            fails(ARGUMENT, () -> x.worth(0, 0, 0, -1));
            fails(NO_SUCH, () -> x.worth(0, 0, 8, 0));
            is(60, x.value(0, 0, 0));
        });
        part("Promise 22: the greatest day not above it, of equal ones the later one; NONE.", () -> {
            OwnerRows x = withThings(1);
            is(NONE, x.value(0, LAST, 0));
            x.worth(0, 20, 0, 7);
            x.worth(0, 10, 0, 9);
            is(NONE, x.value(0, 9, 0));
            is(9, x.value(0, 10, 0));
            is(9, x.value(0, 19, 0));
            is(7, x.value(0, 20, 0));
            is(7, x.value(0, LAST, 0));
            x.worth(0, 20, 0, 3);
            is(3, x.value(0, 20, 0));
            x.worth(0, 10, 0, 0);
            is(0, x.value(0, 10, 0));
            is(3, x.value(0, 20, 0));
            x.worth(0, 0, 0, 8);
            is(8, x.value(0, 0, 0));
        });
        part("Promise 22: NoSuchElementException; IllegalArgumentException: no day.", () -> {
            OwnerRows x = withThings(1);
            fails(NO_SUCH, () -> x.value(1, 0, 0));
            fails(NO_SUCH, () -> x.value(-1, 0, 0));
            fails(NO_SUCH, () -> x.value(0, 0, 8));
            fails(NO_SUCH, () -> x.value(0, -1, -1));
            fails(ARGUMENT, () -> x.value(0, -1, 0));
            fails(ARGUMENT, () -> x.value(0, LAST + 1, 0));
        });
    }

    private static void promise23() {
        part("Promise 23: i = NONE: its length.", () -> {
            is(0, withThings(1).chain(0, 0, NONE));
            OwnerRows x = withRow();
            is(0, x.chain(0, 4, NONE));
            is(8, x.chain(0, 5, NONE));
            OwnerRows full = withThings(1);
            for (int row = 0; row < 120; row++) {
                full.owner(0, 31, LAST, LAST, 0);
                full.doubt(row, true);
            }
            is(120 * 18, full.chain(0, 0, NONE));
            is(59, full.chain(0, 0, 120 * 18 - 1));
            fails(NO_SUCH, () -> full.chain(0, 0, 120 * 18));
        });
        part("Promise 23: NoSuchElementException: thing, or there is no such sign.", () -> {
            OwnerRows x = withRow();
            fails(NO_SUCH, () -> x.chain(1, 5, 0));
            fails(NO_SUCH, () -> x.chain(-1, 5, 0));
            is(51, x.chain(0, 5, 0));
            is(59, x.chain(0, 5, 7));
            fails(NO_SUCH, () -> x.chain(0, 5, 8));
            fails(NO_SUCH, () -> x.chain(0, 4, 0));
            fails(NO_SUCH, () -> x.chain(0, 5, -2));
            fails(NO_SUCH, () -> x.chain(0, 5, LEAST_INT));
            fails(NO_SUCH, () -> x.chain(0, 5, MOST_INT));
            fails(NO_SUCH, () -> x.chain(0, -1, -2));
        });
        part("Promise 23: IllegalArgumentException: no day.", () -> {
            OwnerRows x = withRow();
            fails(ARGUMENT, () -> x.chain(0, -1, NONE));
            fails(ARGUMENT, () -> x.chain(0, LAST + 1, NONE));
            fails(ARGUMENT, () -> x.chain(0, LAST + 1, 0));
            fails(NO_SUCH, () -> x.chain(1, -1, NONE));
        });
    }

    public static void main(String[] args) {
        theWhole();
        termsOfRows();
        termsOfCorrections();
        termsOfKnowing();
        termsOfVoid();
        termsOfGaps();
        termsOfDanger();
        termsOfClaims();
        termsOfRights();
        termsOfLicencesAndValues();
        termsOfSealsAndChains();
        promises1To5();
        promises6And7();
        promise8();
        promise9();
        promises10And11();
        promises12To14();
        promises15And16();
        promises17And18();
        promises19And20();
        promises21And22();
        promise23();
        end();
    }
}
