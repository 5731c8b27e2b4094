/** Promises 13 and 14: take, give. */
public final class MoveTest {
    private static final Check CHECK = new Check();
    private static final int[] NO_ROWS = {-1, 2, 3, Integer.MIN_VALUE, Integer.MAX_VALUE};

    public static void main(String[] args) {
        takeLeavesZerosOut();
        takeKeepsRows();
        takeOfZeros();
        takeOfAFullRow();
        takeReplacesALongerProduct();
        takeIsRefused();
        giveReplacesTheRow();
        giveKeepsTheProductAndTheOtherRow();
        giveOfNothing();
        giveOfAFullProduct();
        giveIsRefused();
        bothBeforeInit();
        copiesAreApart();
        CHECK.ended();
    }

    private static TransformProduct made() {
        return Made.unready(3, Made.row(1, 2, 0), Made.row(3, 0, 4));
    }

    /** Promise 13: "without zeros at its end"; those inside and at its beginning stay. */
    private static void takeLeavesZerosOut() {
        TransformProduct x = Made.unready(3, Made.row(1, 2, 0), Made.row(0, 0, 4, 0, 0));
        CHECK.yes("take(0)", x.take(0));
        CHECK.product("A", x, 1, 2);
        CHECK.yes("take(1)", x.take(1));
        CHECK.product("B", x, 0, 0, 4);
    }

    /** Promise 13: "A and B stay", with the zeros at their ends. */
    private static void takeKeepsRows() {
        TransformProduct x = Made.unready(3, Made.row(1, 2, 0), Made.row(5, 0, 0));
        x.take(0);
        x.take(1);
        CHECK.yes("A still has its zero, so five more fit", x.repeat(0, 9, 5));
        CHECK.no("and no sixth", x.feedA(9));
        CHECK.yes("B still has its zeros, so five more fit", x.repeat(1, 8, 5));
        CHECK.no("and no sixth", x.feedB(8));
        x.take(0);
        CHECK.product("A", x, 1, 2, 0, 9, 9, 9, 9, 9);
        x.take(1);
        CHECK.product("B", x, 5, 0, 0, 8, 8, 8, 8, 8);
        Twins taken = new Twins(CHECK, "taken", () -> {
            TransformProduct y = made();
            y.take(0);
            return y;
        });
        taken.grants("take(0) again", y -> y.take(0));
    }

    /** Promise 13 of a row without digits, or with none but zeros. */
    private static void takeOfZeros() {
        for (int which = 0; which < 2; which++) {
            TransformProduct x = made();
            x.take(which);
            x.clear();
            CHECK.yes("take() of nothing", x.take(which));
            CHECK.product("nothing", x);
            x.repeat(which, 0, 8);
            x.feedA(6);
            x.feedB(6);
            x.take(1 - which);
            CHECK.product("the other row", x, 6);
            CHECK.yes("take() of zeros", x.take(which));
            CHECK.product("zeros", x);
        }
    }

    private static void takeOfAFullRow() {
        for (int which = 0; which < 2; which++) {
            TransformProduct x = new TransformProduct(2);
            x.repeat(which, 32767, 4);
            CHECK.yes("take() of a full row", x.take(which));
            CHECK.product("full", x, 32767, 32767, 32767, 32767);
            TransformProduct y = new TransformProduct(10);
            y.repeat(which, 0, 1023);
            y.repeat(which, 5, 1);
            CHECK.yes("take() of the longest row", y.take(which));
            CHECK.same("length() of the longest row", y.length(), 1024);
            CHECK.same("its last digit", y.digit(1023), 5);
        }
    }

    private static void takeReplacesALongerProduct() {
        TransformProduct x = made();
        x.init();
        x.multiply();
        CHECK.same("length()", x.length(), 4);
        CHECK.yes("take(0)", x.take(0));
        CHECK.product("A", x, 1, 2);
        x.clear();
        x.feedA(5);
        x.take(0);
        x.take(1);
        CHECK.product("an empty row", x);
    }

    /** Promise 13: "false when which is not such." */
    private static void takeIsRefused() {
        Twins fresh = new Twins(CHECK, "new", () -> new TransformProduct(3));
        Twins used = new Twins(CHECK, "used", () -> Made.multiplied(3, Made.row(1, 2, 0), Made.row(3, 0, 4)));
        for (int which : NO_ROWS) {
            fresh.refuses("take(" + which + ")", x -> x.take(which));
            used.refuses("take(" + which + ")", x -> x.take(which));
        }
    }

    /** Promise 14: "become those of A (which = 0) or B (1)": shorter or longer than the row was. */
    private static void giveReplacesTheRow() {
        for (int which = 0; which < 2; which++) {
            TransformProduct x = Made.unready(3, Made.row(1, 2), Made.row(1, 2));
            x.take(which);
            x.repeat(which, 9, 6);
            CHECK.yes("give() to a longer row", x.give(which));
            CHECK.same("compare() of the same", x.compare(), 0);
            CHECK.yes("six more fit", x.repeat(which, 1, 6));
            CHECK.no("and no seventh", x.repeat(which, 1, 1));
            x.take(which);
            CHECK.product("row " + which, x, 1, 2, 1, 1, 1, 1, 1, 1);
            CHECK.yes("give() to a shorter row", x.give(1 - which));
            CHECK.same("compare() of the same", x.compare(), 0);
            CHECK.no("no more fits", x.repeat(1 - which, 1, 1));
        }
    }

    /** Promise 14: "the product stays". */
    private static void giveKeepsTheProductAndTheOtherRow() {
        TransformProduct x = made();
        x.take(0);
        CHECK.yes("give(1)", x.give(1));
        CHECK.product("the product stays", x, 1, 2);
        CHECK.yes("A still has its zero, so five more fit", x.repeat(0, 9, 5));
        CHECK.no("and no sixth", x.feedA(9));
        Twins given = new Twins(CHECK, "given", () -> {
            TransformProduct y = made();
            y.take(0);
            y.give(1);
            return y;
        });
        given.grants("give(1) again", y -> y.give(1));
    }

    /** Promise 14 of a product without digits. */
    private static void giveOfNothing() {
        for (int which = 0; which < 2; which++) {
            TransformProduct x = made();
            CHECK.yes("give() of nothing", x.give(which));
            CHECK.yes("the row is empty, so N fit", x.repeat(which, 6, 8));
            x.take(1 - which);
            CHECK.product("the other stays", x, which == 0 ? Made.row(3, 0, 4) : Made.row(1, 2));
            TransformProduct y = Made.multiplied(3, Made.row(0, 0), Made.row(7, 7));
            CHECK.yes("give() of zero", y.give(which));
            CHECK.yes("the row is empty, so N fit", y.repeat(which, 6, 8));
        }
    }

    private static void giveOfAFullProduct() {
        TransformProduct x = Made.ready(2, Made.row(32767, 32767), Made.row());
        x.square();
        CHECK.product("square", x, 1, 0, 32766, 32767);
        CHECK.yes("give(0)", x.give(0));
        CHECK.no("A is full", x.feedA(1));
        CHECK.no("square() of a full A", x.square());
        CHECK.same("A's spectrum is the new A's", x.spectrum(0, 0, 0), 65534);
        CHECK.yes("give(1)", x.give(1));
        CHECK.no("B is full", x.feedB(1));
        CHECK.same("compare() of both given", x.compare(), 0);
    }

    /** Promise 14: "false when which is not such." */
    private static void giveIsRefused() {
        Twins fresh = new Twins(CHECK, "new", () -> new TransformProduct(3));
        Twins used = new Twins(CHECK, "used", () -> Made.multiplied(3, Made.row(1, 2, 0), Made.row(3, 0, 4)));
        for (int which : NO_ROWS) {
            fresh.refuses("give(" + which + ")", x -> x.give(which));
            used.refuses("give(" + which + ")", x -> x.give(which));
        }
    }

    /** Neither promise asks that the object be ready. */
    private static void bothBeforeInit() {
        TransformProduct x = made();
        CHECK.yes("take(1) before init()", x.take(1));
        CHECK.yes("give(0) before init()", x.give(0));
        CHECK.same("compare() before init()", x.compare(), 0);
        CHECK.same("rest(1000) before init()", x.rest(1000), (3 + 4 * 32768L * 32768L) % 1000);
        CHECK.yes("init() afterwards", x.init());
    }

    private static void copiesAreApart() {
        TransformProduct x = made();
        x.take(0);
        x.feedA(7);
        CHECK.product("taken", x, 1, 2);
        x.give(1);
        x.feedB(8);
        CHECK.product("given", x, 1, 2);
        x.take(1);
        CHECK.product("B", x, 1, 2, 8);
        x.take(0);
        CHECK.product("A", x, 1, 2, 0, 7);
    }
}
