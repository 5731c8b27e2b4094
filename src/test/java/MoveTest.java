/** Promises 13 and 14: take, give. */
public final class MoveTest {
    private static final Check CHECK = new Check();
    private static final int[] NO_ROWS = {-1, 2, 3, Integer.MIN_VALUE, Integer.MAX_VALUE};

    public static void main(String[] args) {
        takeLeavesZerosOut();
        takeOfAFullRow();
        takeReplacesALongerProduct();
        takeIsRefused();
        giveReplacesTheRow();
        giveOfNothing();
        giveOfAFullProduct();
        giveIsRefused();
        copiesAreApart();
        CHECK.ended();
    }

    private static TransformProduct made() {
        TransformProduct x = new TransformProduct(3);
        x.feedA(1);
        x.feedA(2);
        x.feedA(0);
        x.feedB(3);
        x.feedB(0);
        x.feedB(4);
        return x;
    }

    private static void takeLeavesZerosOut() {
        TransformProduct x = made();
        CHECK.yes("take(0)", x.take(0));
        CHECK.product("A", x, 1, 2);
        CHECK.yes("take(1)", x.take(1));
        CHECK.product("B", x, 3, 0, 4);
        CHECK.yes("A still has its zero, so five more fit", x.repeat(0, 9, 5));
        CHECK.no("and no sixth", x.feedA(9));
        x.take(0);
        CHECK.product("A", x, 1, 2, 0, 9, 9, 9, 9, 9);
        x.clear();
        x.repeat(0, 0, 8);
        CHECK.yes("take(0) of zeros", x.take(0));
        CHECK.product("zeros", x);
    }

    private static void takeOfAFullRow() {
        TransformProduct x = new TransformProduct(2);
        x.repeat(1, 32767, 4);
        CHECK.yes("take(1) of a full row", x.take(1));
        CHECK.product("full", x, 32767, 32767, 32767, 32767);
    }

    private static void takeReplacesALongerProduct() {
        TransformProduct x = made();
        x.init();
        x.multiply();
        CHECK.same("length()", x.length(), 4);
        CHECK.yes("take(0)", x.take(0));
        CHECK.product("A", x, 1, 2);
        x.clear();
        x.feedA(5);
        x.take(0);
        x.take(1);
        CHECK.product("an empty row", x);
    }

    private static void takeIsRefused() {
        TransformProduct x = made();
        x.take(1);
        for (int which : NO_ROWS) {
            CHECK.no("take(" + which + ")", x.take(which));
        }
        CHECK.product("after refusals", x, 3, 0, 4);
    }

    private static void giveReplacesTheRow() {
        TransformProduct x = made();
        x.take(0);
        CHECK.yes("give(1)", x.give(1));
        CHECK.product("the product stays", x, 1, 2);
        CHECK.same("compare()", x.compare(), 0);
        CHECK.yes("six more in B", x.repeat(1, 1, 6));
        CHECK.no("and no seventh", x.feedB(1));
        x.take(1);
        CHECK.product("B", x, 1, 2, 1, 1, 1, 1, 1, 1);
        TransformProduct y = made();
        y.take(1);
        CHECK.yes("give(0)", y.give(0));
        y.clear();
        y.take(0);
        CHECK.product("cleared", y);
    }

    private static void giveOfNothing() {
        TransformProduct x = made();
        CHECK.yes("give(0) of nothing", x.give(0));
        CHECK.yes("A is empty, so N fit", x.repeat(0, 6, 8));
        x.take(1);
        CHECK.product("B stays", x, 3, 0, 4);
    }

    private static void giveOfAFullProduct() {
        TransformProduct x = new TransformProduct(2);
        x.init();
        x.repeat(0, 32767, 2);
        x.square();
        CHECK.product("square", x, 1, 0, 32766, 32767);
        CHECK.yes("give(0)", x.give(0));
        CHECK.no("A is full", x.feedA(1));
        CHECK.no("square() of a full A", x.square());
        CHECK.same("A's spectrum is the new A's", x.spectrum(0, 0, 0), 65534);
    }

    private static void giveIsRefused() {
        TransformProduct x = made();
        for (int which : NO_ROWS) {
            CHECK.no("give(" + which + ")", x.give(which));
        }
        x.take(0);
        CHECK.product("A", x, 1, 2);
        x.take(1);
        CHECK.product("B", x, 3, 0, 4);
    }

    private static void copiesAreApart() {
        TransformProduct x = made();
        x.take(0);
        x.feedA(7);
        CHECK.product("taken", x, 1, 2);
        x.give(1);
        x.feedB(8);
        CHECK.product("given", x, 1, 2);
        x.take(1);
        CHECK.product("B", x, 1, 2, 8);
        x.take(0);
        CHECK.product("A", x, 1, 2, 0, 7);
    }
}
