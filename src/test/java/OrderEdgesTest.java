/** The edges of promise 8 (order); each test quotes its sentence. */
public final class OrderEdgesTest {
    public static void main(String[] args) {
        noSuchPlace();
        placesOfAllTables();
        leastOneFirst();
        allParentsAreIn();
        butItself();
        chainOfFive();
        circleOfTwo();
        circleOfFive();
        circleAtTheEnd();
        placeBeforeCircle();
        applyInACircle();
        whatACircleLeaves();
        Due.end();
    }

    /** Tables of which one refers to another, in pairs: child, parent. */
    private static FixtureTables referring(int count, int... pairs) {
        FixtureTables x = Due.keys(count, 0);
        for (int i = 0; i < pairs.length; i += 2) {
            x.column(pairs[i], 0, false, pairs[i + 1]);
        }
        return x;
    }

    private static void orderIs(FixtureTables x, int... want) {
        for (int k = 0; k < want.length; k++) {
            int place = k;
            Due.is("order(" + k + ")", want[k], () -> x.order(place));
        }
        for (int k : Due.outside(want.length)) {
            Due.raises("order(" + k + ")", Due.IAE, () -> x.order(k));
        }
    }

    private static void circle(FixtureTables x, int count) {
        for (int k = 0; k < count; k++) {
            int place = k;
            Due.raises("order(" + k + ") in a circle", Due.UOE, () -> x.order(place));
        }
        for (int k : Due.outside(count)) {
            Due.raises("order(" + k + ") in a circle", Due.IAE, () -> x.order(k));
        }
    }

    /** "IllegalArgumentException if there is no such place" */
    private static void noSuchPlace() {
        for (int k : Due.outside(3)) {
            Twins.refused("order(" + k + ")", Due.IAE, () -> Twins.rich(1), x -> x.order(k));
        }
        Twins.answered("order(0)", 0, () -> Twins.rich(1), x -> x.order(0));
        Twins.answered("order(2)", 2, () -> Twins.rich(1), x -> x.order(2));
        for (int k : Due.outside(0)) {
            Twins.refused("order(" + k + ") of no tables", Due.IAE, FixtureTables::new, x -> x.order(k));
        }
    }

    /** "Table k in their order.": tables without columns, too */
    private static void placesOfAllTables() {
        FixtureTables x = new FixtureTables();
        orderIs(x);
        for (int count = 1; count <= 5; count++) {
            x.table();
            orderIs(x, new int[][] {{}, {0}, {0, 1}, {0, 1, 2}, {0, 1, 2, 3}, {0, 1, 2, 3, 4}}[count]);
        }
    }

    /** "always the least one that is not in it yet" */
    private static void leastOneFirst() {
        orderIs(referring(5, 0, 4), 1, 2, 3, 4, 0);
        orderIs(referring(5, 0, 3), 1, 2, 3, 0, 4);
        orderIs(referring(5, 0, 1), 1, 0, 2, 3, 4);
        orderIs(referring(5, 3, 4), 0, 1, 2, 4, 3);
        orderIs(referring(5, 4, 0), 0, 1, 2, 3, 4);
    }

    /** "and all of whose parents (but itself) are." */
    private static void allParentsAreIn() {
        orderIs(referring(5, 0, 1, 0, 2, 0, 3, 0, 4), 1, 2, 3, 4, 0);
        orderIs(referring(5, 1, 2, 1, 4), 0, 2, 3, 4, 1);
        orderIs(referring(5, 1, 4, 1, 2), 0, 2, 3, 4, 1);
        orderIs(referring(5, 0, 2, 2, 4, 1, 3), 3, 1, 4, 2, 0);
        FixtureTables x = new FixtureTables();
        x.table();
        x.table();
        x.column(1, 2, false, -1);
        x.column(0, 2, false, 1);
        orderIs(x, 1, 0);
    }

    /** "(but itself)" */
    private static void butItself() {
        orderIs(referring(5, 0, 0, 1, 1, 2, 2, 3, 3, 4, 4), 0, 1, 2, 3, 4);
        orderIs(referring(3, 0, 0, 0, 2, 0, 0), 1, 2, 0);
        FixtureTables x = new FixtureTables();
        x.table();
        x.column(0, 3, false, 0);
        orderIs(x, 0);
    }

    private static void chainOfFive() {
        orderIs(referring(5, 0, 1, 1, 2, 2, 3, 3, 4), 4, 3, 2, 1, 0);
        orderIs(referring(5, 4, 3, 3, 2, 2, 1, 1, 0), 0, 1, 2, 3, 4);
    }

    /** "There is none if that ends too early (a CIRCLE)." */
    private static void circleOfTwo() {
        orderIs(referring(2, 0, 1), 1, 0);
        circle(referring(2, 0, 1, 1, 0), 2);
        circle(referring(5, 0, 1, 1, 0), 5);
        circle(referring(5, 3, 4, 4, 3), 5);
    }

    private static void circleOfFive() {
        orderIs(referring(5, 0, 1, 1, 2, 2, 3, 3, 4, 4, 4), 4, 3, 2, 1, 0);
        circle(referring(5, 0, 1, 1, 2, 2, 3, 3, 4, 4, 0), 5);
        circle(referring(5, 4, 3, 3, 2, 2, 1, 1, 0, 0, 4), 5);
    }

    /** The tables ahead of the circle have no place either. */
    private static void circleAtTheEnd() {
        circle(referring(3, 1, 2, 2, 1), 3);
        circle(referring(5, 2, 3, 3, 4, 4, 2), 5);
        circle(referring(3, 0, 1, 1, 0, 2, 0), 3);
    }

    /** "Of several exceptions that apply the first one listed is thrown." */
    private static void placeBeforeCircle() {
        for (int k : Due.outside(2)) {
            Twins.refused("order(" + k + ") in a circle", Due.IAE, OrderEdgesTest::inACircle, x -> x.order(k));
        }
        for (int k = 0; k < 2; k++) {
            int place = k;
            Twins.refused("order(" + k + ") in a circle", Due.UOE, OrderEdgesTest::inACircle, x -> x.order(place));
        }
    }

    /** Two tables that refer to each other, with a dataset, a comparison and a transaction. */
    private static FixtureTables inACircle() {
        FixtureTables x = referring(2, 0, 1, 1, 0);
        Due.text(x, "0(0):1:2;1(0):~;");
        x.read();
        x.compare(0, 0);
        x.write(1);
        x.begin();
        return x;
    }

    /** "UnsupportedOperationException if there is a circle" */
    private static void applyInACircle() {
        for (int operation = 0; operation < 6; operation++) {
            Twins.notTried("apply in a circle", Due.UOE, OrderEdgesTest::inACircle, operation);
            Twins.notTried("apply without a dataset, in a circle", Due.UOE, () -> referring(2, 0, 1, 1, 0), operation);
        }
        for (int operation : Due.outside(6)) {
            Twins.notTried("no such operation, in a circle", Due.IAE, OrderEdgesTest::inACircle, operation);
        }
        FixtureTables x = referring(3, 0, 1);
        Due.fails(x, "0(0):~;", 0, 1, 0, 0, 0);
        x.column(1, 0, false, 0);
        Due.failure(x, "column leaves it", 1, 0, 0, 0);
        Due.raises("apply in a circle", Due.UOE, () -> x.apply(0));
        Due.failure(x, "it threw for another reason", 0, -1, -1, -1);
        Due.dataset(x, "2(0):1;", 1);
        Due.raises("a table outside of the circle", Due.UOE, () -> x.apply(0));
        Due.is("nothing was done", 0, () -> x.rows(2));
    }

    /** What has nothing to do with the order goes on. */
    private static void whatACircleLeaves() {
        FixtureTables x = inACircle();
        Due.is("compare", 2, () -> x.compare(0, 0));
        Due.is("write", 6, () -> x.write(0));
        Due.is("rows", 0, () -> x.rows(0));
        Due.is("rollback", 0, () -> x.rollback());
        Due.is("table", 2, () -> x.table());
        Due.is("column", 2, () -> x.column(0, 0, false, 1));
    }
}
