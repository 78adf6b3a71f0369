/** Promise 8 (order), and the order in which operations go. */
public final class OrderTest {
    public static void main(String[] args) {
        withoutReferences();
        leastFirst();
        ownReference();
        tablesWithoutColumns();
        circle();
        circleBehindOthers();
        circleOfFive();
        keysThatRefer();
        Due.end();
    }

    private static void orderIs(FixtureTables x, int... want) {
        for (int k = 0; k < want.length; k++) {
            int place = k;
            Due.is("order(" + k + ")", want[k], () -> x.order(place));
        }
        Due.raises("order behind the last", Due.IAE, () -> x.order(want.length));
        Due.raises("order(-1)", Due.IAE, () -> x.order(-1));
    }

    private static void withoutReferences() {
        orderIs(new FixtureTables());
        orderIs(Due.keys(5, 0), 0, 1, 2, 3, 4);
    }

    private static void leastFirst() {
        FixtureTables x = Due.keys(5, 0);
        x.column(0, 0, false, 3);
        orderIs(x, 1, 2, 3, 0, 4);
        x.column(1, 0, false, 4);
        orderIs(x, 2, 3, 0, 4, 1);
        x.column(3, 0, false, 4);
        orderIs(x, 2, 4, 1, 3, 0);
        x.column(2, 0, false, 0);
        orderIs(x, 4, 1, 3, 0, 2);
        x.column(2, 0, false, 4);
        orderIs(x, 4, 1, 3, 0, 2);
    }

    private static void ownReference() {
        FixtureTables x = Due.keys(2, 0);
        x.column(0, 0, false, 0);
        orderIs(x, 0, 1);
        x.column(0, 0, false, 1);
        orderIs(x, 1, 0);
    }

    private static void tablesWithoutColumns() {
        FixtureTables x = Due.keys(2, 0);
        x.column(0, 0, false, 1);
        x.table();
        orderIs(x, 1, 0, 2);
    }

    private static void circle() {
        FixtureTables x = Due.keys(3, 0);
        x.column(0, 0, false, 1);
        x.column(1, 0, false, 2);
        Due.dataset(x, "0(0):1;", 1);
        x.begin();
        x.rollback();
        x.column(2, 0, false, 0);
        for (int k = 0; k < 3; k++) {
            int place = k;
            Due.raises("order in a circle", Due.UOE, () -> x.order(place));
        }
        Due.raises("no such place, in a circle", Due.IAE, () -> x.order(3));
        Due.raises("no such place, in a circle", Due.IAE, () -> x.order(-1));
        Due.raises("no dataset, in a circle", Due.UOE, () -> x.apply(0));
        Due.dataset(x, "0(0):1;", 1);
        for (int operation = 0; operation < 6; operation++) {
            int number = operation;
            Due.raises("apply in a circle", Due.UOE, () -> x.apply(number));
            Due.failure(x, "in a circle", 0, -1, -1, -1);
        }
        Due.raises("no such operation, in a circle", Due.IAE, () -> x.apply(6));
        Due.raises("no such operation, in a circle", Due.IAE, () -> x.apply(-1));
        Due.is("nothing was done", 0, () -> x.rows(0));
        Due.is("compare in a circle", 1, () -> x.compare(0, 0));
    }

    private static void circleBehindOthers() {
        FixtureTables x = Due.keys(3, 0);
        x.column(1, 0, false, 2);
        x.column(2, 0, false, 1);
        Due.raises("the first place, ahead of a circle", Due.UOE, () -> x.order(0));
        Due.dataset(x, "0(0):1;", 1);
        Due.raises("a table outside of the circle", Due.UOE, () -> x.apply(0));
    }

    private static void circleOfFive() {
        FixtureTables x = Due.keys(5, 0);
        int[][] orders = {{0, 1, 2, 3, 4}, {1, 0, 2, 3, 4}, {2, 1, 0, 3, 4}, {3, 2, 1, 0, 4}, {4, 3, 2, 1, 0}};
        for (int i = 0; i < 5; i++) {
            orderIs(x, orders[i]);
            x.column(i, 0, false, (i + 1) % 5);
        }
        for (int k = 0; k < 5; k++) {
            int place = k;
            Due.raises("order in a circle of five", Due.UOE, () -> x.order(place));
        }
    }

    private static void keysThatRefer() {
        FixtureTables x = new FixtureTables();
        x.table();
        x.table();
        x.column(1, 0, false, -1);
        x.column(0, 0, false, 1);
        orderIs(x, 1, 0);
        x.column(1, 0, false, 0);
        Due.raises("a circle by a key", Due.UOE, () -> x.order(0));
    }
}
