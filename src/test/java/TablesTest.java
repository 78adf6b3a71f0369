/** Promises 1 (a new object), 2 (table), 3 (column) and 11 (rows). */
public final class TablesTest {
    public static void main(String[] args) {
        newObject();
        tables();
        columns();
        wrongColumns();
        parents();
        columnsAreRefused();
        argumentsComeFirst();
        columnForgetsDataset();
        rows();
        Due.end();
    }

    private static void newObject() {
        FixtureTables x = new FixtureTables();
        Due.raises("rows(0) of a new object", Due.IOOBE, () -> x.rows(0));
        Due.raises("order(0) of a new object", Due.IAE, () -> x.order(0));
        Due.raises("apply(0) of a new object", Due.ISE, () -> x.apply(0));
        Due.raises("compare of a new object", Due.ISE, () -> x.compare(0, 0));
        Due.raises("difference of a new object", Due.IOOBE, () -> x.difference(0, 0));
        Due.raises("written of a new object", Due.IOOBE, () -> x.written(0));
        Due.raises("write of a new object", Due.IOOBE, () -> x.write(0));
        Due.raises("commit of a new object", Due.ISE, () -> x.commit());
        Due.raises("rollback of a new object", Due.ISE, () -> x.rollback());
        Due.is("fault of a new object", -1, () -> x.fault());
        Due.failure(x, "of a new object", 0, -1, -1, -1);
        Due.is("read of a new object", 0, () -> x.read());
        Due.is("apply(0) of no sections", 0, () -> x.apply(0));
        Due.is("apply(5) of no sections", 0, () -> x.apply(5));
        Due.is("compare of no sections", 0, () -> x.compare(0, 0));
    }

    private static void tables() {
        FixtureTables x = new FixtureTables();
        for (int i = 0; i < 5; i++) {
            int number = i;
            Due.is("table " + i, number, () -> x.table());
            Due.is("rows of table " + i, 0, () -> x.rows(number));
        }
        Due.raises("a sixth table", Due.ISE, () -> x.table());
        Due.raises("a sixth table's rows", Due.IOOBE, () -> x.rows(5));

        FixtureTables y = new FixtureTables();
        y.begin();
        Due.is("a table in a transaction", 0, () -> y.table());
        Due.is("rollback", 0, () -> y.rollback());
        Due.is("rollback leaves the table", 0, () -> y.rows(0));
        Due.is("the next table", 1, () -> y.table());
    }

    private static void columns() {
        FixtureTables x = new FixtureTables();
        x.table();
        x.table();
        for (int i = 0; i < 5; i++) {
            int number = i;
            Due.is("column " + i, number, () -> x.column(1, number % 4, true, -1));
        }
        Due.raises("a sixth column", Due.ISE, () -> x.column(1, 0, true, -1));
        Due.is("the other table's first column", 0, () -> x.column(0, 3, false, -1));
        Due.applied(x, "1(01234):1,2,c,t,5;", 0, 1);
        Due.table(x, 1, "1(01234):1,2.00,c,t,5;");
    }

    private static void wrongColumns() {
        FixtureTables x = new FixtureTables();
        Due.raises("no table", Due.IAE, () -> x.column(0, 0, false, -1));
        x.table();
        Due.raises("table -1", Due.IAE, () -> x.column(-1, 0, false, -1));
        Due.raises("table 1", Due.IAE, () -> x.column(1, 0, false, -1));
        Due.raises("type -1", Due.IAE, () -> x.column(0, -1, false, -1));
        Due.raises("type 4", Due.IAE, () -> x.column(0, 4, false, -1));
        Due.raises("parent -2", Due.IAE, () -> x.column(0, 0, false, -2));
        Due.raises("parent 1", Due.IAE, () -> x.column(0, 0, false, 1));
        Due.is("none of them was made", 0, () -> x.column(0, 0, false, -1));
    }

    private static void parents() {
        FixtureTables x = new FixtureTables();
        x.table();
        x.table();
        Due.raises("a parent without columns", Due.IAE, () -> x.column(0, 0, false, 1));
        Due.is("the first column refers to its own table", 0, () -> x.column(0, 2, false, 0));
        Due.is("its own table has this type", 1, () -> x.column(0, 2, false, 0));
        Due.raises("its own table has another type", Due.IAE, () -> x.column(0, 0, false, 0));
        Due.raises("a parent of another type", Due.IAE, () -> x.column(1, 1, false, 0));
        Due.is("a parent of this type", 0, () -> x.column(1, 2, false, 0));
        Due.raises("integers are no decimals", Due.IAE, () -> x.column(1, 1, false, 1));
    }

    private static void columnsAreRefused() {
        FixtureTables x = new FixtureTables();
        x.table();
        x.table();
        x.column(0, 0, false, -1);
        x.begin();
        Due.raises("a column in a transaction", Due.ISE, () -> x.column(0, 0, false, -1));
        Due.raises("another table's column in a transaction", Due.ISE, () -> x.column(1, 0, false, -1));
        x.commit();
        Due.applied(x, "0(0):7;", 0, 1);
        Due.raises("a column of a table with rows", Due.ISE, () -> x.column(0, 0, false, -1));
        Due.is("a column of the table without rows", 0, () -> x.column(1, 0, false, 0));
        Due.applied(x, "0(0):7;", 3, 1);
        Due.is("a column when the rows are gone", 1, () -> x.column(0, 0, false, -1));
    }

    private static void argumentsComeFirst() {
        FixtureTables x = new FixtureTables();
        x.table();
        x.begin();
        Due.raises("no such type, in a transaction", Due.IAE, () -> x.column(0, 4, false, -1));
        Due.raises("no such table, in a transaction", Due.IAE, () -> x.column(1, 0, false, -1));
        Due.raises("no such parent, in a transaction", Due.IAE, () -> x.column(0, 0, false, 1));
        Due.raises("a right one, in a transaction", Due.ISE, () -> x.column(0, 0, false, -1));
    }

    private static void columnForgetsDataset() {
        FixtureTables x = new FixtureTables();
        x.table();
        x.table();
        x.column(0, 0, false, -1);
        Due.dataset(x, "0(0):1;", 1);
        Due.is("compare", 1, () -> x.compare(0, 0));
        Due.raises("a column refused", Due.IAE, () -> x.column(0, 9, false, -1));
        Due.is("a column refused leaves the dataset", 1, () -> x.compare(0, 0));
        x.table();
        Due.is("a table leaves the dataset", 1, () -> x.compare(0, 0));
        Due.is("a table leaves the differences", 0, () -> x.difference(0, 0));
        x.column(1, 0, false, -1);
        Due.raises("a column takes the dataset: compare", Due.ISE, () -> x.compare(0, 0));
        Due.raises("a column takes the dataset: apply", Due.ISE, () -> x.apply(0));
        Due.failure(x, "without a dataset", 0, -1, -1, -1);
        Due.raises("a column takes the differences", Due.IOOBE, () -> x.difference(0, 0));
        Due.is("the text is left", 1, () -> x.read());
    }

    private static void rows() {
        FixtureTables x = new FixtureTables();
        x.table();
        x.column(0, 0, false, -1);
        Due.applied(x, "0(0):7:8:9;", 0, 3);
        Due.is("rows(0)", 3, () -> x.rows(0));
        Due.raises("rows(-1)", Due.IOOBE, () -> x.rows(-1));
        Due.raises("rows(1)", Due.IOOBE, () -> x.rows(1));
    }
}
