/** The edges of promises 1 (a new object), 2 (table), 3 (column) and 11 (rows); each test quotes its sentence. */
public final class TablesEdgesTest {
    public static void main(String[] args) {
        noTables();
        noDataset();
        nothingElse();
        objectsForThemselves();
        fiveTables();
        withoutColumns();
        tablesInTransactions();
        tableLeavesTheRest();
        fiveColumns();
        datasetIsGone();
        noSuchTable();
        noSuchType();
        noSuchParent();
        parentWithoutColumns();
        parentOfThisType();
        ownParent();
        tableWithRows();
        rowsThatComeAndGo();
        transactionIsOpen();
        argumentsBeforeState();
        rowsFromNoneToFull();
        rowsOfNoTable();
        Due.end();
    }

    private static FixtureTables tables(int count) {
        FixtureTables x = new FixtureTables();
        for (int i = 0; i < count; i++) {
            x.table();
        }
        return x;
    }

    /** Table 0 with columns of one type. */
    private static FixtureTables columns(int type, int count) {
        FixtureTables x = tables(1);
        for (int i = 0; i < count; i++) {
            x.column(0, type, false, -1);
        }
        return x;
    }

    /** "No tables" */
    private static void noTables() {
        FixtureTables x = new FixtureTables();
        Due.raises("rows(0)", Due.IOOBE, () -> x.rows(0));
        Due.raises("value(0, 0, 0)", Due.IOOBE, () -> x.value(0, 0, 0));
        Due.raises("isNull(0, 0, 0)", Due.IOOBE, () -> x.isNull(0, 0, 0) ? 1 : 0);
        Due.raises("write(0)", Due.IOOBE, () -> x.write(0));
        Due.raises("order(0)", Due.IAE, () -> x.order(0));
        Due.raises("column of table 0", Due.IAE, () -> x.column(0, 0, false, -1));
        Due.raises("column with parent 0", Due.IAE, () -> x.column(0, 0, false, 0));
        Due.noDataset(x, "0", 0);
        Due.is("the first table", 0, () -> x.table());
    }

    /** "no dataset." */
    private static void noDataset() {
        for (int operation = 0; operation < 6; operation++) {
            Twins.notTried("apply without a dataset", Due.ISE, FixtureTables::new, operation);
        }
        Twins.refused("compare without a dataset", Due.ISE, FixtureTables::new, x -> x.compare(0, 0));
        Twins.refused("difference without a dataset", Due.IOOBE, FixtureTables::new, x -> x.difference(0, 0));
        FixtureTables x = new FixtureTables();
        Due.is("no characters", 0, () -> x.read());
        Due.is("a dataset without sections", 0, () -> x.apply(0));
    }

    /** What the other promises say of an object that was asked nothing yet. */
    private static void nothingElse() {
        FixtureTables x = new FixtureTables();
        Due.is("fault", -1, () -> x.fault());
        Due.failure(x, "of a new object", 0, -1, -1, -1);
        Due.raises("written(0)", Due.IOOBE, () -> x.written(0));
        Due.raises("commit", Due.ISE, () -> x.commit());
        Due.raises("rollback", Due.ISE, () -> x.rollback());
        Due.is("begin", 1, () -> x.begin());
    }

    private static void objectsForThemselves() {
        FixtureTables x = Twins.rich(2);
        FixtureTables y = new FixtureTables();
        Due.raises("another object's table", Due.IOOBE, () -> y.rows(0));
        Due.raises("another object's dataset", Due.ISE, () -> y.compare(0, 0));
        Due.raises("another object's transaction", Due.ISE, () -> y.commit());
        Due.is("another object's text", 0, () -> y.read());
        Due.is("the first one's rows", 2, () -> x.rows(0));
        Due.is("the first one's transactions", 1, () -> x.commit());
    }

    /** "TABLES 0, 1, .. (at most 5)"; "IllegalStateException if there are 5." */
    private static void fiveTables() {
        FixtureTables x = new FixtureTables();
        for (int i = 0; i < 5; i++) {
            int number = i;
            Due.raises("rows before the table", Due.IOOBE, () -> x.rows(number));
            Due.is("table", number, () -> x.table());
            Due.is("rows behind it", 0, () -> x.rows(number));
            Due.is("order behind it", number, () -> x.order(number));
        }
        Due.raises("a sixth table", Due.ISE, () -> x.table());
        Due.raises("its rows", Due.IOOBE, () -> x.rows(5));
        Due.raises("its place", Due.IAE, () -> x.order(5));
        Due.raises("its column", Due.IAE, () -> x.column(5, 0, false, -1));
        Due.is("the fifth one's column", 0, () -> x.column(4, 0, false, -1));
        Twins.refused("a sixth table", Due.ISE, () -> tables(5), y -> y.table());
        Twins.refused("a sixth table", Due.ISE, TablesEdgesTest::richOfFive, y -> y.table());
    }

    private static FixtureTables richOfFive() {
        FixtureTables x = Twins.rich(1);
        x.table();
        x.table();
        return x;
    }

    /** "A new table without columns: its number."; "A table without columns has no sections." */
    private static void withoutColumns() {
        FixtureTables x = columns(0, 1);
        Due.is("table", 1, () -> x.table());
        Due.raises("write", Due.ISE, () -> x.write(1));
        Due.noDataset(x, "1", 0);
        Due.noDataset(x, "1();", 0);
        Due.raises("as a parent", Due.IAE, () -> x.column(0, 0, false, 1));
        Due.is("its first column", 0, () -> x.column(1, 0, false, -1));
        Due.noDataset(x, "1();", 2);
        Due.dataset(x, "1(0);", 0);
        Due.is("as a parent", 1, () -> x.column(0, 0, false, 1));
    }

    /** "(Also in a transaction; rollback leaves tables.)" */
    private static void tablesInTransactions() {
        FixtureTables x = tables(1);
        for (int i = 1; i < 4; i++) {
            int number = i;
            Due.is("begin", number, () -> x.begin());
            Due.is("table in " + i + " transactions", number, () -> x.table());
        }
        Due.is("the fifth table", 4, () -> x.table());
        Due.raises("a sixth table", Due.ISE, () -> x.table());
        for (int i = 2; i >= 0; i--) {
            int left = i;
            Due.is("rollback", left, () -> x.rollback());
            Due.is("rollback leaves the last table", 0, () -> x.rows(4));
            Due.is("and its place", 4, () -> x.order(4));
        }
        Due.raises("a sixth table", Due.ISE, () -> x.table());
        Due.is("a column of one made in a transaction", 0, () -> x.column(4, 0, false, -1));
        Due.applied(x, "4(0):1;", 0, 1);
    }

    private static void tableLeavesTheRest() {
        FixtureTables x = Twins.rich(1);
        Due.is("table", 3, () -> x.table());
        Due.is("fault", 21, () -> x.fault());
        Due.failure(x, "behind table()", 2, 0, 1, -1);
        Due.difference(x, 4, 1, 0, 0);
        Due.is("the dataset", 5, () -> x.compare(0, 0));
        Due.same("what was written", "0(01):1,a:2,b;", Due.writtenText(x));
        Due.is("the transaction", 0, () -> x.rollback());
    }

    /**
     * "A new column of a table: its number."; "COLUMNS 0, 1, .. (at most 5)";
     * "IllegalStateException if it has 5 columns"
     */
    private static void fiveColumns() {
        FixtureTables x = tables(2);
        for (int i = 0; i < 5; i++) {
            int number = i;
            Due.noDataset(x, "0(" + i + ");", i == 0 ? 0 : 2);
            Due.is("column", number, () -> x.column(0, 3, false, -1));
            Due.dataset(x, "0(" + i + ");", 0);
        }
        Due.raises("a sixth column", Due.ISE, () -> x.column(0, 3, false, -1));
        Due.noDataset(x, "0(5);", 2);
        Due.table(x, 0, "0(01234);");
        Due.is("another table's first column", 0, () -> x.column(1, 3, false, -1));
        for (int type = 0; type < 4; type++) {
            int number = type;
            Twins.refused("a sixth column", Due.ISE, () -> columnsAndMore(0), y -> y.column(0, number, true, -1));
        }
        Twins.refused("a sixth column, of its own", Due.ISE, () -> columnsAndMore(1), y -> y.column(0, 1, false, 0));
    }

    /** Five columns, a dataset and a comparison. */
    private static FixtureTables columnsAndMore(int type) {
        FixtureTables x = columns(type, 5);
        Due.text(x, "0(04):1,2:1,3;");
        x.read();
        x.compare(0, 0);
        x.write(0);
        return x;
    }

    /** "The dataset that was read is gone." "or no compare() since a dataset was read, or a column made" */
    private static void datasetIsGone() {
        for (int table = 0; table < 2; table++) {
            int number = table;
            FixtureTables x = columns(0, 1);
            x.table();
            Due.dataset(x, "0(0):1;", 1);
            Due.is("compare", 1, () -> x.compare(0, 0));
            Due.difference(x, 0, 0, -1, -1);
            Due.is("column", table == 0 ? 1 : 0, () -> x.column(number, 0, false, -1));
            Due.raises("compare", Due.ISE, () -> x.compare(0, 0));
            Due.raises("difference", Due.IOOBE, () -> x.difference(0, 0));
            for (int operation = 0; operation < 6; operation++) {
                int one = operation;
                Due.raises("apply(" + operation + ")", Due.ISE, () -> x.apply(one));
                Due.failure(x, "without a dataset", 0, -1, -1, -1);
            }
            Due.is("nothing was done", 0, () -> x.rows(0));
            Due.is("fault", -1, () -> x.fault());
            Due.is("the text is there", 1, () -> x.read());
            Due.is("and the dataset again", 1, () -> x.apply(0));
        }
    }

    /** "IllegalArgumentException if there is no such table" */
    private static void noSuchTable() {
        for (int table : Due.outside(3)) {
            Twins.refused("column of table " + table, Due.IAE, () -> Twins.rich(0), x -> x.column(table, 0, false, -1));
        }
        FixtureTables x = tables(5);
        Due.is("the first table", 0, () -> x.column(0, 0, false, -1));
        Due.is("the last table", 0, () -> x.column(4, 0, false, -1));
    }

    /** "or type": 0 INTEGER .. 3 BOOLEAN */
    private static void noSuchType() {
        for (int type : Due.outside(4)) {
            Twins.refused("type " + type, Due.IAE, () -> Twins.rich(0), x -> x.column(2, type, false, -1));
        }
        String[] cells = {"-9", "0.5", "'x'", "t"};
        for (int type = 0; type < 4; type++) {
            FixtureTables x = columns(type, 1);
            for (int other = 0; other < 4; other++) {
                boolean taken = other == type || type == 1 && other == 0 || type == 2 && other == 3;
                Due.text(x, "0(0):" + cells[other] + ";");
                Due.raises("type " + type + " reads " + cells[other], taken ? 0 : Due.IAE, () -> x.read());
            }
        }
    }

    /** "or the parent is neither -1 nor a table" */
    private static void noSuchParent() {
        for (int parent : new int[] {-2, 3, 4, 5, 256, 65535, Integer.MIN_VALUE, Integer.MAX_VALUE}) {
            Twins.refused("parent " + parent, Due.IAE, () -> Twins.rich(0), x -> x.column(2, 0, false, parent));
        }
        FixtureTables x = columns(0, 1);
        x.table();
        Due.is("parent -1", 0, () -> x.column(1, 0, false, -1));
        Due.is("parent 0", 1, () -> x.column(1, 0, false, 0));
        Due.is("the last table as parent", 1, () -> x.column(0, 0, false, 1));
    }

    /** "nor a table whose column 0 has this type" */
    private static void parentWithoutColumns() {
        for (int type = 0; type < 4; type++) {
            int number = type;
            Twins.refused("a parent without columns", Due.IAE, () -> columnsAndTables(number),
                    x -> x.column(0, number, false, 1));
            Twins.refused("a parent without columns, of a first column", Due.IAE, () -> columnsAndTables(number),
                    x -> x.column(1, number, false, 2));
        }
    }

    private static FixtureTables columnsAndTables(int type) {
        FixtureTables x = columns(type, 1);
        x.table();
        x.table();
        Due.text(x, "0(0):~;");
        x.read();
        x.compare(0, 0);
        return x;
    }

    /** "nor a table whose column 0 has this type": each type beside each one; column 1 does not count. */
    private static void parentOfThisType() {
        for (int key = 0; key < 4; key++) {
            for (int type = 0; type < 4; type++) {
                int parentType = key;
                int number = type;
                FixtureTables x = columns(parentType, 1);
                x.column(0, number, false, -1);
                x.table();
                if (key == type) {
                    Due.is("a parent of this type", 0, () -> x.column(1, number, false, 0));
                } else {
                    Due.raises("a parent of another type", Due.IAE, () -> x.column(1, number, false, 0));
                    Due.is("it was not made", 0, () -> x.column(1, number, false, -1));
                }
            }
        }
    }

    /** "(a table may be its own parent if it has one, or with its first column)" */
    private static void ownParent() {
        for (int key = 0; key < 4; key++) {
            int type = key;
            FixtureTables x = tables(1);
            Due.is("its first column", 0, () -> x.column(0, type, false, 0));
            Due.is("its second column", 1, () -> x.column(0, type, false, 0));
            for (int other = 0; other < 4; other++) {
                int number = other;
                if (other != key) {
                    Due.raises("another type", Due.IAE, () -> x.column(0, number, false, 0));
                }
            }
            Due.is("its third column", 2, () -> x.column(0, type, false, 0));
            Due.is("no circle", 0, () -> x.order(0));
        }
    }

    /** "or rows" */
    private static void tableWithRows() {
        Twins.refused("a column of a table with rows", Due.ISE, () -> Twins.rich(0), x -> x.column(0, 0, false, -1));
        Twins.refused("a column of a table with a row", Due.ISE, () -> Twins.rich(0), x -> x.column(1, 0, false, -1));
        FixtureTables x = Twins.rich(0);
        Due.is("a column of the table without rows", 0, () -> x.column(2, 0, false, -1));
        Due.is("the others' rows are there", 2, () -> x.rows(0));
        Due.is("the others' rows are there", 1, () -> x.rows(1));
    }

    private static void rowsThatComeAndGo() {
        FixtureTables x = columns(0, 1);
        Due.applied(x, "0(0):1;", 0, 1);
        Due.raises("one row", Due.ISE, () -> x.column(0, 0, false, -1));
        Due.applied(x, "0(0):1;", 3, 1);
        Due.is("none any more", 1, () -> x.column(0, 0, false, -1));
        Due.fails(x, "0(0):1:~;", 0, 1, 0, 1, 0);
        Due.is("none by an operation that failed", 2, () -> x.column(0, 0, false, -1));
        x.begin();
        Due.applied(x, "0(0):1;", 0, 1);
        x.rollback();
        Due.is("none behind rollback", 3, () -> x.column(0, 0, false, -1));
        Due.applied(x, "0(0):1;", 0, 1);
        x.begin();
        Due.applied(x, "0(0);", 4, 1);
        x.rollback();
        Due.raises("again there behind rollback", Due.ISE, () -> x.column(0, 0, false, -1));
        x.begin();
        Due.applied(x, "0(0);", 4, 1);
        x.commit();
        Due.is("none behind commit", 4, () -> x.column(0, 0, false, -1));
    }

    /** "or a transaction is open." */
    private static void transactionIsOpen() {
        for (int open = 1; open < 4; open++) {
            int number = open;
            Twins.refused("a column in " + open + " transactions", Due.ISE, () -> Twins.rich(number),
                    x -> x.column(2, 0, false, -1));
        }
        FixtureTables x = Twins.rich(2);
        x.commit();
        Due.raises("one is still open", Due.ISE, () -> x.column(2, 0, false, -1));
        x.commit();
        Due.is("none is open", 0, () -> x.column(2, 0, false, -1));
        FixtureTables y = Twins.rich(2);
        y.rollback();
        Due.raises("one is still open", Due.ISE, () -> y.column(2, 0, false, -1));
        y.rollback();
        Due.is("none is open", 0, () -> y.column(2, 0, false, -1));
    }

    /** "Of several exceptions that apply the first one listed is thrown." */
    private static void argumentsBeforeState() {
        for (int open = 0; open < 2; open++) {
            int number = open;
            Twins.refused("rows, and no such type", Due.IAE, () -> Twins.rich(number), x -> x.column(0, 4, false, -1));
            Twins.refused("rows, and no such parent", Due.IAE, () -> Twins.rich(number), x -> x.column(0, 0, false, 3));
            Twins.refused("rows, and a parent of another type", Due.IAE, () -> Twins.rich(number),
                    x -> x.column(0, 1, false, 0));
            Twins.refused("no such table", Due.IAE, () -> Twins.rich(number), x -> x.column(3, 0, false, -1));
        }
        Twins.refused("5 columns, and no such type", Due.IAE, () -> columnsAndMore(0), x -> x.column(0, -1, false, -1));
        Twins.refused("5 columns, and no such parent", Due.IAE, () -> columnsAndMore(0), x -> x.column(0, 0, false, 1));
        Twins.refused("5 columns, and a parent of another type", Due.IAE, () -> columnsAndMore(0),
                x -> x.column(0, 2, false, 0));
    }

    /** "How many rows a table has."; "at most 12 ROWS" */
    private static void rowsFromNoneToFull() {
        FixtureTables x = columns(0, 1);
        Due.is("no rows", 0, () -> x.rows(0));
        for (int i = 1; i <= 12; i++) {
            int number = i;
            Due.text(x, "0(0):" + i + ";");
            x.read();
            Due.is("apply", 1, () -> x.apply(0));
            Due.is("rows", number, () -> x.rows(0));
        }
        Due.fails(x, "0(0):13;", 0, 6, 0, 0, -1);
        Due.is("rows of the full table", 12, () -> x.rows(0));
        Due.applied(x, "0(0);", 4, 12);
        Due.is("no rows again", 0, () -> x.rows(0));
    }

    /** "IndexOutOfBoundsException if there is none such." */
    private static void rowsOfNoTable() {
        for (int table : Due.outside(3)) {
            Twins.refused("rows(" + table + ")", Due.IOOBE, () -> Twins.rich(1), x -> x.rows(table));
        }
        Twins.answered("rows(0)", 2, () -> Twins.rich(1), x -> x.rows(0));
        Twins.answered("rows of the last table", 0, () -> Twins.rich(1), x -> x.rows(2));
        for (int table : Due.outside(5)) {
            Twins.refused("rows(" + table + ") of five", Due.IOOBE, () -> tables(5), x -> x.rows(table));
        }
        Due.is("rows(4) of five", 0, () -> tables(5).rows(4));
    }
}
