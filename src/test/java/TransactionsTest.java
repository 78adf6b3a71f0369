/** Promises 14 (begin), 15 (commit) and 16 (rollback), and check 7. */
public final class TransactionsTest {
    private static final String TWELVE = "0(0):1:2:3:4:5:6:7:8:9:10:11:12;";
    private static final String TWENTY = "0(0):1:1:1:1:1:1:1:1:1:1:1:1:1:1:1:1:1:1:1:1;";

    public static void main(String[] args) {
        counting();
        rollbackAll();
        oneInAnother();
        commitThenRollback();
        operationFailsInside();
        whatRollbackLeaves();
        logIsFull();
        logCountsAgain();
        logOfTables();
        logComesLast();
        noLogOutside();
        Due.end();
    }

    private static FixtureTables single() {
        FixtureTables x = new FixtureTables();
        x.table();
        x.column(0, 0, false, -1);
        x.column(0, 0, false, -1);
        return x;
    }

    private static void counting() {
        FixtureTables x = single();
        Due.raises("commit", Due.ISE, () -> x.commit());
        Due.raises("rollback", Due.ISE, () -> x.rollback());
        Due.is("begin", 1, () -> x.begin());
        Due.is("begin", 2, () -> x.begin());
        Due.is("begin", 3, () -> x.begin());
        Due.raises("a fourth", Due.ISE, () -> x.begin());
        Due.is("commit", 2, () -> x.commit());
        Due.is("rollback", 1, () -> x.rollback());
        Due.is("begin", 2, () -> x.begin());
        Due.is("rollback", 1, () -> x.rollback());
        Due.is("commit", 0, () -> x.commit());
        Due.raises("commit", Due.ISE, () -> x.commit());
        Due.raises("rollback", Due.ISE, () -> x.rollback());
    }

    private static void rollbackAll() {
        FixtureTables x = single();
        x.table();
        x.column(1, 0, false, 0);
        Due.applied(x, "0(01):1,1:2,2:3,3;1(0):2;", 0, 4);
        x.begin();
        Due.applied(x, "0(01):1,9;", 1, 1);
        Due.applied(x, "0(01):3,9;", 3, 1);
        Due.applied(x, "0(01):0,5;1(0):0;", 0, 2);
        Due.table(x, 0, "0(01):0,5:1,9:2,2;");
        Due.is("rollback", 0, () -> x.rollback());
        Due.table(x, 0, "0(01):1,1:2,2:3,3;");
        Due.table(x, 1, "1(0):2;");
        x.begin();
        Due.applied(x, "0(0);1(0);", 4, 4);
        Due.is("rows gone", 0, () -> x.rows(0));
        Due.is("rollback", 0, () -> x.rollback());
        Due.table(x, 0, "0(01):1,1:2,2:3,3;");
    }

    private static void oneInAnother() {
        FixtureTables x = single();
        x.begin();
        Due.applied(x, "0(0):1;", 0, 1);
        x.begin();
        Due.applied(x, "0(0):2;", 0, 1);
        x.begin();
        Due.applied(x, "0(0):3;", 0, 1);
        Due.table(x, 0, "0(01):1,~:2,~:3,~;");
        x.rollback();
        Due.table(x, 0, "0(01):1,~:2,~;");
        x.rollback();
        Due.table(x, 0, "0(01):1,~;");
        x.commit();
        Due.table(x, 0, "0(01):1,~;");
    }

    private static void commitThenRollback() {
        FixtureTables x = single();
        Due.applied(x, "0(0):1;", 0, 1);
        x.begin();
        Due.applied(x, "0(0):2;", 0, 1);
        x.begin();
        Due.applied(x, "0(0):3;", 0, 1);
        x.commit();
        x.begin();
        Due.applied(x, "0(0):4;", 0, 1);
        x.rollback();
        Due.table(x, 0, "0(01):1,~:2,~:3,~;");
        x.rollback();
        Due.table(x, 0, "0(01):1,~;");
    }

    private static void operationFailsInside() {
        FixtureTables x = single();
        x.begin();
        Due.applied(x, "0(0):1;", 0, 1);
        Due.fails(x, "0(0):2:1;", 0, 2, 0, 1, -1);
        Due.table(x, 0, "0(01):1,~;");
        Due.is("it is open still", 2, () -> x.begin());
        x.rollback();
        Due.failure(x, "rollback leaves it", 2, 0, 1, -1);
        x.rollback();
        Due.is("rows", 0, () -> x.rows(0));
    }

    private static void whatRollbackLeaves() {
        FixtureTables x = single();
        x.begin();
        Due.dataset(x, "0(0):1;", 1);
        Due.is("compare", 1, () -> x.compare(0, 0));
        Due.is("write", 6, () -> x.write(0));
        Due.is("table", 1, () -> x.table());
        x.rollback();
        Due.difference(x, 0, 0, -1, -1);
        Due.is("the dataset", 1, () -> x.apply(0));
        Due.is("what was written", '0', () -> x.written(0));
        Due.is("the table", 0, () -> x.rows(1));
        Due.is("the text", 1, () -> x.read());
    }

    private static void logIsFull() {
        FixtureTables x = single();
        Due.applied(x, "0(0):1;", 0, 1);
        x.begin();
        Due.text(x, TWENTY);
        x.read();
        for (int i = 0; i < 10; i++) {
            Due.is("20 changes", 20, () -> x.apply(1));
        }
        Due.raises("the 201st change", Due.ISE, () -> x.apply(1));
        Due.failure(x, "the 201st change", 7, 0, 0, -1);
        Due.fails(x, "0(0):1;", 2, 7, 0, 0, -1);
        Due.fails(x, "0(0):1;", 3, 7, 0, 0, -1);
        Due.fails(x, "0(0):2;", 0, 7, 0, 0, -1);
        Due.fails(x, "0(0):2;", 4, 7, 0, -1, -1);
        Due.fails(x, "0(0):2;", 5, 7, 0, -1, -1);
        Due.applied(x, "0(0):2;", 3, 0);
        Due.is("begin in the full one", 2, () -> x.begin());
        Due.fails(x, "0(0):1;", 1, 7, 0, 0, -1);
        x.commit();
        Due.fails(x, "0(0):1;", 1, 7, 0, 0, -1);
        x.commit();
        Due.applied(x, "0(0):1;", 1, 1);
        x.begin();
        Due.applied(x, TWENTY, 1, 20);
    }

    private static void logCountsAgain() {
        FixtureTables x = single();
        Due.applied(x, "0(0):1;", 0, 1);
        x.begin();
        Due.text(x, TWENTY);
        x.read();
        for (int i = 0; i < 9; i++) {
            Due.is("20 changes", 20, () -> x.apply(1));
        }
        x.begin();
        Due.is("20 changes", 20, () -> x.apply(1));
        Due.raises("more", Due.ISE, () -> x.apply(1));
        x.rollback();
        Due.applied(x, "0(0):1:1;", 1, 2);
        Due.text(x, TWENTY);
        x.read();
        Due.raises("202 changes", Due.ISE, () -> x.apply(1));
        Due.failure(x, "202 changes", 7, 0, 18, -1);
        x.begin();
        Due.applied(x, "0(0):1:1:1:1:1:1:1:1:1:1:1:1:1:1:1:1:1:1;", 1, 18);
        x.commit();
        Due.fails(x, "0(0):1;", 1, 7, 0, 0, -1);
        x.rollback();
        x.begin();
        Due.applied(x, "0(0):1;", 1, 1);
    }

    private static void logOfTables() {
        FixtureTables x = single();
        x.begin();
        Due.text(x, TWELVE);
        x.read();
        Due.is("12 changes", 12, () -> x.apply(5));
        for (int i = 0; i < 7; i++) {
            Due.is("24 changes", 24, () -> x.apply(5));
        }
        Due.raises("204 changes", Due.ISE, () -> x.apply(5));
        Due.failure(x, "the 9th row made anew is the 201st change", 7, 0, 8, -1);
        Due.is("rows", 12, () -> x.rows(0));
        Due.is("12 changes", 12, () -> x.apply(2));
        Due.raises("204 changes", Due.ISE, () -> x.apply(4));
        Due.failure(x, "all rows of a table at once", 7, 0, -1, -1);
        Due.applied(x, "0(0):1:2:3:4:5:6:7:8;", 3, 8);
        Due.fails(x, "0(0):9;", 4, 7, 0, -1, -1);
        x.rollback();
        Due.is("rows", 0, () -> x.rows(0));
        x.begin();
        Due.applied(x, "0(0);", 4, 0);
    }

    private static void logComesLast() {
        FixtureTables x = single();
        x.table();
        x.column(1, 0, false, 0);
        x.column(1, 3, true, -1);
        Due.applied(x, TWELVE, 0, 12);
        Due.applied(x, "1(01):1,t;", 0, 1);
        x.begin();
        Due.text(x, TWENTY);
        x.read();
        for (int i = 0; i < 10; i++) {
            Due.is("20 changes", 20, () -> x.apply(1));
        }
        Due.fails(x, "0(0):~;", 0, 1, 0, 0, 0);
        Due.fails(x, "0(0):1;", 0, 2, 0, 0, -1);
        Due.fails(x, "0(0):13;", 0, 6, 0, 0, -1);
        Due.fails(x, "0(0):13;", 1, 5, 0, 0, -1);
        Due.fails(x, "0(0):1;", 3, 4, 0, 0, -1);
        Due.fails(x, "0(0):1;", 4, 4, 0, -1, -1);
        Due.fails(x, "1(0):2;", 0, 1, 1, 0, 1);
        Due.fails(x, "1(01):13,t;", 0, 3, 1, 0, 0);
        Due.fails(x, "1(01):2,t;", 0, 7, 1, 0, -1);
    }

    private static void noLogOutside() {
        FixtureTables x = single();
        Due.applied(x, "0(0):1;", 0, 1);
        Due.text(x, TWENTY);
        x.read();
        for (int i = 0; i < 15; i++) {
            Due.is("20 changes", 20, () -> x.apply(1));
        }
        x.begin();
        for (int i = 0; i < 10; i++) {
            Due.is("20 changes", 20, () -> x.apply(1));
        }
        Due.raises("more", Due.ISE, () -> x.apply(1));
        x.commit();
        Due.is("20 changes", 20, () -> x.apply(1));
    }
}
