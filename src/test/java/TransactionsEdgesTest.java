/** The edges of promises 14 (begin), 15 (commit) and 16 (rollback), and of check 7; each test quotes its sentence. */
public final class TransactionsEdgesTest {
    private static final int INSERT = 0;
    private static final int UPDATE = 1;
    private static final int REFRESH = 2;
    private static final int DELETE = 3;
    private static final int DELETE_ALL = 4;
    private static final int CLEAN_INSERT = 5;

    public static void main(String[] args) {
        threeAreOpen();
        noneIsOpen();
        howManyAreOpen();
        commitOfTheInnermost();
        rollbackOfTheInnermost();
        asTheyWereAtItsBeginning();
        changesAreTheOuterOnes();
        tablesAndTheRestStay();
        twoHundredChanges();
        oneByOne();
        madeChangedGone();
        eachOperation();
        wholeTables();
        tablesOneAfterAnother();
        cleanInsert();
        nothingInAFullOne();
        outsideOfTransactions();
        sinceTheOutermostOnesBeginning();
        rolledBack();
        operationsThatFailed();
        innerOnesCommitted();
        endOfTheOutermost();
        Due.end();
    }

    /** Tables 0 and 1 of a key and an integer; row 1 in table 0. */
    private static FixtureTables tables() {
        FixtureTables x = new FixtureTables();
        for (int table = 0; table < 2; table++) {
            x.table();
            x.column(table, 0, false, -1);
            x.column(table, 0, false, -1);
        }
        Due.read(x, "0(01):1,5;");
        x.apply(INSERT);
        return x;
    }

    private static String ones(int count) {
        return "0(0)" + ":1".repeat(count) + ";";
    }

    /** So many changes more, all of them of row 1. */
    private static void change(FixtureTables x, int count) {
        if (count >= 20) {
            Due.read(x, ones(20));
        }
        for (int i = 0; i < count / 20; i++) {
            Due.is("20 changes", 20, () -> x.apply(UPDATE));
        }
        if (count % 20 > 0) {
            Due.applied(x, ones(count % 20), UPDATE, count % 20);
        }
    }

    /** A transaction in which so many changes were made. */
    private static FixtureTables changed(int count) {
        FixtureTables x = tables();
        x.begin();
        change(x, count);
        return x;
    }

    /** Just so many changes have room. */
    private static void roomFor(FixtureTables x, int count) {
        change(x, count);
        Due.fails(x, "0(0):1;", UPDATE, 7, 0, 0, -1);
    }

    /** "IllegalStateException if there are 3."; "at most 3 in one another" */
    private static void threeAreOpen() {
        Twins.refused("a fourth transaction", Due.ISE, () -> Twins.rich(3), x -> x.begin());
        Twins.refused("a fourth transaction", Due.ISE, TransactionsEdgesTest::threeWithChanges, x -> x.begin());
        FixtureTables x = new FixtureTables();
        for (int open = 1; open <= 3; open++) {
            int number = open;
            Due.is("begin", number, () -> x.begin());
        }
        Due.raises("begin", Due.ISE, () -> x.begin());
        Due.raises("begin again", Due.ISE, () -> x.begin());
        Due.is("commit", 2, () -> x.commit());
        Due.is("begin", 3, () -> x.begin());
        Due.raises("begin", Due.ISE, () -> x.begin());
        Due.is("rollback", 2, () -> x.rollback());
        Due.is("begin", 3, () -> x.begin());
    }

    private static FixtureTables threeWithChanges() {
        FixtureTables x = tables();
        for (int i = 2; i < 5; i++) {
            x.begin();
            Due.read(x, "0(0):" + i + ";");
            x.apply(INSERT);
        }
        return x;
    }

    /** "IllegalStateException if there is none.", of commit and of rollback */
    private static void noneIsOpen() {
        Twins.refused("commit of none", Due.ISE, FixtureTables::new, x -> x.commit());
        Twins.refused("rollback of none", Due.ISE, FixtureTables::new, x -> x.rollback());
        Twins.refused("commit of none", Due.ISE, () -> Twins.rich(0), x -> x.commit());
        Twins.refused("rollback of none", Due.ISE, () -> Twins.rich(0), x -> x.rollback());
        FixtureTables x = new FixtureTables();
        x.begin();
        Due.is("commit of one", 0, () -> x.commit());
        Due.raises("commit of none", Due.ISE, () -> x.commit());
        Due.raises("rollback of none", Due.ISE, () -> x.rollback());
        x.begin();
        Due.is("rollback of one", 0, () -> x.rollback());
        Due.raises("commit of none", Due.ISE, () -> x.commit());
        Due.raises("rollback of none", Due.ISE, () -> x.rollback());
        Due.is("begin", 1, () -> x.begin());
    }

    /** "how many are open." */
    private static void howManyAreOpen() {
        for (int way = 0; way < 8; way++) {
            FixtureTables x = new FixtureTables();
            for (int open = 1; open <= 3; open++) {
                int number = open;
                Due.is("begin", number, () -> x.begin());
            }
            for (int open = 2; open >= 0; open--) {
                boolean commit = (way >> open & 1) == 0;
                Due.is(commit ? "commit" : "rollback", open, () -> commit ? x.commit() : x.rollback());
            }
        }
    }

    /** "COMMIT of the innermost one (its changes are the outer one's then)" */
    private static void commitOfTheInnermost() {
        FixtureTables x = threeWithChanges();
        x.commit();
        Due.is("rows", 4, () -> x.rows(0));
        x.rollback();
        Due.table(x, 0, "0(01):1,5:2,~;");
        x.commit();
        Due.table(x, 0, "0(01):1,5:2,~;");
        FixtureTables y = threeWithChanges();
        y.commit();
        y.commit();
        y.commit();
        Due.table(y, 0, "0(01):1,5:2,~:3,~:4,~;");
        FixtureTables z = threeWithChanges();
        z.commit();
        z.commit();
        z.rollback();
        Due.table(z, 0, "0(01):1,5;");
    }

    /** "ROLLBACK of the innermost one" */
    private static void rollbackOfTheInnermost() {
        FixtureTables x = threeWithChanges();
        String[] want = {"0(01):1,5;", "0(01):1,5:2,~;", "0(01):1,5:2,~:3,~;"};
        for (int open = 2; open >= 0; open--) {
            int number = open;
            Due.is("rollback", number, () -> x.rollback());
            Due.table(x, 0, want[open]);
        }
        FixtureTables y = threeWithChanges();
        y.rollback();
        Due.is("begin again", 3, () -> y.begin());
        Due.applied(y, "0(0):9;", INSERT, 1);
        y.rollback();
        Due.table(y, 0, "0(01):1,5:2,~:3,~;");
    }

    /** "all rows are as they were at its beginning." */
    private static void asTheyWereAtItsBeginning() {
        String full = "0(01):1,5:2,~:3,3:4,~:5,~:6,~:7,~:8,~:9,~:10,~:11,~:12,12;";
        FixtureTables x = tables();
        Due.applied(x, "0(0):2:4:5:6:7:8:9:10:11;0(01):3,3:12,12;1(0):7;", INSERT, 12);
        String[] texts = {"0(01):1,~:2,2:3,~;", "0(0):1:2:3;1(0):7;", "0(0);1(0);", "0(0):99;1(0):1:2:3;"};
        int[] operations = {UPDATE, DELETE, DELETE_ALL, CLEAN_INSERT};
        int[] changes = {3, 4, 13, 17};
        for (int i = 0; i < 4; i++) {
            x.begin();
            Due.applied(x, texts[i], operations[i], changes[i]);
            Due.is("rollback", 0, () -> x.rollback());
            Due.is("rows(0)", 12, () -> x.rows(0));
            Due.is("rows(1)", 1, () -> x.rows(1));
        }
        Due.table(x, 0, full);
    }

    private static void changesAreTheOuterOnes() {
        FixtureTables x = tables();
        x.begin();
        x.begin();
        Due.applied(x, "0(01):1,6:2,7;", REFRESH, 2);
        x.commit();
        x.begin();
        Due.applied(x, "0(0);", DELETE_ALL, 2);
        x.commit();
        Due.is("rows", 0, () -> x.rows(0));
        x.rollback();
        Due.table(x, 0, "0(01):1,5;");
    }

    /** Only rows are as they were; the rest is as the latest calls made it. */
    private static void tablesAndTheRestStay() {
        FixtureTables x = Twins.rich(0);
        x.begin();
        Due.is("table", 3, () -> x.table());
        Due.fails(x, "1(01):7,9:8,9;", INSERT, 3, 1, 0, 1);
        Due.is("compare", 3, () -> x.compare(0, 0));
        Due.is("write", 10, () -> x.write(1));
        x.type('?');
        Due.raises("read", Due.IAE, () -> x.read());
        for (int end = 0; end < 2; end++) {
            Due.is("the end", 0, () -> x.rollback());
            Due.is("the table", 0, () -> x.rows(3));
            Due.failure(x, "behind the end", 3, 1, 0, 1);
            Due.difference(x, 0, 0, -1, -1);
            Due.difference(x, 2, 0, 0, 1);
            Due.is("fault", 14, () -> x.fault());
            Due.is("what was written", '1', () -> x.written(0));
            Due.is("the dataset", 3, () -> x.compare(0, 0));
            x.begin();
        }
    }

    /** "7 LOG: as below."; "at most 200 CHANGES"; "check 7 fails if there would be more." */
    private static void twoHundredChanges() {
        FixtureTables x = changed(199);
        Due.applied(x, "0(01):1,7;", UPDATE, 1);
        Due.fails(x, "0(01):1,8;", UPDATE, 7, 0, 0, -1);
        Due.is("the 200th was made, the 201st was not", 7, () -> x.value(0, 0, 1));
        Due.is("the transaction is open", 2, () -> x.begin());
        Twins.failed("the 201st change", () -> Due.read(changed(200), "0(01):1,8;"), UPDATE, 7, 0, 0, -1);
        Twins.failed("the 201st change", () -> Due.read(changed(199), "0(01):1,8:1,9;"), UPDATE, 7, 0, 1, -1);
        Twins.failed("the 201st change", () -> Due.read(changed(181), ones(20)), UPDATE, 7, 0, 19, -1);
        Due.is("200 changes", 20, () -> Due.read(changed(180), ones(20)).apply(UPDATE));
    }

    /** "each one for itself": of one row, as of many */
    private static void oneByOne() {
        FixtureTables x = tables();
        x.begin();
        Due.read(x, "0(0):1;");
        for (int i = 0; i < 200; i++) {
            Due.is("one change", 1, () -> x.apply(UPDATE));
        }
        Due.raises("one more", Due.ISE, () -> x.apply(UPDATE));
        Due.failure(x, "one more", 7, 0, 0, -1);
        Due.is("rollback", 0, () -> x.rollback());
    }

    /** "(rows made, changed (also to what they were), gone: each one for itself)" */
    private static void madeChangedGone() {
        FixtureTables x = tables();
        x.begin();
        Due.applied(x, "0(0):2;", INSERT, 1);
        Due.applied(x, "0(0):2;", UPDATE, 1);
        Due.applied(x, "0(01):2,9;", REFRESH, 1);
        Due.applied(x, "0(0):2:3;", DELETE, 1);
        Due.applied(x, "0(01):1,5;", UPDATE, 1);
        roomFor(x, 195);
    }

    /** The 200th change and the 201st, by each operation. */
    private static void eachOperation() {
        String[] texts = {"0(0):2;", "0(0):1;", "0(0):1;", "0(0):1;", "0(0):1;"};
        int[] rows = {0, 0, 0, 0, -1};
        for (int operation = INSERT; operation <= DELETE_ALL; operation++) {
            int number = operation;
            String text = texts[operation];
            Due.is("the 200th change", 1, () -> Due.read(changed(199), text).apply(number));
            Twins.failed("the 201st change", () -> Due.read(changed(200), text), operation, 7, 0, rows[operation], -1);
        }
        Due.is("REFRESH of a new row", 1, () -> Due.read(changed(199), "0(0):2;").apply(REFRESH));
        Twins.failed("REFRESH of a new row", () -> Due.read(changed(200), "0(0):2;"), REFRESH, 7, 0, 0, -1);
    }

    /** "(of 4 each table) is CHECKED": a table's rows go all together. */
    private static void wholeTables() {
        Due.is("the last row is the 200th", 12, () -> Due.read(fullAndChanged(188), "0(0);").apply(DELETE_ALL));
        Twins.failed("12 rows, the last one is the 201st", () -> Due.read(fullAndChanged(189), "0(0);"), DELETE_ALL,
                7, 0, -1, -1);
        Twins.failed("12 rows, the first one is the 201st", () -> Due.read(fullAndChanged(200), "0(0);"), DELETE_ALL,
                7, 0, -1, -1);
    }

    private static FixtureTables fullAndChanged(int count) {
        FixtureTables x = tables();
        Due.read(x, "0(0):2:3:4:5:6:7:8:9:10:11:12;");
        x.apply(INSERT);
        x.begin();
        change(x, count);
        return x;
    }

    /** Table 1 is cleared first: it fits, and table 0 does not. */
    private static void tablesOneAfterAnother() {
        Due.is("both fit", 3, () -> Due.read(twoAndOne(197), "0(0);1(0);").apply(DELETE_ALL));
        Twins.failed("the second one does not", () -> Due.read(twoAndOne(198), "0(0);1(0);"), DELETE_ALL, 7, 0, -1, -1);
        Twins.failed("the first one does not", () -> Due.read(twoAndOne(199), "0(0);1(0);"), DELETE_ALL, 7, 1, -1, -1);
        FixtureTables x = twoAndOne(198);
        Due.fails(x, "0(0);1(0);", DELETE_ALL, 7, 0, -1, -1);
        Due.applied(x, "1(0);", DELETE_ALL, 2);
        Due.fails(x, "0(0);", DELETE_ALL, 7, 0, -1, -1);
        Due.applied(x, "1(0);", DELETE_ALL, 0);
    }

    /** Two rows in table 1, one in table 0. */
    private static FixtureTables twoAndOne(int count) {
        FixtureTables x = tables();
        Due.read(x, "1(0):1:2;");
        x.apply(INSERT);
        x.begin();
        change(x, count);
        return x;
    }

    /** "of 5 those gone and those made": the rows that go count, too. */
    private static void cleanInsert() {
        Due.is("200 changes", 3, () -> Due.read(changed(197), "0(0):1:2;").apply(CLEAN_INSERT));
        Twins.failed("201 changes", () -> Due.read(changed(198), "0(0):1:2;"), CLEAN_INSERT, 7, 0, 1, -1);
        Twins.failed("202 changes", () -> Due.read(changed(199), "0(0):1:2;"), CLEAN_INSERT, 7, 0, 0, -1);
        Twins.failed("203 changes", () -> Due.read(changed(200), "0(0):1:2;"), CLEAN_INSERT, 7, 0, -1, -1);
        FixtureTables x = changed(198);
        Due.fails(x, "0(0):1:2;", CLEAN_INSERT, 7, 0, 1, -1);
        roomFor(x, 2);
    }

    /** What changes nothing is done in a full one, too. */
    private static void nothingInAFullOne() {
        FixtureTables x = changed(200);
        Due.applied(x, "0(0):9;", DELETE, 0);
        Due.applied(x, "1(0);", DELETE_ALL, 0);
        Due.applied(x, "1(0);", CLEAN_INSERT, 0);
        Due.applied(x, "", INSERT, 0);
        Due.applied(x, "0(0);", UPDATE, 0);
        Due.applied(x, "0(0);", REFRESH, 0);
        Due.is("begin", 2, () -> x.begin());
        Due.is("commit", 1, () -> x.commit());
        Due.is("commit", 0, () -> x.commit());
    }

    /** "While one is open" */
    private static void outsideOfTransactions() {
        FixtureTables x = tables();
        change(x, 220);
        x.begin();
        roomFor(x, 200);
        x.commit();
        change(x, 40);
    }

    /** "since the outermost one's beginning" */
    private static void sinceTheOutermostOnesBeginning() {
        FixtureTables x = changed(100);
        x.begin();
        change(x, 60);
        x.begin();
        roomFor(x, 40);
        Due.is("commit", 2, () -> x.commit());
        Due.fails(x, "0(0):1;", UPDATE, 7, 0, 0, -1);
        Due.is("commit", 1, () -> x.commit());
        Due.fails(x, "0(0):1;", UPDATE, 7, 0, 0, -1);
    }

    /** "those rolled back, or of an operation that failed, don't count any more": the first of them */
    private static void rolledBack() {
        FixtureTables x = changed(20);
        x.begin();
        change(x, 40);
        x.begin();
        roomFor(x, 140);
        x.rollback();
        roomFor(x, 140);
        x.rollback();
        roomFor(x, 180);
    }

    /** "those rolled back, or of an operation that failed, don't count any more": the second of them */
    private static void operationsThatFailed() {
        FixtureTables x = changed(180);
        Due.fails(x, "0(0)" + ":1".repeat(19) + ":~;", UPDATE, 1, 0, 19, 0);
        Due.fails(x, "0(0)" + ":1".repeat(21) + ";", UPDATE, 7, 0, 20, -1);
        Due.fails(x, "0(0):2:3:4:1;", INSERT, 2, 0, 3, -1);
        Due.fails(x, "0(0):5:6:6;", CLEAN_INSERT, 2, 0, 2, -1);
        Due.fails(x, "0(0):1:~;", DELETE, 1, 0, 1, 0);
        roomFor(x, 20);
    }

    /** A commit of an inner one, then a rollback of the outer one: nothing of either counts. */
    private static void innerOnesCommitted() {
        FixtureTables x = changed(20);
        x.begin();
        x.begin();
        change(x, 40);
        x.commit();
        change(x, 20);
        x.rollback();
        roomFor(x, 180);
        x.rollback();
        x.begin();
        roomFor(x, 200);
    }

    private static void endOfTheOutermost() {
        FixtureTables x = changed(200);
        x.commit();
        Due.applied(x, "0(0):1;", UPDATE, 1);
        x.begin();
        roomFor(x, 200);
        x.rollback();
        x.begin();
        roomFor(x, 200);
    }
}
