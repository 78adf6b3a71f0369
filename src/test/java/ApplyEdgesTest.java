/** The edges of promise 9 (apply); each test quotes its sentence. */
public final class ApplyEdgesTest {
    private static final int INSERT = 0;
    private static final int UPDATE = 1;
    private static final int REFRESH = 2;
    private static final int DELETE = 3;
    private static final int DELETE_ALL = 4;
    private static final int CLEAN_INSERT = 5;
    private static final String TWELVE = ":a:b:c:d:e:f:g:h:i:j:k:l";

    public static void main(String[] args) {
        noSuchOperation();
        noDatasetRead();
        exceptionsInTheirOrder();
        noSectionsNoRows();
        columnsThatTheSectionHasNot();
        sectionsInTheirOrder();
        tablesInOrder();
        theOtherValues();
        changedToWhatItWas();
        refreshIsOneOfTwo();
        noRowToDelete();
        tablesInReverse();
        tablesThatHaveASection();
        deleteAllThenInsert();
        fullTables();
        twentyFourChanges();
        mostChanges();
        nothingOfItIsDone();
        datasetStays();
        Due.end();
    }

    /** An integer key and four integers that may be null. */
    private static FixtureTables wide() {
        FixtureTables x = new FixtureTables();
        x.table();
        for (int i = 0; i < 5; i++) {
            x.column(0, 0, false, -1);
        }
        return x;
    }

    /** Table 0 refers to table 1, in column 1. */
    private static FixtureTables childAndParent() {
        FixtureTables x = new FixtureTables();
        x.table();
        x.table();
        x.column(1, 0, false, -1);
        x.column(0, 0, false, -1);
        x.column(0, 0, false, 1);
        return x;
    }

    /** "IllegalArgumentException if there is no such operation" */
    private static void noSuchOperation() {
        for (int operation : Due.outside(6)) {
            Twins.notTried("apply(" + operation + ")", Due.IAE, () -> Twins.rich(1), operation);
        }
        Due.is("apply(0)", 0, () -> Due.read(wide(), "0(0);").apply(INSERT));
        Due.is("apply(5)", 0, () -> Due.read(wide(), "0(0);").apply(CLEAN_INSERT));
    }

    /** "IllegalStateException if no dataset was read" */
    private static void noDatasetRead() {
        for (int operation = 0; operation < 6; operation++) {
            int number = operation;
            Twins.notTried("apply without a dataset", Due.ISE, ApplyEdgesTest::wide, operation);
            Twins.notTried("apply behind a read that threw", Due.ISE, ApplyEdgesTest::afterWrongRead, operation);
            FixtureTables x = Twins.rich(0);
            Due.failure(x, "before", 2, 0, 1, -1);
            x.column(2, 0, false, -1);
            Due.raises("apply behind column", Due.ISE, () -> x.apply(number));
            Due.failure(x, "behind", 0, -1, -1, -1);
            Due.is("nothing was done", 2, () -> x.rows(0));
        }
    }

    private static FixtureTables afterWrongRead() {
        FixtureTables x = wide();
        x.type('!');
        Due.raises("read", Due.IAE, () -> x.read());
        return x;
    }

    /** "Of several exceptions that apply the first one listed is thrown." */
    private static void exceptionsInTheirOrder() {
        for (int operation : Due.outside(6)) {
            Twins.notTried("no such operation, no dataset", Due.IAE, ApplyEdgesTest::wide, operation);
        }
        FixtureTables x = childAndParent();
        x.column(1, 0, false, 0);
        Due.raises("a circle, and no dataset", Due.UOE, () -> x.apply(0));
        Due.raises("no such operation, a circle and no dataset", Due.IAE, () -> x.apply(6));
    }

    /** "SECTIONS (also none)", "ROWS (also none)" */
    private static void noSectionsNoRows() {
        for (int operation = 0; operation < 4; operation++) {
            int number = operation;
            Twins.answered("no sections", 0, () -> Due.read(Twins.rich(1), ""), x -> x.apply(number), Twins.FAILURE);
            Twins.answered("no rows", 0, () -> Due.read(Twins.rich(1), "0(1);1(0);"), x -> x.apply(number),
                    Twins.FAILURE);
        }
        Twins.answered("no sections", 0, () -> Due.read(Twins.rich(1), ""), x -> x.apply(DELETE_ALL), Twins.FAILURE);
        Twins.answered("no sections", 0, () -> Due.read(Twins.rich(1), ""), x -> x.apply(CLEAN_INSERT), Twins.FAILURE);
        FixtureTables x = Due.read(Due.keys(1, 2), "0(0);");
        Due.is("an empty table", 0, () -> x.apply(DELETE_ALL));
        Due.is("an empty table", 0, () -> x.apply(CLEAN_INSERT));
    }

    /** "a new row, null in columns that the section has not." */
    private static void columnsThatTheSectionHasNot() {
        FixtureTables x = wide();
        Due.applied(x, "0(0):1;0(40):5,2;0(43210):5,4,3,2,3;0(104):7,4,8;", INSERT, 4);
        Due.table(x, 0, "0(01234):1,~,~,~,~:2,~,~,~,5:3,2,3,4,5:4,7,~,~,8;");
        for (int column = 1; column < 5; column++) {
            int number = column;
            Due.is("a null's value", 0, () -> x.value(0, 0, number));
            Due.is("null", 1, () -> x.isNull(0, 0, number) ? 1 : 0);
        }
        Due.applied(x, "0(0);", DELETE_ALL, 4);
        Due.applied(x, "0(0):1:2:3:4;", REFRESH, 4);
        Due.table(x, 0, "0(01234):1,~,~,~,~:2,~,~,~,~:3,~,~,~,~:4,~,~,~,~;");
    }

    /** "of each its sections in theirs, their rows one by one" */
    private static void sectionsInTheirOrder() {
        FixtureTables x = wide();
        Due.applied(x, "0(01):1,1:1,2;0(01):1,3;", REFRESH, 3);
        Due.is("the last one stays", 3, () -> x.value(0, 0, 1));
        Due.applied(x, "0(01):1,4;0(02):1,5;0(012):1,6,7:1,8,9;", UPDATE, 4);
        Due.table(x, 0, "0(01234):1,8,9,~,~;");
        FixtureTables y = new FixtureTables();
        y.table();
        y.column(0, 0, false, -1);
        y.column(0, 0, false, 0);
        Due.applied(y, "0(0):1;0(01):2,1:3,2;", INSERT, 3);
        Due.fails(y, "0(01):4,5;0(0):5;", INSERT, 3, 0, 0, 1);
        Due.applied(y, "0(0):3;0(0):2:1;", DELETE, 3);
    }

    /** "tables in order" */
    private static void tablesInOrder() {
        FixtureTables x = childAndParent();
        Due.applied(x, "0(01):1,7;1(0):7;0(01):2,8;1(0):8;", INSERT, 4);
        Due.table(x, 0, "0(01):1,7:2,8;");
        Due.applied(x, "0(01):1,9:3,9;1(0):9;", REFRESH, 3);
        Due.table(x, 0, "0(01):1,9:2,8:3,9;");
        Due.fails(x, "0(01):1,5;1(0):5;", UPDATE, 5, 1, 1, -1);
    }

    /** "the row with that key gets the other values that the section has." */
    private static void theOtherValues() {
        FixtureTables x = Due.inserted(wide(), "0(01234):1,2,3,4,5:2,3,4,5,6;");
        Due.applied(x, "0(30):9,1;", UPDATE, 1);
        Due.table(x, 0, "0(01234):1,2,3,9,5:2,3,4,5,6;");
        Due.applied(x, "0(043):1,~,~;", UPDATE, 1);
        Due.table(x, 0, "0(01234):1,2,3,~,~:2,3,4,5,6;");
        Due.applied(x, "0(01234):2,~,~,~,~;", REFRESH, 1);
        Due.table(x, 0, "0(01234):1,2,3,~,~:2,~,~,~,~;");
        Due.applied(x, "0(01234):2,0,0,0,0;", UPDATE, 1);
        Due.table(x, 0, "0(01234):1,2,3,~,~:2,0,0,0,0;");
    }

    /** "(A row that gets the values it had is changed, too" */
    private static void changedToWhatItWas() {
        FixtureTables x = Due.inserted(wide(), "0(01):1,2:2,3;");
        Due.applied(x, "0(01):1,2:2,3:1,2;", UPDATE, 3);
        Due.applied(x, "0(0):1:2:2:2;", UPDATE, 4);
        Due.applied(x, "0(01):1,2;", REFRESH, 1);
        Due.applied(x, "0(0):1;", REFRESH, 1);
        Due.table(x, 0, "0(01234):1,2,~,~,~:2,3,~,~,~;");
    }

    /** "if there is a row with that key as UPDATE, else as INSERT." */
    private static void refreshIsOneOfTwo() {
        FixtureTables x = Due.inserted(wide(), "0(012):1,2,3;");
        Due.applied(x, "0(01):0,5:1,6:2,7:2,8;", REFRESH, 4);
        Due.table(x, 0, "0(01234):0,5,~,~,~:1,6,3,~,~:2,8,~,~,~;");
    }

    /** "the row with that key goes; if there is none, nothing." */
    private static void noRowToDelete() {
        FixtureTables x = Due.inserted(wide(), "0(0):1:3;");
        Due.applied(x, "0(0):0:2:4;", DELETE, 0);
        Due.applied(x, "0(0):1:1:1;", DELETE, 1);
        Due.table(x, 0, "0(01234):3,~,~,~,~;");
        Due.applied(x, "0(10):1,3;", DELETE, 1);
        Due.applied(x, "0(0):3;", DELETE, 0);
        Due.is("rows", 0, () -> x.rows(0));
    }

    /** "tables in the reverse order (their sections and rows in theirs)" */
    private static void tablesInReverse() {
        FixtureTables x = Due.inserted(childAndParent(), "0(01):1,7:2,8;1(0):7:8:9;");
        Due.fails(x, "1(0):9:7;0(0):2;", DELETE, 4, 1, 1, -1);
        Due.applied(x, "1(0):9:7;0(0):1;", DELETE, 3);
        Due.applied(x, "1(0):8;0(0):2;", DELETE, 2);
        FixtureTables y = new FixtureTables();
        y.table();
        y.column(0, 0, false, -1);
        y.column(0, 0, false, 0);
        Due.inserted(y, "0(01):1,~:2,1:3,2;");
        Due.fails(y, "0(0):3:1:2;", DELETE, 4, 0, 1, -1);
        Due.fails(y, "0(0):1;0(0):2:3;", DELETE, 4, 0, 0, -1);
        Due.applied(y, "0(0):3;0(0):2;0(0):1;", DELETE, 3);
    }

    /** "all rows of each table that has a section, in the reverse order." */
    private static void tablesThatHaveASection() {
        FixtureTables x = Due.inserted(Due.keys(3, 2), "0(0):a:b;1(0):c;2(0):d:e:f;");
        Due.applied(x, "0(0);", DELETE_ALL, 2);
        Due.is("another table's rows", 1, () -> x.rows(1));
        Due.is("another table's rows", 3, () -> x.rows(2));
        Due.applied(x, "2(0):~:zz;2(0);1(0);2(0):~;", DELETE_ALL, 4);
        Due.is("none is left", 0, () -> x.rows(1) + x.rows(2));
        FixtureTables y = Due.inserted(childAndParent(), "0(01):1,7;1(0):7:8;");
        Due.applied(y, "1(0);0(0);", DELETE_ALL, 3);
        Due.inserted(y, "0(01):1,7;1(0):7:8;");
        Due.applied(y, "0(0);1(0);", DELETE_ALL, 3);
    }

    /** "An operation: how many changes were made."; "5 CLEAN INSERT: 4, then 0."; "of 5 those gone and those made.)" */
    private static void deleteAllThenInsert() {
        FixtureTables x = Due.inserted(Due.keys(2, 2), "0(0):a:b;1(0):c;");
        Due.applied(x, "0(0):b;", CLEAN_INSERT, 3);
        Due.table(x, 0, "0(0):b;");
        Due.table(x, 1, "1(0):c;");
        Due.applied(x, "0(0):x:y:z;0(0);", CLEAN_INSERT, 4);
        Due.applied(x, "0(0);1(0);", CLEAN_INSERT, 4);
        Due.applied(x, "0(0);1(0);", CLEAN_INSERT, 0);
        Due.applied(x, "0(0):a;1(0):b;", CLEAN_INSERT, 2);
    }

    /** "at most 12 ROWS"; "6 FULL (a new row): there are 12 rows." */
    private static void fullTables() {
        String eleven = "0(0)" + TWELVE.substring(0, 22) + ";";
        for (int operation : new int[] {INSERT, REFRESH}) {
            FixtureTables y = Due.inserted(Due.keys(1, 2), eleven);
            Due.applied(y, "0(0):l;", operation, 1);
            Due.is("rows", 12, () -> y.rows(0));
        }
        Due.is("12 rows", 12, () -> Due.read(Due.keys(1, 2), "0(0)" + TWELVE + ";").apply(CLEAN_INSERT));
        for (int operation : new int[] {INSERT, REFRESH}) {
            Twins.failed("a 13th row", () -> Due.read(full(), "0(0):m;"), operation, 6, 0, 0, -1);
            Twins.failed("a 13th row", () -> Due.read(Due.keys(1, 2), "0(0)" + TWELVE + ":m;"), operation,
                    6, 0, 12, -1);
        }
        Twins.failed("a 13th row", () -> Due.read(full(), "0(0)" + TWELVE + ":m;"), CLEAN_INSERT, 6, 0, 12, -1);
        FixtureTables x = full();
        Due.applied(x, "0(0)" + TWELVE + ";", CLEAN_INSERT, 24);
        Due.applied(x, "0(0)" + TWELVE + ";", UPDATE, 12);
        Due.applied(x, "0(0)" + TWELVE + ";", REFRESH, 12);
        Due.applied(x, "0(0):f;", DELETE, 1);
        Due.applied(x, "0(0):m;", INSERT, 1);
        Due.fails(x, "0(0):n;", INSERT, 6, 0, 0, -1);
        Due.is("the last one", (long) 'm' << 49, () -> x.value(0, 11, 0));
    }

    private static FixtureTables full() {
        return Due.inserted(Due.keys(1, 2), "0(0)" + TWELVE + ";");
    }

    /** "24 rows in all", each of them a change */
    private static void twentyFourChanges() {
        FixtureTables x = Due.read(Due.keys(2, 2), "1(0)" + TWELVE + ";0(0)" + TWELVE + ";");
        Due.is("INSERT", 24, () -> x.apply(INSERT));
        Due.is("rows", 12, () -> x.rows(0));
        Due.is("rows", 12, () -> x.rows(1));
        Due.is("UPDATE", 24, () -> x.apply(UPDATE));
        Due.is("REFRESH", 24, () -> x.apply(REFRESH));
        Due.is("CLEAN INSERT", 48, () -> x.apply(CLEAN_INSERT));
        Due.is("DELETE", 24, () -> x.apply(DELETE));
        Due.is("rows", 0, () -> x.rows(0) + x.rows(1));
    }

    /** Five full tables, six sections, 24 rows: as many changes as one operation can make. */
    private static void mostChanges() {
        FixtureTables x = Due.inserted(Due.keys(5, 2), "0(0)" + TWELVE + ";1(0)" + TWELVE + ";",
                "2(0)" + TWELVE + ";3(0)" + TWELVE + ";", "4(0)" + TWELVE + ";");
        x.begin();
        Due.read(x, "4(0)" + TWELVE + ";1(0);3(0)" + TWELVE + ";0(0);2(0);4(0);");
        Due.is("CLEAN INSERT", 84, () -> x.apply(CLEAN_INSERT));
        int[] rows = {0, 0, 0, 12, 12};
        for (int table = 0; table < 5; table++) {
            int number = table;
            Due.is("rows", rows[table], () -> x.rows(number));
        }
        x.rollback();
        Due.is("DELETE ALL", 60, () -> x.apply(DELETE_ALL));
    }

    /** "an operation FAILS by the first check that does not hold, and then nothing of it is done." */
    private static void nothingOfItIsDone() {
        String twice = TWELVE.substring(2) + ":c;";
        Twins.failed("the last of 24 rows", () -> Due.read(Due.keys(2, 2), "0(0)" + TWELVE + ";1(0)" + twice), INSERT,
                2, 1, 23, -1);
        Twins.failed("the first table's last row", () -> Due.read(Due.keys(2, 2), "1(0)" + TWELVE + ";0(0)" + twice),
                INSERT, 2, 0, 23, -1);
        Twins.failed("UPDATE", () -> Due.read(Due.inserted(wide(), "0(01):1,2:2,3;"), "0(01):1,9:2,9:3,9;"), UPDATE,
                5, 0, 2, -1);
        Twins.failed("REFRESH", () -> Due.read(Due.inserted(wide(), "0(01):1,2;"), "0(01):1,9:5,9:~,9;"), REFRESH,
                1, 0, 2, 0);
        Twins.failed("DELETE", () -> Due.read(Due.inserted(wide(), "0(0):1:2;"), "0(0):1:2:~;"), DELETE, 1, 0, 2, 0);
        Twins.failed("DELETE ALL", () -> Due.read(family(), "2(0);1(0);"), DELETE_ALL, 4, 1, -1, -1);
        Twins.failed("CLEAN INSERT, as it deletes", () -> Due.read(family(), "1(0):1;2(0):2;"), CLEAN_INSERT,
                4, 1, -1, -1);
        Twins.failed("CLEAN INSERT, as it inserts", () -> Due.read(family(), "2(0):3:3;0(01):1,7;"), CLEAN_INSERT,
                2, 2, 1, -1);
    }

    /** Table 0 refers to table 1, and there is a table 2 that is cleared before them. */
    private static FixtureTables family() {
        FixtureTables x = childAndParent();
        x.table();
        x.column(2, 0, false, -1);
        return Due.inserted(x, "0(01):1,7;1(0):7:8;2(0):4:5;");
    }

    /** The dataset can be applied again. */
    private static void datasetStays() {
        FixtureTables x = Due.read(Due.keys(1, 2), "0(0):a:b;");
        Due.is("INSERT", 2, () -> x.apply(INSERT));
        Due.raises("INSERT again", Due.ISE, () -> x.apply(INSERT));
        Due.failure(x, "doubles", 2, 0, 0, -1);
        Due.is("CLEAN INSERT", 4, () -> x.apply(CLEAN_INSERT));
        Due.is("DELETE", 2, () -> x.apply(DELETE));
        Due.is("DELETE again", 0, () -> x.apply(DELETE));
        Due.is("INSERT", 2, () -> x.apply(INSERT));
    }
}
