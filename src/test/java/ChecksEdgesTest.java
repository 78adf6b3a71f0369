/** The edges of the checks and of promise 10 (failure); each test quotes its sentence. */
public final class ChecksEdgesTest {
    private static final int INSERT = 0;
    private static final int UPDATE = 1;
    private static final int REFRESH = 2;
    private static final int DELETE = 3;
    private static final int DELETE_ALL = 4;
    private static final int CLEAN_INSERT = 5;
    private static final String TWENTY = "0(0)" + ":1".repeat(20) + ";";

    public static void main(String[] args) {
        keyIsNull();
        keyIsNotInTheSection();
        keyOfOperationFour();
        doubles();
        noRow();
        requiredColumns();
        requiredByColumn();
        requiredAsTheRowWouldBe();
        noParent();
        noParentByColumn();
        nullRefersToNothing();
        parentAsTheRowWouldBe();
        itMayReferToItself();
        anotherRowRefers();
        rowsOfAnotherTable();
        nullIsNoChild();
        checksOfInsert();
        checksOfUpdate();
        checksOfRefresh();
        checksOfDelete();
        checksOfDeleteAll();
        checksOfCleanInsert();
        rowsBeforeChecks();
        tablesBeforeRows();
        rowsOverAllSections();
        rowsOfOperationFour();
        columnsOfChecks();
        farthestAnswers();
        otherWhats();
        ifItDidNotFail();
        Due.end();
    }

    /** One table: a key of a type, and columns of the same type; own tells whether they refer to it. */
    private static FixtureTables alike(int type, int columns, boolean required, boolean own) {
        FixtureTables x = new FixtureTables();
        x.table();
        x.column(0, type, required, -1);
        for (int i = 1; i < columns; i++) {
            x.column(0, type, required, own ? 0 : -1);
        }
        return x;
    }

    /** Table 0: a key. Table 1: a key, a required integer, a reference to 0. Rows 1 and 2 in 0. */
    private static FixtureTables parentAndChild(int children, boolean logIsFull) {
        FixtureTables x = new FixtureTables();
        x.table();
        x.table();
        x.column(0, 0, false, -1);
        x.column(1, 0, false, -1);
        x.column(1, 0, true, -1);
        x.column(1, 0, false, 0);
        StringBuilder rows = new StringBuilder();
        for (int i = 1; i <= children; i++) {
            rows.append(":").append(i).append(",0,").append(i == 1 ? "1" : "~");
        }
        Due.inserted(x, "0(0):1:2;1(012)" + rows + ";");
        if (logIsFull) {
            x.begin();
            Due.read(x, TWENTY);
            for (int i = 0; i < 10; i++) {
                x.apply(UPDATE);
            }
        }
        return x;
    }

    /** An operation on table 1 as it is made above. */
    private static void failed(int children, boolean logIsFull, String text, int operation, int... why) {
        Twins.failed("apply(" + operation + ") of " + text, () -> Due.read(parentAndChild(children, logIsFull), text),
                operation, why);
    }

    private static void done(int children, boolean logIsFull, String text, int operation, int changes) {
        FixtureTables x = parentAndChild(children, logIsFull);
        Due.applied(x, text, operation, changes);
    }

    /** "Column 0 is the KEY: not null"; "1 NULL (operations 0 to 3): the key (column 0) is null" */
    private static void keyIsNull() {
        for (int operation = INSERT; operation <= DELETE; operation++) {
            failed(1, false, "1(012):~,0,1;", operation, 1, 1, 0, 0);
        }
        failed(1, false, "1(210):1,0,~;", CLEAN_INSERT, 1, 1, 0, 0);
        String[] least = {"0", "0", "''", "f"};
        for (int type = 0; type < 4; type++) {
            FixtureTables x = alike(type, 1, false, false);
            Due.fails(x, "0(0):~;", INSERT, 1, 0, 0, 0);
            Due.applied(x, "0(0):" + least[type] + ";", INSERT, 1);
            Due.fails(x, "0(0):~;", UPDATE, 1, 0, 0, 0);
            Due.applied(x, "0(0):" + least[type] + ";", UPDATE, 1);
            Due.fails(x, "0(0):~;", DELETE, 1, 0, 0, 0);
            Due.applied(x, "0(0):" + least[type] + ";", DELETE, 1);
            Due.fails(x, "0(0):~;", DELETE, 1, 0, 0, 0);
        }
    }

    /** "or not in the section." */
    private static void keyIsNotInTheSection() {
        for (int operation = INSERT; operation <= DELETE; operation++) {
            failed(1, false, "1(12):0,1;", operation, 1, 1, 0, 0);
            done(1, false, "1(12);", operation, 0);
        }
        failed(1, false, "1(1):0;", CLEAN_INSERT, 1, 1, 0, 0);
        done(1, false, "1(1);", CLEAN_INSERT, 1);
    }

    private static void keyOfOperationFour() {
        done(1, false, "1(0):~;", DELETE_ALL, 1);
        done(1, false, "1(1):~:5;", DELETE_ALL, 1);
    }

    /** "2 DOUBLE (a new row): its key is there."; "no two alike" */
    private static void doubles() {
        failed(2, false, "1(01):2,0;", INSERT, 2, 1, 0, -1);
        failed(2, false, "1(01):3,0:4,0:3,0;", INSERT, 2, 1, 2, -1);
        failed(2, false, "1(01):3,0:3,0;", CLEAN_INSERT, 2, 1, 1, -1);
        done(2, false, "1(01):3,0;", INSERT, 1);
        done(2, false, "1(01):2,0;", CLEAN_INSERT, 3);
        done(2, false, "1(01):2,0:3,0:3,0;", REFRESH, 3);
        String[][] pairs = {{"-0", "0"}, {"0.5", "0.50"}, {"abc", "'abc'"}, {"t", "t"}};
        String[][] others = {{"1", "-1"}, {"0.5", "0.05"}, {"a", "'a '"}, {"t", "f"}};
        for (int type = 0; type < 4; type++) {
            FixtureTables x = alike(type, 1, false, false);
            Due.fails(x, "0(0):" + pairs[type][0] + ":" + pairs[type][1] + ";", INSERT, 2, 0, 1, -1);
            Due.applied(x, "0(0):" + others[type][0] + ":" + others[type][1] + ";", INSERT, 2);
        }
    }

    /** "5 NO ROW (operation 1): no row has the key." */
    private static void noRow() {
        failed(2, false, "1(01):3,0;", UPDATE, 5, 1, 0, -1);
        failed(0, false, "1(01):1,0;", UPDATE, 5, 1, 0, -1);
        failed(2, false, "1(0):2:1:0;", UPDATE, 5, 1, 2, -1);
        done(2, false, "1(01):2,0:1,0;", UPDATE, 2);
        done(2, false, "1(01):3,0;", REFRESH, 1);
        done(2, false, "1(0):3;", DELETE, 0);
    }

    /** "1 NULL, by column: a required one is null"; "A column may be REQUIRED (not null)" */
    private static void requiredColumns() {
        String[] least = {"0", "0", "''", "f"};
        for (int type = 0; type < 4; type++) {
            FixtureTables x = alike(type, 2, true, false);
            String key = "0(01):" + least[type] + ",";
            Due.fails(x, key + "~;", INSERT, 1, 0, 0, 1);
            Due.applied(x, key + least[type] + ";", INSERT, 1);
            Due.fails(x, key + "~;", UPDATE, 1, 0, 0, 1);
            Due.fails(x, key + "~;", REFRESH, 1, 0, 0, 1);
            Due.is("it is not null", 0, () -> x.isNull(0, 0, 1) ? 1 : 0);
            FixtureTables y = alike(type, 2, false, false);
            Due.applied(y, key + "~;", INSERT, 1);
            Due.is("it is null", 1, () -> y.isNull(0, 0, 1) ? 1 : 0);
        }
    }

    private static void requiredByColumn() {
        FixtureTables x = alike(0, 5, true, false);
        String[] texts = {"0(0):1;", "0(01):1,1;", "0(012):1,1,1;", "0(0123):1,1,1,1;"};
        for (int i = 0; i < 4; i++) {
            Due.fails(x, texts[i], INSERT, 1, 0, 0, i + 1);
        }
        Due.fails(x, "0(43210):~,~,5,~,5;", INSERT, 1, 0, 0, 1);
        Due.applied(x, "0(43210):5,5,5,5,5;", INSERT, 1);
        Due.fails(x, "0(0314):5,~,5,~;", UPDATE, 1, 0, 0, 3);
        Due.fails(x, "0(042):5,~,~;", REFRESH, 1, 0, 0, 2);
    }

    /** "as the row would be": what the section has not is the row's own. */
    private static void requiredAsTheRowWouldBe() {
        FixtureTables x = alike(0, 3, true, false);
        Due.fails(x, "0(01):1,2;", REFRESH, 1, 0, 0, 2);
        Due.applied(x, "0(012):1,2,3;", REFRESH, 1);
        Due.applied(x, "0(01):1,4;", REFRESH, 1);
        Due.applied(x, "0(0):1;", UPDATE, 1);
        Due.applied(x, "0(02):1,5;", UPDATE, 1);
        Due.table(x, 0, "0(012):1,4,5;");
    }

    /** "3 NO PARENT, by column: a reference to no row"; "then its value has to be the key of a row there, or null." */
    private static void noParent() {
        failed(1, false, "1(012):2,0,3;", INSERT, 3, 1, 0, 2);
        failed(1, false, "1(012):2,0,0;", INSERT, 3, 1, 0, 2);
        failed(1, false, "1(02):1,3;", UPDATE, 3, 1, 0, 2);
        failed(1, false, "1(02):1,0;", REFRESH, 3, 1, 0, 2);
        failed(1, false, "1(012):2,0,3;", REFRESH, 3, 1, 0, 2);
        failed(1, false, "1(012):2,0,3;", CLEAN_INSERT, 3, 1, 0, 2);
        done(1, false, "1(012):2,0,2;", INSERT, 1);
        done(1, false, "1(02):1,2;", UPDATE, 1);
        done(1, false, "1(02):1,2;", REFRESH, 1);
        done(1, false, "1(012):2,0,2;", CLEAN_INSERT, 2);
        done(1, false, "0(0):3;1(012):2,0,3;", INSERT, 2);
        failed(1, false, "0(0):3;1(012):2,0,2;", CLEAN_INSERT, 3, 1, 1, 2);
    }

    private static void noParentByColumn() {
        FixtureTables x = alike(0, 5, false, true);
        Due.fails(x, "0(04):1,2;", INSERT, 3, 0, 0, 4);
        Due.fails(x, "0(0432):1,2,2,2;", INSERT, 3, 0, 0, 2);
        Due.fails(x, "0(041):1,2,2;", INSERT, 3, 0, 0, 1);
        Due.fails(x, "0(01234):1,1,1,2,2;", INSERT, 3, 0, 0, 3);
        Due.applied(x, "0(01234):1,1,1,1,1;", INSERT, 1);
        FixtureTables y = new FixtureTables();
        y.table();
        y.table();
        y.column(0, 0, false, -1);
        y.column(1, 0, false, 0);
        y.column(1, 0, false, 0);
        Due.applied(y, "0(0):1;", INSERT, 1);
        Due.fails(y, "1(01):2,2;", INSERT, 3, 1, 0, 0);
        Due.fails(y, "1(01):1,2;", INSERT, 3, 1, 0, 1);
        Due.applied(y, "1(01):1,1;", INSERT, 1);
    }

    /** "or null": also where a key is 0, '' or false, as a null's value is. */
    private static void nullRefersToNothing() {
        String[] keys = {"0", "0", "''", "f"};
        for (int type = 0; type < 4; type++) {
            FixtureTables x = alike(type, 2, false, true);
            String other = new String[] {"1", "1", "a", "t"}[type];
            Due.applied(x, "0(01):" + other + ",~;", INSERT, 1);
            Due.fails(x, "0(01):" + other + "," + keys[type] + ";", UPDATE, 3, 0, 0, 1);
            Due.applied(x, "0(0):" + keys[type] + ";", INSERT, 1);
            Due.applied(x, "0(01):" + other + "," + keys[type] + ";", UPDATE, 1);
            Due.fails(x, "0(0):" + keys[type] + ";", DELETE, 4, 0, 0, -1);
            Due.applied(x, "0(01):" + other + ",~;", UPDATE, 1);
            Due.applied(x, "0(0):" + keys[type] + ";", DELETE, 1);
        }
    }

    /** "as the row would be": a reference that the section has not is the row's own; rows made before are there. */
    private static void parentAsTheRowWouldBe() {
        done(1, false, "1(01):1,5;", UPDATE, 1);
        FixtureTables x = alike(0, 2, false, true);
        Due.fails(x, "0(01):1,2:2,~;", INSERT, 3, 0, 0, 1);
        Due.applied(x, "0(01):2,~:1,2;", INSERT, 2);
        Due.fails(x, "0(01):3,4:4,~;", REFRESH, 3, 0, 0, 1);
        Due.applied(x, "0(01):4,~:3,4;", REFRESH, 2);
        Due.fails(x, "0(01):6,3:5,2;", CLEAN_INSERT, 3, 0, 0, 1);
        Due.table(x, 0, "0(01):1,2:2,~:3,4:4,~;");
    }

    /** "(it may refer to itself)"; "its PARENT (perhaps its own)" */
    private static void itMayReferToItself() {
        for (int operation : new int[] {INSERT, REFRESH, CLEAN_INSERT}) {
            FixtureTables x = alike(2, 2, true, true);
            Due.fails(x, "0(01):a,b;", operation, 3, 0, 0, 1);
            Due.applied(x, "0(01):a,a;", operation, 1);
        }
        FixtureTables x = Due.inserted(alike(2, 2, false, true), "0(0):a;");
        Due.fails(x, "0(01):a,b;", UPDATE, 3, 0, 0, 1);
        Due.applied(x, "0(01):a,a;", UPDATE, 1);
        FixtureTables y = new FixtureTables();
        y.table();
        y.column(0, 3, true, 0);
        Due.applied(y, "0(0):t:f;", INSERT, 2);
        Due.applied(y, "0(0):t:f;", UPDATE, 2);
        FixtureTables z = new FixtureTables();
        z.table();
        z.table();
        z.column(0, 0, false, -1);
        z.column(1, 0, false, -1);
        z.column(1, 0, false, 0);
        Due.fails(z, "1(01):7,7;", INSERT, 3, 1, 0, 1);
    }

    /** "4 CHILD: (operation 3) another row refers to the row" */
    private static void anotherRowRefers() {
        failed(1, false, "0(0):1;", DELETE, 4, 0, 0, -1);
        failed(1, false, "0(0):2:1;", DELETE, 4, 0, 1, -1);
        done(1, false, "0(0):2;", DELETE, 1);
        done(0, false, "0(0):1;", DELETE, 1);
        done(1, false, "0(0):1;1(0):1;", DELETE, 2);
        for (int column = 1; column < 5; column++) {
            FixtureTables x = Due.inserted(alike(0, 5, false, true), "0(0" + column + "):1,1:2,1;");
            Due.fails(x, "0(0):1;", DELETE, 4, 0, 0, -1);
            Due.applied(x, "0(0):2;", DELETE, 1);
            Due.applied(x, "0(0):1;", DELETE, 1);
        }
        FixtureTables y = new FixtureTables();
        y.table();
        y.table();
        y.column(0, 0, false, -1);
        y.column(1, 0, false, 0);
        Due.inserted(y, "0(0):1:2;1(0):2;");
        Due.fails(y, "0(0):1:2;", DELETE, 4, 0, 1, -1);
        Due.applied(y, "0(0):1;", DELETE, 1);
    }

    /** "(4) a row of another table to one of them." */
    private static void rowsOfAnotherTable() {
        failed(1, false, "0(0);", DELETE_ALL, 4, 0, -1, -1);
        failed(1, false, "0(0):5;", CLEAN_INSERT, 4, 0, -1, -1);
        done(1, false, "0(0);1(0);", DELETE_ALL, 3);
        done(0, false, "0(0);", DELETE_ALL, 2);
        FixtureTables x = Due.inserted(alike(0, 2, false, true), "0(01):1,1:2,1:3,2;");
        Due.applied(x, "0(0);", DELETE_ALL, 3);
        FixtureTables y = Due.inserted(parentAndChild(1, false), "0(0):9;");
        Due.fails(y, "0(0);", DELETE_ALL, 4, 0, -1, -1);
        Due.applied(y, "1(02):1,~;", UPDATE, 1);
        Due.applied(y, "0(0);", DELETE_ALL, 3);
    }

    /** A null refers to no row, also where the row's key is 0. */
    private static void nullIsNoChild() {
        FixtureTables x = Due.inserted(parentAndChild(2, false), "0(0):0;");
        Due.applied(x, "0(0):0;", DELETE, 1);
        FixtureTables y = new FixtureTables();
        y.table();
        y.table();
        y.column(0, 3, false, -1);
        y.column(1, 3, false, -1);
        y.column(1, 3, false, 0);
        Due.inserted(y, "0(0):f;1(01):f,~:t,~;");
        Due.applied(y, "0(0);", DELETE_ALL, 1);
    }

    /** "Checks, in this order": each row breaks all that are behind the one it fails by. */
    private static void checksOfInsert() {
        failed(12, true, "1(02):~,9;", INSERT, 1, 1, 0, 0);
        failed(12, true, "1(2):9;", INSERT, 1, 1, 0, 0);
        failed(12, true, "1(02):12,9;", INSERT, 2, 1, 0, -1);
        failed(12, true, "1(02):13,9;", INSERT, 1, 1, 0, 1);
        failed(12, true, "1(012):13,~,9;", INSERT, 1, 1, 0, 1);
        failed(12, true, "1(012):13,0,9;", INSERT, 3, 1, 0, 2);
        failed(12, true, "1(012):13,0,1;", INSERT, 6, 1, 0, -1);
        failed(11, true, "1(012):13,0,1;", INSERT, 7, 1, 0, -1);
        failed(12, false, "1(012):13,0,1;", INSERT, 6, 1, 0, -1);
        done(11, false, "1(012):13,0,1;", INSERT, 1);
        FixtureTables x = new FixtureTables();
        x.table();
        x.column(0, 0, false, -1);
        x.column(0, 0, false, 0);
        x.column(0, 0, true, -1);
        Due.fails(x, "0(01):1,9;", INSERT, 1, 0, 0, 2);
        Due.fails(x, "0(012):1,9,1;", INSERT, 3, 0, 0, 1);
    }

    private static void checksOfUpdate() {
        failed(12, true, "1(012):~,~,9;", UPDATE, 1, 1, 0, 0);
        failed(12, true, "1(012):13,~,9;", UPDATE, 5, 1, 0, -1);
        failed(12, true, "1(012):12,~,9;", UPDATE, 1, 1, 0, 1);
        failed(12, true, "1(012):12,0,9;", UPDATE, 3, 1, 0, 2);
        failed(12, true, "1(012):12,0,1;", UPDATE, 7, 1, 0, -1);
        done(12, false, "1(012):12,0,1;", UPDATE, 1);
    }

    private static void checksOfRefresh() {
        failed(12, true, "1(012):~,~,9;", REFRESH, 1, 1, 0, 0);
        failed(12, true, "1(012):13,~,9;", REFRESH, 1, 1, 0, 1);
        failed(12, true, "1(012):13,0,9;", REFRESH, 3, 1, 0, 2);
        failed(12, true, "1(012):13,0,1;", REFRESH, 6, 1, 0, -1);
        failed(11, true, "1(012):13,0,1;", REFRESH, 7, 1, 0, -1);
        failed(12, true, "1(012):12,~,9;", REFRESH, 1, 1, 0, 1);
        failed(12, true, "1(012):12,0,9;", REFRESH, 3, 1, 0, 2);
        failed(12, true, "1(012):12,0,1;", REFRESH, 7, 1, 0, -1);
        done(12, false, "1(012):12,0,1;", REFRESH, 1);
    }

    private static void checksOfDelete() {
        failed(12, true, "1(012):~,~,9;", DELETE, 1, 1, 0, 0);
        failed(12, true, "0(0):1;", DELETE, 4, 0, 0, -1);
        failed(12, true, "0(0):2;", DELETE, 7, 0, 0, -1);
        done(12, true, "0(0):3;1(012):13,~,9;", DELETE, 0);
        done(12, false, "0(0):2;1(012):12,~,9;", DELETE, 2);
    }

    private static void checksOfDeleteAll() {
        failed(12, true, "0(0):~;", DELETE_ALL, 4, 0, -1, -1);
        failed(12, true, "0(0):~;1(1):~;", DELETE_ALL, 7, 1, -1, -1);
        failed(0, true, "0(0):~;1(1):~;", DELETE_ALL, 7, 0, -1, -1);
        done(0, true, "1(1):~;", DELETE_ALL, 0);
        done(12, false, "1(1):~;", DELETE_ALL, 12);
    }

    private static void checksOfCleanInsert() {
        failed(12, true, "0(0):~;", CLEAN_INSERT, 4, 0, -1, -1);
        failed(12, true, "1(0):~;", CLEAN_INSERT, 7, 1, -1, -1);
        failed(0, true, "1(02):~,9;", CLEAN_INSERT, 1, 1, 0, 0);
        failed(0, true, "1(02):1,9;", CLEAN_INSERT, 1, 1, 0, 1);
        failed(0, true, "1(012):1,0,9;", CLEAN_INSERT, 3, 1, 0, 2);
        failed(0, true, "1(012):1,0,1;", CLEAN_INSERT, 7, 1, 0, -1);
        failed(12, false, "1(012):1,0,1:1,~,9;", CLEAN_INSERT, 2, 1, 1, -1);
    }

    /** "Each row (of 4 each table) is CHECKED as it is changed": a row's last check is before the next one's first. */
    private static void rowsBeforeChecks() {
        failed(12, false, "1(01):13,0:~,0;", INSERT, 6, 1, 0, -1);
        failed(12, false, "1(01):~,0:13,0;", INSERT, 1, 1, 0, 0);
        failed(11, true, "1(01):13,0:~,0;", INSERT, 7, 1, 0, -1);
        failed(1, false, "1(02):1,9:~,9;", UPDATE, 3, 1, 0, 2);
        failed(1, false, "0(0):1:~;", DELETE, 4, 0, 0, -1);
        failed(1, false, "0(0):~:1;", DELETE, 1, 0, 0, 0);
    }

    /** "tables in order", whatever the order of their sections */
    private static void tablesBeforeRows() {
        failed(1, false, "1(0):~;0(0):1;", INSERT, 2, 0, 1, -1);
        failed(1, false, "1(0):~;0(0):9;", UPDATE, 5, 0, 1, -1);
        failed(1, false, "1(0):~;0(0):~;", REFRESH, 1, 0, 1, 0);
        failed(1, false, "0(0):~;1(0):~;", DELETE, 1, 1, 1, 0);
        failed(1, false, "0(0):1;1(0):~;", DELETE, 1, 1, 1, 0);
    }

    /** "the dataset's row, counted over all sections from 0 on" */
    private static void rowsOverAllSections() {
        failed(1, false, "1(01):2,0;0(0):3;1(0);1(01):3,0:4,0;0(0):4:3;", INSERT, 2, 0, 5, -1);
        failed(1, false, "0(0);0(0);0(0):3;1(0);0(0):4;1(01):1,0;", INSERT, 2, 1, 2, -1);
        failed(1, false, "0(0):9;1(01):2,0;0(0):~;", INSERT, 1, 0, 2, 0);
        failed(1, false, "0(0):9;1(01):2,0;0(0):8;1(0):3;", INSERT, 1, 1, 3, 1);
    }

    /** "(2; -1 for operation 4, also as a part of 5)" */
    private static void rowsOfOperationFour() {
        String text = "0(0):3;";
        failed(1, false, text, DELETE_ALL, 4, 0, -1, -1);
        failed(1, false, text, CLEAN_INSERT, 4, 0, -1, -1);
        failed(0, true, text, DELETE_ALL, 7, 0, -1, -1);
        failed(0, true, text, CLEAN_INSERT, 7, 0, -1, -1);
        failed(0, false, "0(0):3:3;", CLEAN_INSERT, 2, 0, 1, -1);
        failed(0, true, "1(01):3,0;", CLEAN_INSERT, 7, 1, 0, -1);
    }

    /** "(3; -1 but for checks 1 and 3)" */
    private static void columnsOfChecks() {
        failed(12, false, "1(01):~,0;", INSERT, 1, 1, 0, 0);
        failed(12, false, "1(01):12,0;", INSERT, 2, 1, 0, -1);
        failed(12, false, "1(012):13,0,3;", INSERT, 3, 1, 0, 2);
        failed(12, false, "0(0):1;", DELETE, 4, 0, 0, -1);
        failed(12, false, "1(01):13,0;", UPDATE, 5, 1, 0, -1);
        failed(12, false, "1(01):13,0;", REFRESH, 6, 1, 0, -1);
        failed(12, true, "1(01):12,0;", REFRESH, 7, 1, 0, -1);
    }

    /** The last table, the last row and the last column that there can be. */
    private static void farthestAnswers() {
        FixtureTables x = new FixtureTables();
        for (int table = 0; table < 5; table++) {
            x.table();
            for (int column = 0; column < 5; column++) {
                x.column(table, 3, false, column == 4 ? table : -1);
            }
        }
        Due.read(x, "4(0)" + ":t".repeat(23) + ";4(04):f,t;");
        Due.raises("REFRESH", 0, () -> x.apply(REFRESH));
        Due.read(x, "4(0)" + ":f".repeat(23) + ";4(0):~;");
        Due.raises("REFRESH", Due.ISE, () -> x.apply(REFRESH));
        Due.failure(x, "of the 24th row", 1, 4, 23, 0);
        Due.applied(x, "4(0);", DELETE_ALL, 2);
        Due.read(x, "4(0)" + ":f".repeat(23) + ";4(04):f,t;");
        Due.raises("REFRESH", Due.ISE, () -> x.apply(REFRESH));
        Due.failure(x, "of the 24th row's last column", 3, 4, 23, 4);
        Due.is("nothing was done", 0, () -> x.rows(4));
    }

    /** "-1 for other whats." */
    private static void otherWhats() {
        for (int what : Due.outside(4)) {
            Twins.answered("failure(" + what + ")", -1, () -> Twins.rich(1), x -> x.failure(what));
            Twins.answered("failure(" + what + ")", -1, FixtureTables::new, x -> x.failure(what));
        }
        int[] want = {2, 0, 1, -1};
        for (int what = 0; what < 4; what++) {
            int number = what;
            Twins.answered("failure(" + what + ")", want[what], () -> Twins.rich(1), x -> x.failure(number));
        }
    }

    /** "0, -1, -1, -1 if it did not (also if it threw for another reason), or there was none" */
    private static void ifItDidNotFail() {
        FixtureTables x = alike(0, 2, false, false);
        Due.failure(x, "there was none", 0, -1, -1, -1);
        Due.fails(x, "0(0):~;", INSERT, 1, 0, 0, 0);
        Due.applied(x, "0(0):1;", INSERT, 1);
        Due.fails(x, "0(0):1;", INSERT, 2, 0, 0, -1);
        Due.raises("no such operation", Due.IAE, () -> x.apply(6));
        Due.failure(x, "it threw for another reason", 0, -1, -1, -1);
        Due.fails(x, "0(0):2;", UPDATE, 5, 0, 0, -1);
        x.table();
        x.column(1, 0, false, -1);
        Due.failure(x, "other calls leave it", 5, 0, 0, -1);
        Due.raises("no dataset", Due.ISE, () -> x.apply(INSERT));
        Due.failure(x, "it threw for another reason", 0, -1, -1, -1);
        Due.fails(x, "0(0):~;", DELETE, 1, 0, 0, 0);
        x.begin();
        x.rollback();
        x.compare(0, 0);
        x.write(0);
        Due.raises("read", Due.IAE, () -> x.rows(x.type('!') ? x.read() : 0));
        Due.failure(x, "other calls leave it", 1, 0, 0, 0);
        Due.applied(x, "", DELETE_ALL, 0);
    }
}
