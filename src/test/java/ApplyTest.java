/** Promises 9 (apply), 10 (failure), 12 (value) and 13 (isNull). */
public final class ApplyTest {
    private static final int INSERT = 0;
    private static final int UPDATE = 1;
    private static final int REFRESH = 2;
    private static final int DELETE = 3;
    private static final int DELETE_ALL = 4;
    private static final int CLEAN_INSERT = 5;

    public static void main(String[] args) {
        wrongOperations();
        insert();
        insertInOrder();
        update();
        refresh();
        delete();
        deleteAll();
        cleanInsert();
        nullKeys();
        doubles();
        noRow();
        required();
        noParent();
        ownParent();
        keyThatRefers();
        child();
        childIsTheLesserTable();
        full();
        greatest();
        checksInOrder();
        allOrNothing();
        failureIsForgotten();
        keysInOrder();
        places();
        Due.end();
    }

    /** 0: integer key, required text; 1: text key, required reference to 0, decimal. */
    private static FixtureTables parentAndChild() {
        FixtureTables x = new FixtureTables();
        x.table();
        x.table();
        x.column(0, 0, false, -1);
        x.column(0, 2, true, -1);
        x.column(1, 2, false, -1);
        x.column(1, 0, true, 0);
        x.column(1, 1, false, -1);
        return x;
    }

    /** Integer key, three integers that may be null. */
    private static FixtureTables single() {
        FixtureTables x = new FixtureTables();
        x.table();
        x.column(0, 0, false, -1);
        x.column(0, 0, false, -1);
        x.column(0, 0, false, -1);
        return x;
    }

    private static void wrongOperations() {
        FixtureTables x = single();
        Due.raises("apply(-1)", Due.IAE, () -> x.apply(-1));
        Due.raises("apply(6)", Due.IAE, () -> x.apply(6));
        for (int operation = 0; operation < 6; operation++) {
            int number = operation;
            Due.raises("apply without a dataset", Due.ISE, () -> x.apply(number));
            Due.failure(x, "without a dataset", 0, -1, -1, -1);
        }
    }

    private static void insert() {
        FixtureTables x = single();
        Due.applied(x, "0(0):3;0(20):5,1:6,2;", INSERT, 3);
        Due.table(x, 0, "0(012):1,~,5:2,~,6:3,~,~;");
        Due.is("a value", 5, () -> x.value(0, 0, 2));
        Due.is("a null's value", 0, () -> x.value(0, 2, 2));
        Due.is("a null", 1, () -> x.isNull(0, 2, 2) ? 1 : 0);
        Due.is("no null", 0, () -> x.isNull(0, 0, 2) ? 1 : 0);
    }

    private static void insertInOrder() {
        FixtureTables x = parentAndChild();
        Due.applied(x, "1(012):b,1,~:a,2,-1.5;0(01):2,x:1,y;1(10):1,c;", INSERT, 5);
        Due.table(x, 0, "0(01):1,y:2,x;");
        Due.table(x, 1, "1(012):a,2,-1.50:b,1,~:c,1,~;");
    }

    private static void update() {
        FixtureTables x = single();
        Due.applied(x, "0(012):1,2,3:4,5,6;", INSERT, 2);
        Due.applied(x, "0(20):9,4;0(0):1;", UPDATE, 2);
        Due.table(x, 0, "0(012):1,2,3:4,5,9;");
        Due.applied(x, "0(01):1,~:1,7:4,5;", UPDATE, 3);
        Due.table(x, 0, "0(012):1,7,3:4,5,9;");
        Due.applied(x, "0(012):1,~,~;", UPDATE, 1);
        Due.table(x, 0, "0(012):1,~,~:4,5,9;");
    }

    private static void refresh() {
        FixtureTables x = single();
        Due.applied(x, "0(012):1,2,3;", REFRESH, 1);
        Due.applied(x, "0(01):1,9:0,8:0,7;", REFRESH, 3);
        Due.table(x, 0, "0(012):0,7,~:1,9,3;");
    }

    private static void delete() {
        FixtureTables x = single();
        Due.applied(x, "0(0):1:2:3:4;", INSERT, 4);
        Due.applied(x, "0(10):8,2:8,9:8,2;", DELETE, 1);
        Due.table(x, 0, "0(012):1,~,~:3,~,~:4,~,~;");
        Due.applied(x, "0(0):4:1;", DELETE, 2);
        Due.table(x, 0, "0(012):3,~,~;");
        FixtureTables y = parentAndChild();
        Due.applied(y, "0(01):1,x:2,y;1(01):a,1:b,2;", INSERT, 4);
        Due.applied(y, "0(0):1;1(0):a;", DELETE, 2);
        Due.table(y, 0, "0(01):2,y;");
        Due.table(y, 1, "1(012):b,2,~;");
    }

    private static void deleteAll() {
        FixtureTables x = parentAndChild();
        Due.applied(x, "0(01):1,x:2,y;1(01):a,1;", INSERT, 3);
        Due.applied(x, "", DELETE_ALL, 0);
        Due.applied(x, "0(1):~;1(2);0(0);", DELETE_ALL, 3);
        Due.is("rows(0)", 0, () -> x.rows(0));
        Due.is("rows(1)", 0, () -> x.rows(1));
        Due.applied(x, "0(0);", DELETE_ALL, 0);
        Due.applied(x, "0(01):1,x;1(01):a,1;", INSERT, 2);
        Due.applied(x, "1(0):zzz;", DELETE_ALL, 1);
        Due.table(x, 0, "0(01):1,x;");
    }

    private static void cleanInsert() {
        FixtureTables x = parentAndChild();
        Due.applied(x, "0(01):1,x:2,y;1(01):a,1;", CLEAN_INSERT, 3);
        Due.applied(x, "1(01):b,2;0(01):2,z;", CLEAN_INSERT, 5);
        Due.table(x, 0, "0(01):2,z;");
        Due.table(x, 1, "1(012):b,2,~;");
        Due.applied(x, "1(0);", CLEAN_INSERT, 1);
        Due.is("rows(1)", 0, () -> x.rows(1));
        Due.applied(x, "0(01):1,x;", CLEAN_INSERT, 2);
        Due.fails(x, "0(01):1,x:1,y;", CLEAN_INSERT, 2, 0, 1, -1);
        Due.table(x, 0, "0(01):1,x;");
    }

    private static void nullKeys() {
        FixtureTables x = single();
        Due.applied(x, "0(0):1;", INSERT, 1);
        for (int operation = INSERT; operation <= DELETE; operation++) {
            Due.fails(x, "0(10):5,~;", operation, 1, 0, 0, 0);
            Due.fails(x, "0(1):5;", operation, 1, 0, 0, 0);
            Due.applied(x, "0(1);", operation, 0);
        }
        Due.fails(x, "0(0):2:~;", INSERT, 1, 0, 1, 0);
        Due.fails(x, "0(0):2:~;", CLEAN_INSERT, 1, 0, 1, 0);
        Due.table(x, 0, "0(012):1,~,~;");
        Due.applied(x, "0(0):~;", DELETE_ALL, 1);
    }

    private static void doubles() {
        FixtureTables x = single();
        Due.applied(x, "0(0):1;", INSERT, 1);
        Due.fails(x, "0(0):2;0(0):3:1;", INSERT, 2, 0, 2, -1);
        Due.fails(x, "0(0):2:2;", INSERT, 2, 0, 1, -1);
        Due.fails(x, "0(0):-0:0;", INSERT, 2, 0, 1, -1);
        FixtureTables y = Due.keys(1, 1);
        Due.fails(y, "0(0):1.5:1.50;", INSERT, 2, 0, 1, -1);
        FixtureTables z = Due.keys(1, 2);
        Due.fails(z, "0(0):a:'a';", INSERT, 2, 0, 1, -1);
        FixtureTables b = Due.keys(1, 3);
        Due.fails(b, "0(0):f:t:f;", INSERT, 2, 0, 2, -1);
    }

    private static void noRow() {
        FixtureTables x = single();
        Due.applied(x, "0(0):1;", INSERT, 1);
        Due.fails(x, "0(01):1,5:2,5;", UPDATE, 5, 0, 1, -1);
        Due.table(x, 0, "0(012):1,~,~;");
    }

    private static void required() {
        FixtureTables x = parentAndChild();
        Due.fails(x, "0(0):1;", INSERT, 1, 0, 0, 1);
        Due.fails(x, "0(01):1,~;", INSERT, 1, 0, 0, 1);
        Due.fails(x, "0(0):1;", REFRESH, 1, 0, 0, 1);
        Due.applied(x, "0(01):1,'';", INSERT, 1);
        Due.fails(x, "0(01):1,~;", UPDATE, 1, 0, 0, 1);
        Due.fails(x, "0(01):1,~;", REFRESH, 1, 0, 0, 1);
        Due.applied(x, "0(0):1;", UPDATE, 1);
        Due.applied(x, "0(0):1;", REFRESH, 1);
        Due.table(x, 0, "0(01):1,'';");
    }

    private static void noParent() {
        FixtureTables x = parentAndChild();
        Due.applied(x, "0(01):1,x;1(01):a,1;", INSERT, 2);
        Due.fails(x, "1(01):b,2;", INSERT, 3, 1, 0, 1);
        Due.fails(x, "1(01):b,1:a,2;", REFRESH, 3, 1, 1, 1);
        Due.fails(x, "1(01):a,2;", UPDATE, 3, 1, 0, 1);
        Due.fails(x, "1(01):b,2;0(01):1,y;", REFRESH, 3, 1, 0, 1);
        Due.applied(x, "1(01):b,2;0(01):2,y;", REFRESH, 2);
        FixtureTables y = single();
        y.table();
        y.column(1, 0, false, 0);
        y.column(1, 0, false, 0);
        Due.applied(y, "0(0):1;", INSERT, 1);
        Due.applied(y, "1(01):1,~;", INSERT, 1);
        Due.fails(y, "1(01):2,7;", INSERT, 3, 1, 0, 0);
    }

    private static void ownParent() {
        FixtureTables x = new FixtureTables();
        x.table();
        x.column(0, 0, false, -1);
        x.column(0, 0, true, 0);
        Due.applied(x, "0(01):1,1:2,1:3,2;", INSERT, 3);
        Due.fails(x, "0(01):4,5:5,5;", INSERT, 3, 0, 0, 1);
        Due.applied(x, "0(01):5,5:4,5;", INSERT, 2);
        Due.applied(x, "0(01):1,5;", UPDATE, 1);
        Due.applied(x, "0(01):1,1;", UPDATE, 1);
        Due.fails(x, "0(01):1,9;", UPDATE, 3, 0, 0, 1);
        Due.fails(x, "0(0):1;", DELETE, 4, 0, 0, -1);
        Due.fails(x, "0(0):3:1:2;", DELETE, 4, 0, 1, -1);
        Due.is("rows(0)", 5, () -> x.rows(0));
        Due.applied(x, "0(0):3:2:1;", DELETE, 3);
        Due.applied(x, "0(0);", DELETE_ALL, 2);
    }

    private static void keyThatRefers() {
        FixtureTables x = new FixtureTables();
        x.table();
        x.table();
        x.column(0, 0, false, 0);
        x.column(1, 0, false, 0);
        Due.fails(x, "1(0):1;", INSERT, 3, 1, 0, 0);
        Due.applied(x, "1(0):1;0(0):1:2;", INSERT, 3);
        Due.fails(x, "0(0):1;", DELETE, 4, 0, 0, -1);
        Due.applied(x, "0(0):2;", DELETE, 1);
        Due.applied(x, "0(0):1;1(0):1;", DELETE, 2);
    }

    private static void child() {
        FixtureTables x = parentAndChild();
        Due.applied(x, "0(01):1,x:2,y;1(01):a,1;", INSERT, 3);
        Due.fails(x, "0(0):2:1;", DELETE, 4, 0, 1, -1);
        Due.is("rows(0)", 2, () -> x.rows(0));
        Due.fails(x, "0(0):2:1;", DELETE_ALL, 4, 0, -1, -1);
        Due.fails(x, "0(01):1,z;", CLEAN_INSERT, 4, 0, -1, -1);
        Due.table(x, 0, "0(01):1,x:2,y;");
        Due.applied(x, "0(0):2;", DELETE, 1);
        Due.applied(x, "0(0):9;", DELETE, 0);
        Due.fails(x, "0(1);", DELETE_ALL, 4, 0, -1, -1);
        Due.applied(x, "1(2);", DELETE_ALL, 1);
        Due.applied(x, "0(1);", DELETE_ALL, 1);
    }

    private static void childIsTheLesserTable() {
        FixtureTables x = new FixtureTables();
        x.table();
        x.table();
        x.column(1, 3, false, -1);
        x.column(0, 3, false, -1);
        x.column(0, 3, false, 1);
        Due.applied(x, "0(01):t,f;1(0):t:f;", INSERT, 3);
        Due.fails(x, "1(0):t:f;", DELETE, 4, 1, 1, -1);
        Due.fails(x, "1(0);", DELETE_ALL, 4, 1, -1, -1);
        Due.applied(x, "1(0):t:f;0(0):t;", CLEAN_INSERT, 6);
        Due.applied(x, "1(0);", DELETE_ALL, 2);
    }

    private static void full() {
        FixtureTables x = single();
        Due.applied(x, "0(0):1:2:3:4:5:6:7:8:9:10:11:12;", INSERT, 12);
        Due.fails(x, "0(0):13;", INSERT, 6, 0, 0, -1);
        Due.fails(x, "0(01):3,4:13,5;", REFRESH, 6, 0, 1, -1);
        Due.fails(x, "0(0):12;", INSERT, 2, 0, 0, -1);
        Due.applied(x, "0(01):12,5;", REFRESH, 1);
        Due.fails(x, "0(0):0:1:2:3:4:5:6:7:8:9:10:11:12;", CLEAN_INSERT, 6, 0, 12, -1);
        Due.is("rows(0)", 12, () -> x.rows(0));
        Due.is("the last key", 12, () -> x.value(0, 11, 0));
        Due.is("the last row's value", 5, () -> x.value(0, 11, 1));
        Due.applied(x, "0(0):6;", DELETE, 1);
        Due.applied(x, "0(0):13;", INSERT, 1);
        Due.is("the last key", 13, () -> x.value(0, 11, 0));
    }

    /** As many tables, columns and rows as there can be. */
    private static void greatest() {
        FixtureTables x = new FixtureTables();
        for (int table = 0; table < 5; table++) {
            x.table();
            for (int column = 0; column < 5; column++) {
                x.column(table, 0, false, column == 4 ? table : -1);
            }
        }
        Due.applied(x, "4(04):1,1:2,1:3,3:4,~:5,~:6,~:7,~:8,~:9,~:10,~:11,~:12,12;", INSERT, 12);
        Due.fails(x, "4(0):1;", DELETE, 4, 4, 0, -1);
        Due.fails(x, "4(0):13;", REFRESH, 6, 4, 0, -1);
        Due.fails(x, "4(04):12,13;", UPDATE, 3, 4, 0, 4);
        Due.applied(x, "4(04):12,11;", UPDATE, 1);
        Due.is("the last row's last value", 11, () -> x.value(4, 11, 4));
        Due.applied(x, "4(0):5;", DELETE, 1);
        Due.is("the last key", 12, () -> x.value(4, 10, 0));
        Due.applied(x, "4(01234):0,1,2,3,4;", INSERT, 1);
        Due.is("the last key", 12, () -> x.value(4, 11, 0));
        Due.applied(x, "4(4);", DELETE_ALL, 12);
    }

    /** One row that breaks more than one check fails by the first one. */
    private static void checksInOrder() {
        FixtureTables x = new FixtureTables();
        x.table();
        x.column(0, 0, true, -1);
        x.column(0, 0, false, 0);
        x.column(0, 0, true, -1);
        x.column(0, 0, true, 0);
        Due.fails(x, "0(1):9;", INSERT, 1, 0, 0, 0);
        Due.fails(x, "0(01):1,9;", INSERT, 1, 0, 0, 2);
        Due.fails(x, "0(012):1,9,1;", INSERT, 1, 0, 0, 3);
        Due.fails(x, "0(0123):1,9,1,9;", INSERT, 3, 0, 0, 1);
        Due.fails(x, "0(0123):1,1,1,9;", INSERT, 3, 0, 0, 3);
        Due.applied(x, "0(0123):1,~,1,1;", INSERT, 1);
        Due.fails(x, "0(0):1;", INSERT, 2, 0, 0, -1);
        Due.fails(x, "0(02):2,~;", UPDATE, 5, 0, 0, -1);
        Due.fails(x, "0(0123):1,9,~,9;", UPDATE, 1, 0, 0, 2);
        FixtureTables y = new FixtureTables();
        y.table();
        y.column(0, 0, true, -1);
        y.column(0, 0, false, 0);
        y.column(0, 3, true, -1);
        Due.applied(y, "0(02):1,t:2,t:3,t:4,t:5,t:6,t:7,t:8,t:9,t:10,t:11,t:12,t;", INSERT, 12);
        Due.fails(y, "0(0):13;", INSERT, 1, 0, 0, 2);
        Due.fails(y, "0(012):13,14,t;", INSERT, 3, 0, 0, 1);
        Due.fails(y, "0(012):13,13,t;", INSERT, 6, 0, 0, -1);
    }

    private static void allOrNothing() {
        FixtureTables x = parentAndChild();
        Due.applied(x, "0(01):5,x;", INSERT, 1);
        Due.fails(x, "1(01):a,5:b,6;0(01):4,a:7,b;", INSERT, 3, 1, 1, 1);
        Due.table(x, 0, "0(01):5,x;");
        Due.table(x, 1, "1(012);");
        Due.fails(x, "0(01):5,y:5,~;", UPDATE, 1, 0, 1, 1);
        Due.table(x, 0, "0(01):5,x;");
        Due.fails(x, "0(0):~;0(0):5;1(0):~;", DELETE, 1, 1, 2, 0);
        Due.fails(x, "0(0):5:~;", DELETE, 1, 0, 1, 0);
        Due.table(x, 0, "0(01):5,x;");
        Due.applied(x, "1(01):a,5;", INSERT, 1);
    }

    private static void failureIsForgotten() {
        FixtureTables x = single();
        Due.fails(x, "0(0):~;", INSERT, 1, 0, 0, 0);
        Due.is("failure(-1)", -1, () -> x.failure(-1));
        Due.is("failure(4)", -1, () -> x.failure(4));
        Due.is("failure of the greatest", -1, () -> x.failure(Integer.MAX_VALUE));
        Due.is("failure of the least", -1, () -> x.failure(Integer.MIN_VALUE));
        Due.failure(x, "asked again", 1, 0, 0, 0);
        Due.dataset(x, "0(0):1;", 1);
        Due.failure(x, "read leaves it", 1, 0, 0, 0);
        Due.raises("no such operation", Due.IAE, () -> x.apply(6));
        Due.failure(x, "no such operation", 0, -1, -1, -1);
        Due.fails(x, "0(0):~;", INSERT, 1, 0, 0, 0);
        x.column(0, 0, false, -1);
        Due.failure(x, "column leaves it", 1, 0, 0, 0);
        Due.raises("no dataset", Due.ISE, () -> x.apply(0));
        Due.failure(x, "no dataset", 0, -1, -1, -1);
        Due.fails(x, "0(0):~;", INSERT, 1, 0, 0, 0);
        Due.applied(x, "0(0):1;", INSERT, 1);
    }

    private static void keysInOrder() {
        FixtureTables x = Due.keys(1, 0);
        Due.applied(x, "0(0):10:-2:9:0:-10;", INSERT, 5);
        Due.table(x, 0, "0(0):-10:-2:0:9:10;");
        FixtureTables y = Due.keys(1, 1);
        Due.applied(y, "0(0):10:-2:9.99:0:-2.01:0.01;", INSERT, 6);
        Due.table(y, 0, "0(0):-2.01:-2.00:0.00:0.01:9.99:10.00;");
        FixtureTables z = Due.keys(1, 2);
        Due.applied(z, "0(0):b:ab:a:'':'~':'B':aa:' ':'a ':aaaaaaaa:aaaaaaab;", INSERT, 11);
        Due.table(z, 0, "0(0):'':' ':'B':a:'a ':aa:aaaaaaaa:aaaaaaab:ab:b:'~';");
        FixtureTables b = Due.keys(1, 3);
        Due.applied(b, "0(0):t:f;", INSERT, 2);
        Due.is("false first", 0, () -> b.value(0, 0, 0));
        Due.is("true behind it", 1, () -> b.value(0, 1, 0));
    }

    private static void places() {
        FixtureTables x = single();
        x.table();
        Due.applied(x, "0(0):1:2;", INSERT, 2);
        int[][] wrong = {{-1, 0, 0}, {2, 0, 0}, {1, 0, 0}, {0, -1, 0}, {0, 2, 0}, {0, 0, -1}, {0, 0, 3},
            {Integer.MAX_VALUE, 0, 0}, {0, Integer.MIN_VALUE, 0}, {0, 0, Integer.MAX_VALUE}};
        for (int[] place : wrong) {
            Due.raises("value", Due.IOOBE, () -> x.value(place[0], place[1], place[2]));
            Due.raises("isNull", Due.IOOBE, () -> x.isNull(place[0], place[1], place[2]) ? 1 : 0);
        }
        Due.is("the last one's value", 2, () -> x.value(0, 1, 0));
        Due.is("the last column is null", 1, () -> x.isNull(0, 1, 2) ? 1 : 0);
    }
}
