/** Promises 17 (compare) and 18 (difference). */
public final class CompareTest {
    public static void main(String[] args) {
        wrongCalls();
        equalRows();
        counts();
        rowsByKeys();
        nullAndEqualKeys();
        rowsWithoutKeys();
        cellsInTheSectionsOrder();
        nulls();
        deltas();
        ignoredColumns();
        manySections();
        manyDifferences();
        whenDifferencesGo();
        Due.end();
    }

    /** Integer key, decimal, text, boolean. */
    private static FixtureTables table(String rows) {
        FixtureTables x = new FixtureTables();
        x.table();
        x.column(0, 0, false, -1);
        x.column(0, 1, false, -1);
        x.column(0, 2, false, -1);
        x.column(0, 3, false, -1);
        Due.text(x, rows);
        x.read();
        x.apply(0);
        return x;
    }

    private static void compared(FixtureTables x, String text, long delta, int ignored, int want) {
        Due.text(x, text);
        Due.raises("read of " + text, 0, () -> x.read());
        Due.is("compare with " + text, want, () -> x.compare(delta, ignored));
        Due.raises("the difference behind the last", Due.IOOBE, () -> x.difference(want, 0));
    }

    private static void wrongCalls() {
        FixtureTables x = new FixtureTables();
        Due.raises("no dataset", Due.ISE, () -> x.compare(0, 0));
        Due.raises("no dataset and delta below 0", Due.IAE, () -> x.compare(-1, 0));
        x.table();
        x.column(0, 0, false, -1);
        Due.dataset(x, "0(0):1;", 1);
        Due.raises("no compare yet", Due.IOOBE, () -> x.difference(0, 0));
        Due.raises("no compare yet, and no such what", Due.IOOBE, () -> x.difference(0, 3));
        Due.raises("delta below 0", Due.IAE, () -> x.compare(-1, 0));
        Due.raises("delta far below 0", Due.IAE, () -> x.compare(Long.MIN_VALUE, 0));
        Due.is("compare", 1, () -> x.compare(Long.MAX_VALUE, 0));
        Due.raises("difference(-1)", Due.IOOBE, () -> x.difference(-1, 0));
        Due.raises("difference(1)", Due.IOOBE, () -> x.difference(1, 0));
        Due.raises("difference(1), no such what", Due.IOOBE, () -> x.difference(1, 3));
        Due.raises("what -1", Due.IAE, () -> x.difference(0, -1));
        Due.raises("what 3", Due.IAE, () -> x.difference(0, 3));
        Due.difference(x, 0, 0, -1, -1);
        Due.raises("delta below 0", Due.IAE, () -> x.compare(-1, 0));
        Due.difference(x, 0, 0, -1, -1);
    }

    private static void equalRows() {
        FixtureTables x = table("0(0123):1,1.5,a,t:2,~,'',f;");
        compared(x, "0(0123):1,1.5,a,t:2,~,'',f;", 0, 0, 0);
        compared(x, "0(3012):f,2,~,'':t,01,1.50,'a';", 0, 0, 0);
        compared(x, "", 0, 0, 0);
    }

    private static void counts() {
        FixtureTables x = table("0(0):1:2;");
        compared(x, "0(0);", 0, 0, 1);
        Due.difference(x, 0, 0, -1, -1);
        compared(x, "0(0):1;", 0, 0, 1);
        Due.difference(x, 0, 0, -1, -1);
        compared(x, "0(0):2;", 0, 0, 2);
        Due.difference(x, 0, 0, -1, -1);
        Due.difference(x, 1, 0, 0, 0);
        compared(x, "0(0):3:2:1;", 0, 0, 1);
        compared(x, "0(0):1:2;0(0):2:1:3;", 0, 0, 1);
        Due.difference(x, 0, 1, -1, -1);
        compared(x, "0(0):7;", 0, 31, 1);
        Due.difference(x, 0, 0, -1, -1);
    }

    private static void rowsByKeys() {
        FixtureTables x = table("0(01):1,1:2,2:3,3:10,4;");
        compared(x, "0(10):4,10:3,3:9,2:1,1;", 0, 0, 1);
        Due.difference(x, 0, 0, 1, 1);
        compared(x, "0(10):1,-5:4,10:3,3:2,2;", 0, 0, 1);
        Due.difference(x, 0, 0, 0, 0);
        compared(x, "0(10):4,10:3,3:9,2:1,1;", 0, 1, 1);
        Due.difference(x, 0, 0, 1, 1);
    }

    private static void nullAndEqualKeys() {
        FixtureTables x = table("0(01):1,1:2,2:3,3:4,4;");
        compared(x, "0(01):-7,3:~,1:-7,4:~,2;", 0, 1, 0);
        compared(x, "0(01):-7,3:~,2:-7,4:~,1;", 0, 1, 2);
        Due.difference(x, 0, 0, 0, 1);
        Due.difference(x, 1, 0, 1, 1);
        compared(x, "0(01):5,4:~,1:5,3:~,2;", 0, 1, 2);
        Due.difference(x, 0, 0, 2, 1);
        Due.difference(x, 1, 0, 3, 1);
        compared(x, "0(01):0,2:~,1:7,3:8,4;", 0, 1, 0);
    }

    private static void rowsWithoutKeys() {
        FixtureTables x = table("0(01):1,30:2,10:3,20;");
        compared(x, "0(1):30:10:20;", 0, 0, 0);
        compared(x, "0(1):10:20:30;", 0, 0, 3);
        Due.difference(x, 0, 0, 0, 1);
        Due.difference(x, 2, 0, 2, 1);
    }

    private static void cellsInTheSectionsOrder() {
        FixtureTables x = table("0(0123):1,1,a,t:2,2,b,f;");
        compared(x, "0(3201):t,c,2,3:f,b,1,7;", 0, 0, 6);
        Due.difference(x, 0, 0, 0, 3);
        Due.difference(x, 1, 0, 0, 2);
        Due.difference(x, 2, 0, 0, 1);
        Due.difference(x, 3, 0, 1, 3);
        Due.difference(x, 4, 0, 1, 2);
        Due.difference(x, 5, 0, 1, 1);
    }

    private static void nulls() {
        FixtureTables x = table("0(0123):1,0,'',f:2,~,~,~;");
        compared(x, "0(0123):1,~,~,~:2,0,'',f;", 0, 0, 6);
        compared(x, "0(0123):1,~,~,~:2,0,'',f;", Long.MAX_VALUE, 0, 6);
        Due.difference(x, 0, 0, 0, 1);
        Due.difference(x, 5, 0, 1, 3);
        compared(x, "0(0123):1,0,'',f:2,~,~,~;", 0, 0, 0);
    }

    private static void deltas() {
        FixtureTables x = table("0(0123):1,1.5,a,f:5,-999999.99,b,t;");
        compared(x, "0(01):1,1.6:5,-999999.99;", 9, 0, 1);
        Due.difference(x, 0, 0, 0, 1);
        compared(x, "0(01):1,1.6:5,-999999.99;", 10, 0, 0);
        compared(x, "0(01):1,1.4:5,-999999.99;", 9, 0, 1);
        compared(x, "0(01):1,1.4:5,-999999.99;", 10, 0, 0);
        compared(x, "0(01):1,1.5:5,999999.99;", 199999997, 0, 1);
        compared(x, "0(01):1,1.5:5,999999.99;", 199999998, 0, 0);
        compared(x, "0(023):2,b,t:6,a,f;", Long.MAX_VALUE, 0, 6);
    }

    private static void ignoredColumns() {
        FixtureTables x = table("0(0123):1,1,a,t;");
        compared(x, "0(0123):2,2,b,f;", 0, 0, 4);
        compared(x, "0(0123):2,2,b,f;", 0, 1, 3);
        Due.difference(x, 0, 0, 0, 1);
        compared(x, "0(0123):2,2,b,f;", 0, 2, 3);
        compared(x, "0(0123):2,2,b,f;", 0, 4 + 8, 2);
        compared(x, "0(0123):2,2,b,f;", 0, 15, 0);
        compared(x, "0(0123):2,2,b,f;", 0, -1, 0);
        compared(x, "0(0123):2,2,b,f;", 0, 16, 4);
        compared(x, "0(0123):2,2,b,f;", 0, ~31, 4);
        compared(x, "0(0123):2,2,b,f;", 0, Integer.MIN_VALUE, 4);
    }

    private static void manySections() {
        FixtureTables x = table("0(0):1:2;");
        x.table();
        x.column(1, 2, false, -1);
        compared(x, "1(0):a;0(0):2:1;1(0);0(0):1;0(0):2:3;", 0, 0, 4);
        Due.difference(x, 0, 0, -1, -1);
        Due.difference(x, 1, 3, -1, -1);
        Due.difference(x, 2, 4, 0, 0);
        Due.difference(x, 3, 4, 1, 0);
    }

    private static void manyDifferences() {
        FixtureTables x = table("0(0123):1,1,a,t:2,1,a,t:3,1,a,t:4,1,a,t:5,1,a,t:6,1,a,t;");
        Due.dataset(x, "0(1230):2,b,f,11:2,b,f,12:2,b,f,13:2,b,f,14:2,b,f,15:2,b,f,16;", 6);
        Due.is("compare", 24, () -> x.compare(0, 0));
        Due.difference(x, 19, 0, 4, 0);
        Due.raises("the 21st", Due.IOOBE, () -> x.difference(20, 0));
        Due.raises("the 24th", Due.IOOBE, () -> x.difference(23, 0));
        Due.is("compare", 20, () -> x.compare(0, 0) - 4);
        Due.is("compare", 0, () -> x.compare(0, 15));
        Due.raises("none now", Due.IOOBE, () -> x.difference(0, 0));
    }

    private static void whenDifferencesGo() {
        FixtureTables x = table("0(0):1;");
        compared(x, "0(0):2;", 0, 0, 1);
        Due.difference(x, 0, 0, 0, 0);
        Due.is("apply", 1, () -> x.apply(0));
        Due.difference(x, 0, 0, 0, 0);
        x.type('!');
        Due.raises("read of a wrong text", Due.IAE, () -> x.read());
        Due.difference(x, 0, 0, 0, 0);
        Due.dataset(x, "0(0):2;", 1);
        Due.raises("read takes them", Due.IOOBE, () -> x.difference(0, 0));
        Due.is("compare", 2, () -> x.compare(0, 0));
        Due.difference(x, 0, 0, -1, -1);
        Due.difference(x, 1, 0, 0, 0);
        x.table();
        Due.difference(x, 1, 0, 0, 0);
        x.column(1, 0, false, -1);
        Due.raises("column takes them", Due.IOOBE, () -> x.difference(0, 0));
        Due.raises("column takes the dataset", Due.ISE, () -> x.compare(0, 0));
    }
}
