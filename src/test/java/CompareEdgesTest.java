/** The edges of promises 17 (compare) and 18 (difference); each test quotes its sentence. */
public final class CompareEdgesTest {
    public static void main(String[] args) {
        deltaBelowZero();
        noDatasetRead();
        changesNothing();
        noSections();
        moreOrFewer();
        rowsThatBothHave();
        byTheirKeys();
        nullFirst();
        equalOnesAsTheyStand();
        withoutColumnZero();
        oneIsNullAlone();
        byMoreThanDelta();
        farthestValues();
        deltaIsOfDecimalsAlone();
        ignoredBits();
        otherBits();
        byRowAndColumn();
        countThenCells();
        eachSectionForItself();
        sixSections();
        twentyFourRows();
        noSuchDifference();
        noSuchWhat();
        behindTheTwentieth();
        noCompareSince();
        partsOfADifference();
        latestCompare();
        Due.end();
    }

    /** Integer key, decimal, text, boolean. */
    private static FixtureTables table(String rows) {
        FixtureTables x = new FixtureTables();
        x.table();
        for (int type = 0; type < 4; type++) {
            x.column(0, type, false, -1);
        }
        Due.text(x, rows);
        x.read();
        x.apply(0);
        return x;
    }

    /** All differences, each as section, row, column. */
    private static void compared(FixtureTables x, String text, long delta, int ignored, int... want) {
        Due.text(x, text);
        Due.raises("read of " + text, 0, () -> x.read());
        Due.is("compare with " + text, want.length / 3, () -> x.compare(delta, ignored));
        for (int i = 0; i < want.length / 3; i++) {
            Due.difference(x, i, want[i * 3], want[i * 3 + 1], want[i * 3 + 2]);
        }
        Due.raises("the difference behind the last", Due.IOOBE, () -> x.difference(want.length / 3, 0));
    }

    /** "IllegalArgumentException if delta is below 0" */
    private static void deltaBelowZero() {
        for (long delta : new long[] {-1, -256, Integer.MIN_VALUE, -4294967296L, Long.MIN_VALUE}) {
            Twins.refused("delta " + delta, Due.IAE, () -> Twins.rich(1), x -> x.compare(delta, 0));
            Twins.refused("delta " + delta + ", no dataset", Due.IAE, FixtureTables::new, x -> x.compare(delta, 0));
        }
        for (long delta : new long[] {0, 1, 4294967296L, 1L << 62, Long.MAX_VALUE}) {
            Due.is("delta " + delta, 5, () -> Twins.rich(1).compare(delta, 0));
        }
    }

    /** "IllegalStateException if no dataset was read." */
    private static void noDatasetRead() {
        Twins.refused("no dataset", Due.ISE, FixtureTables::new, x -> x.compare(0, 0));
        Twins.refused("a read that threw", Due.ISE, CompareEdgesTest::afterWrongRead, x -> x.compare(0, 31));
        Twins.refused("a column made", Due.ISE, CompareEdgesTest::afterColumn, x -> x.compare(0, 0));
        Due.is("a dataset without sections", 0, () -> Due.read(new FixtureTables(), "").compare(0, 0));
    }

    private static FixtureTables afterWrongRead() {
        FixtureTables x = table("0(0):1;");
        x.table();
        x.column(1, 0, false, -1);
        Due.text(x, "0(0):1;!");
        Due.raises("read", Due.IAE, () -> x.read());
        return x;
    }

    private static FixtureTables afterColumn() {
        FixtureTables x = Twins.rich(0);
        x.column(2, 0, false, -1);
        return x;
    }

    private static void changesNothing() {
        Twins.answered("compare again", 5, () -> Twins.rich(1), x -> x.compare(0, 0));
        Twins.answered("difference(0, 0)", 0, () -> Twins.rich(1), x -> x.difference(0, 0));
        Twins.answered("difference(4, 1)", 0, () -> Twins.rich(1), x -> x.difference(4, 1));
    }

    private static void noSections() {
        compared(table("0(0):1;"), "", 0, 0);
        compared(table(""), "0(0);", 0, 0);
        compared(table(""), "0(0123);0(3);", 0, 0);
    }

    /** "a DIFFERENCE if there are more or fewer" */
    private static void moreOrFewer() {
        FixtureTables x = table("0(0):1:2;");
        compared(x, "0(0);", 0, 0, 0, -1, -1);
        compared(x, "0(0):1;", 0, 0, 0, -1, -1);
        compared(x, "0(0):1:2;", 0, 0);
        compared(x, "0(0):1:2:3;", 0, 0, 0, -1, -1);
        compared(x, "0(0):1:2:3:4:5;", 0, 31, 0, -1, -1);
        compared(table(""), "0(0):1;", 0, 0, 0, -1, -1);
    }

    /** "then one for each cell of the rows that both have" */
    private static void rowsThatBothHave() {
        FixtureTables x = table("0(0):1:2;");
        compared(x, "0(0):2;", 0, 0, 0, -1, -1, 0, 0, 0);
        compared(x, "0(0):3:0:2;", 0, 0, 0, -1, -1, 0, 0, 0);
        compared(x, "0(0):9:8:7;", 0, 0, 0, -1, -1, 0, 0, 0, 0, 1, 0);
        compared(x, "0(0):9:8;", 0, 0, 0, 0, 0, 0, 1, 0);
    }

    /** "with its rows by their keys"; "with the table's rows in order" */
    private static void byTheirKeys() {
        FixtureTables x = table("0(01):-5,1:0,2:3,3:10,4;");
        compared(x, "0(10):4,10:3,3:1,-5:2,0;", 0, 0);
        compared(x, "0(10):4,10:9,3:1,-5:2,0;", 0, 0, 0, 2, 1);
        FixtureTables texts = new FixtureTables();
        texts.table();
        texts.column(0, 2, false, -1);
        texts.column(0, 3, false, -1);
        Due.read(texts, "0(01):'',t:a,t:ab,t:b,f;").apply(0);
        compared(texts, "0(01):b,f:ab,t:'',t:a,t;", 0, 0);
        compared(texts, "0(01):b,f:ab,f:'',f:a,t;", 0, 0, 0, 0, 1, 0, 2, 1);
        FixtureTables booleans = Due.inserted(Due.keys(1, 3), "0(0):t:f;");
        compared(booleans, "0(0):t:f;", 0, 0);
        compared(booleans, "0(0):f:t;", 0, 0);
    }

    /** "(null first" */
    private static void nullFirst() {
        FixtureTables x = table("0(01):-9,1:5,2;");
        compared(x, "0(01):-9,2:~,1;", 0, 1);
        compared(x, "0(01):-9,2:~,1;", 0, 0, 0, 0, 0, 0, 1, 0);
        compared(x, "0(01):~,1:-9,2;", 0, 1);
        FixtureTables texts = new FixtureTables();
        texts.table();
        texts.column(0, 2, false, -1);
        texts.column(0, 0, false, -1);
        Due.read(texts, "0(01):'',1:a,2;").apply(0);
        compared(texts, "0(01):'',2:~,1;", 0, 1);
    }

    /** "equal ones as they stand)" */
    private static void equalOnesAsTheyStand() {
        FixtureTables x = table("0(01):1,1:2,2:3,3:4,4;");
        compared(x, "0(01):7,1:7,2:7,3:7,4;", 0, 1);
        compared(x, "0(01):~,1:~,2:~,3:~,4;", 0, 1);
        compared(x, "0(01):8,3:7,1:8,4:7,2;", 0, 1);
        compared(x, "0(01):8,4:7,2:8,3:7,1;", 0, 1, 0, 0, 1, 0, 1, 1, 0, 2, 1, 0, 3, 1);
        compared(x, "0(01):7,3:~,1:7,4:~,2;", 0, 1);
    }

    /** "if it has column 0" */
    private static void withoutColumnZero() {
        FixtureTables x = table("0(01):1,30:2,10:3,20;");
        compared(x, "0(1):30:10:20;", 0, 0);
        compared(x, "0(1):10:20:30;", 0, 0, 0, 0, 1, 0, 1, 1, 0, 2, 1);
        compared(x, "0(01):3,20:1,30:2,10;", 0, 0);
    }

    /** "one is null alone" */
    private static void oneIsNullAlone() {
        FixtureTables x = table("0(0123):1,0,'',f:2,~,~,~;");
        compared(x, "0(0123):1,0,'',f:2,~,~,~;", 0, 0);
        compared(x, "0(0123):1,~,'',f:2,~,'',~;", Long.MAX_VALUE, 0, 0, 0, 1, 0, 1, 2);
        compared(x, "0(0123):1,0,~,~:2,0,~,f;", Long.MAX_VALUE, 0, 0, 0, 2, 0, 0, 3, 0, 1, 1, 0, 1, 3);
        compared(x, "0(0):~:~;", Long.MAX_VALUE, 0, 0, 0, 0, 0, 1, 0);
    }

    /** "those of DECIMAL by more than delta" */
    private static void byMoreThanDelta() {
        FixtureTables x = table("0(01):1,1.5;");
        compared(x, "0(1):1.5;", 0, 0);
        compared(x, "0(1):1.51;", 0, 0, 0, 0, 1);
        compared(x, "0(1):1.51;", 1, 0);
        compared(x, "0(1):1.49;", 0, 0, 0, 0, 1);
        compared(x, "0(1):1.49;", 1, 0);
        compared(x, "0(1):-1.5;", 299, 0, 0, 0, 1);
        compared(x, "0(1):-1.5;", 300, 0);
        compared(x, "0(1):11.5;", 999, 0, 0, 0, 1);
        compared(x, "0(1):11.5;", 1000, 0);
    }

    private static void farthestValues() {
        FixtureTables x = table("0(01):999999999,-999999.99;");
        compared(x, "0(1):999999.99;", 199999997, 0, 0, 0, 1);
        compared(x, "0(1):999999.99;", 199999998, 0);
        compared(x, "0(1):999999.99;", Long.MAX_VALUE, 0);
        compared(x, "0(0):-999999999;", Long.MAX_VALUE, 0, 0, 0, 0);
        compared(x, "0(0):999999999;", 0, 0);
        FixtureTables y = table("0(01):-999999999,999999.99;");
        compared(y, "0(1):-999999.99;", 199999997, 0, 0, 0, 1);
        compared(y, "0(1):-999999.99;", 199999998, 0);
        compared(y, "0(0):999999999;", Long.MAX_VALUE, 0, 0, 0, 0);
    }

    /** "or values differ, those of DECIMAL by more than delta" */
    private static void deltaIsOfDecimalsAlone() {
        FixtureTables x = table("0(0123):1,1,a,f;");
        compared(x, "0(0123):2,2,'a ',t;", Long.MAX_VALUE, 0, 0, 0, 0, 0, 0, 2, 0, 0, 3);
        compared(x, "0(0123):2,2,b,t;", 100, 0, 0, 0, 0, 0, 0, 2, 0, 0, 3);
        compared(x, "0(0123):2,2,b,t;", 99, 0, 0, 0, 0, 0, 0, 1, 0, 0, 2, 0, 0, 3);
        FixtureTables y = table("0(02):1,'~~~~~~~~':2,'':3,aaaaaaaa;");
        compared(y, "0(02):1,'~~~~~~~}':2,' ':3,aaaaaaa;", 0, 0, 0, 0, 2, 0, 1, 2, 0, 2, 2);
        compared(y, "0(02):1,'~~~~~~~~':2,'':3,'aaaaaaaa';", 0, 0);
    }

    /** "(of a column of which the bit of its number, 0 .. 4, in ignored is 0)" */
    private static void ignoredBits() {
        FixtureTables x = new FixtureTables();
        x.table();
        for (int column = 0; column < 5; column++) {
            x.column(0, 3, false, -1);
        }
        Due.read(x, "0(01234):t,t,t,t,t;").apply(0);
        Due.read(x, "0(43210):f,f,f,f,f;");
        for (int ignored = 0; ignored < 32; ignored++) {
            int bits = ignored;
            Due.is("ignored " + ignored, 5 - Integer.bitCount(ignored), () -> x.compare(0, bits));
            int i = 0;
            for (int column = 4; column >= 0; column--) {
                if ((ignored >> column & 1) == 0) {
                    int place = i;
                    Due.is("a column that is not ignored", column, () -> x.difference(place, 2));
                    i++;
                }
            }
        }
    }

    /** The bits beyond 4 are no column's. */
    private static void otherBits() {
        FixtureTables x = table("0(0123):1,1,a,t;");
        int[] all = {0, 0, 0, 0, 0, 1, 0, 0, 2, 0, 0, 3};
        for (int ignored : new int[] {0, 16, 32, 256, 65536, 1 << 30, Integer.MIN_VALUE, ~31, ~15}) {
            compared(x, "0(0123):2,2,b,f;", 0, ignored, all);
        }
        compared(x, "0(0123):2,2,b,f;", 0, -1);
        compared(x, "0(0123):2,2,b,f;", 0, Integer.MAX_VALUE);
        compared(x, "0(0123):2,2,b,f;", 0, ~8, 0, 0, 3);
        compared(x, "0(0123):2,2,b,f;", 0, ~1, 0, 0, 0);
    }

    /** "by row and column as the section has them" */
    private static void byRowAndColumn() {
        FixtureTables x = table("0(0123):1,1,a,t:2,2,b,f;");
        compared(x, "0(3021):t,8,x,9:f,7,y,9;", 0, 0,
                0, 0, 3, 0, 0, 0, 0, 0, 2, 0, 0, 1, 0, 1, 3, 0, 1, 0, 0, 1, 2, 0, 1, 1);
        compared(x, "0(12):7,x:8,y;", 0, 0, 0, 0, 1, 0, 0, 2, 0, 1, 1, 0, 1, 2);
    }

    private static void countThenCells() {
        FixtureTables x = table("0(01):1,1:2,2;");
        compared(x, "0(10):7,1;0(01):5,1;", 0, 0, 0, -1, -1, 0, 0, 1, 1, -1, -1, 1, 0, 0);
    }

    /** "each section" */
    private static void eachSectionForItself() {
        FixtureTables x = table("0(0):1:2;");
        x.table();
        x.column(1, 2, false, -1);
        compared(x, "1(0);0(0):1;1(0):a;0(0):2;0(0):2:1;0(1):~:5;", 0, 0,
                1, -1, -1, 2, -1, -1, 3, -1, -1, 3, 0, 0, 5, 1, 1);
    }

    private static void sixSections() {
        FixtureTables x = table("0(0):1;");
        compared(x, "0(0);0(0);0(0);0(0);0(0);0(0);", 0, 0,
                0, -1, -1, 1, -1, -1, 2, -1, -1, 3, -1, -1, 4, -1, -1, 5, -1, -1);
        compared(x, "0(0):1;0(0):1;0(0):1;0(0):1;0(0):1;0(0):2;", 0, 0, 5, 0, 0);
    }

    /** More rows than a table can have. */
    private static void twentyFourRows() {
        FixtureTables x = table("0(0):1:2:3:4:5:6:7:8:9:10:11:12;");
        compared(x, "0(0):9:9:9:9:9:9:9:9:9:9:9:9:12:11:10:9:8:7:6:5:4:3:2:1;", 0, 0,
                0, -1, -1, 0, 9, 0, 0, 10, 0, 0, 11, 0);
        compared(x, "0(0):12:11:10:9:8:7:6:5:4:3:2:1;", 0, 0);
        compared(table("0(0):1;"), "0(3)" + ":t".repeat(24) + ";", 0, 0, 0, -1, -1, 0, 0, 3);
    }

    /** "IndexOutOfBoundsException if there is none such" */
    private static void noSuchDifference() {
        for (int i : Due.outside(5)) {
            Twins.refused("difference(" + i + ", 0)", Due.IOOBE, () -> Twins.rich(1), x -> x.difference(i, 0));
            Twins.refused("difference(" + i + ", 3)", Due.IOOBE, () -> Twins.rich(1), x -> x.difference(i, 3));
        }
        FixtureTables x = Twins.rich(1);
        int[][] want = {{0, 0, 0}, {0, 0, 1}, {0, 1, 0}, {0, 1, 1}, {1, 0, 0}};
        for (int i = 0; i < 5; i++) {
            Due.difference(x, i, want[i][0], want[i][1], want[i][2]);
        }
        FixtureTables y = table("0(0):1;");
        compared(y, "0(0):1;", 0, 0);
        for (int i : Due.outside(0)) {
            Due.raises("difference(" + i + ") of none", Due.IOOBE, () -> y.difference(i, 0));
        }
    }

    /** "IllegalArgumentException if there is no such what." */
    private static void noSuchWhat() {
        for (int what : Due.outside(3)) {
            Twins.refused("difference(0, " + what + ")", Due.IAE, () -> Twins.rich(1), x -> x.difference(0, what));
            Twins.refused("difference(4, " + what + ")", Due.IAE, () -> Twins.rich(1), x -> x.difference(4, what));
            Twins.refused("difference(5, " + what + ")", Due.IOOBE, () -> Twins.rich(1), x -> x.difference(5, what));
            Due.raises("no compare, no such what", Due.IOOBE, () -> table("0(0):1;").difference(0, what));
        }
    }

    /** "(also behind the 20th)" */
    private static void behindTheTwentieth() {
        String text = "0(3)" + ":f".repeat(10) + ";0(3)" + ":f".repeat(10) + ";0(3)";
        FixtureTables x = table("0(03):1,t:2,t:3,t:4,t:5,t:6,t:7,t:8,t:9,t:10,t;");
        Due.read(x, text + ":t".repeat(4) + ";");
        Due.is("21 differences", 21, () -> x.compare(0, 0));
        Due.difference(x, 18, 1, 8, 3);
        Due.difference(x, 19, 1, 9, 3);
        for (int i : Due.outside(20)) {
            Due.raises("difference " + i, Due.IOOBE, () -> x.difference(i, 0));
            Due.raises("difference " + i, Due.IOOBE, () -> x.difference(i, 3));
        }
        Due.read(x, text.substring(0, 49) + ";");
        Due.is("20 differences", 20, () -> x.compare(0, 0));
        Due.difference(x, 19, 1, 9, 3);
        Due.raises("the 21st of 20", Due.IOOBE, () -> x.difference(20, 0));
        Due.read(x, "0(3)" + ":f".repeat(9) + ":t;0(3)" + ":f".repeat(10) + ";");
        Due.is("19 differences", 19, () -> x.compare(0, 0));
        Due.difference(x, 18, 1, 9, 3);
        Due.raises("the 20th of 19", Due.IOOBE, () -> x.difference(19, 0));
    }

    /** "or no compare() since a dataset was read, or a column made" */
    private static void noCompareSince() {
        FixtureTables x = table("0(0):1;");
        Due.raises("no compare", Due.IOOBE, () -> x.difference(0, 0));
        compared(x, "0(0):2;", 0, 0, 0, 0, 0);
        Due.is("the same text read again", 1, () -> x.read());
        Due.raises("no compare since", Due.IOOBE, () -> x.difference(0, 0));
        Due.raises("delta below 0", Due.IAE, () -> x.compare(-1, 0));
        Due.raises("no compare since that answered", Due.IOOBE, () -> x.difference(0, 0));
        Due.is("compare", 1, () -> x.compare(0, 0));
        Due.difference(x, 0, 0, 0, 0);
        x.table();
        Due.difference(x, 0, 0, 0, 0);
        Due.is("column", 0, () -> x.column(1, 0, false, -1));
        Due.raises("no compare since", Due.IOOBE, () -> x.difference(0, 0));
        Due.raises("compare without a dataset", Due.ISE, () -> x.compare(0, 0));
        Due.raises("no compare since", Due.IOOBE, () -> x.difference(0, 0));
        x.wipe();
        Due.is("a dataset without sections", 0, () -> x.read());
        Due.raises("no compare since", Due.IOOBE, () -> x.difference(0, 0));
    }

    /** "-1 if it is of how many rows there are), the table's column (2; -1 likewise)" */
    private static void partsOfADifference() {
        FixtureTables x = table("0(0123):1,1,a,t:2,2,b,f;");
        compared(x, "0(0);0(0123):1,1,a,t:2,2,b,t:9,~,~,~;0(32):t,a:f,c;", 0, 0,
                0, -1, -1, 1, -1, -1, 1, 1, 3, 2, 1, 2);
        compared(x, "0(20):b,2:z,1:a,0;", 0, 0, 0, -1, -1, 0, 0, 0, 0, 1, 2, 0, 1, 0);
    }

    /** "Of the latest compare()'s difference i" */
    private static void latestCompare() {
        FixtureTables x = table("0(01):1,1:2,2;");
        compared(x, "0(01):1,2:3,4;", 0, 0, 0, 0, 1, 0, 1, 0, 0, 1, 1);
        Due.is("compare", 1, () -> x.compare(0, 2));
        Due.difference(x, 0, 0, 1, 0);
        Due.raises("the one before had more", Due.IOOBE, () -> x.difference(1, 0));
        Due.is("CLEAN INSERT", 4, () -> x.apply(5));
        Due.difference(x, 0, 0, 1, 0);
        Due.is("compare", 0, () -> x.compare(0, 0));
        Due.raises("the one before had one", Due.IOOBE, () -> x.difference(0, 0));
        Due.is("DELETE", 2, () -> x.apply(3));
        Due.is("compare", 1, () -> x.compare(0, 0));
        Due.difference(x, 0, 0, -1, -1);
        Due.raises("a column refused", Due.IAE, () -> x.column(0, 4, false, -1));
        x.type('!');
        Due.raises("a read that threw", Due.IAE, () -> x.read());
        Due.raises("a compare that threw", Due.IAE, () -> x.compare(-1, 0));
        Due.difference(x, 0, 0, -1, -1);
    }
}
