/** The edges of promises 12 (value) and 13 (isNull); each test quotes its sentence. */
public final class ValueEdgesTest {
    public static void main(String[] args) {
        noSuchTable();
        noSuchRow();
        noSuchColumn();
        severalOfThem();
        lastOfAll();
        rowsThatAreGone();
        numbers();
        hundredths();
        booleans();
        bitsOfCharacters();
        nullIsZero();
        nullWhereValuesWere();
        orderOfNumbers();
        orderOfDecimals();
        orderOfBooleans();
        orderOfTexts();
        Due.end();
    }

    private static FixtureTables table(int type, int columns) {
        FixtureTables x = new FixtureTables();
        x.table();
        for (int i = 0; i < columns; i++) {
            x.column(0, type, false, -1);
        }
        return x;
    }

    private static void nowhere(FixtureTables x, int table, int row, int column) {
        String place = "(" + table + ", " + row + ", " + column + ")";
        Due.raises("value" + place, Due.IOOBE, () -> x.value(table, row, column));
        Due.raises("isNull" + place, Due.IOOBE, () -> x.isNull(table, row, column) ? 1 : 0);
    }

    private static void refused(int table, int row, int column) {
        String place = "(" + table + ", " + row + ", " + column + ")";
        Twins.refused("value" + place, Due.IOOBE, () -> Twins.rich(1), x -> x.value(table, row, column));
        Twins.refused("isNull" + place, Due.IOOBE, () -> Twins.rich(1), x -> x.isNull(table, row, column) ? 1 : 0);
    }

    /** "IndexOutOfBoundsException if there is no such table"; "IndexOutOfBoundsException as above." */
    private static void noSuchTable() {
        for (int table : Due.outside(3)) {
            refused(table, 0, 0);
        }
        refused(2, 0, 0);
        nowhere(new FixtureTables(), 0, 0, 0);
        Twins.answered("value(0, 0, 0)", 1, () -> Twins.rich(1), x -> x.value(0, 0, 0));
        Twins.answered("value(1, 0, 0)", 5, () -> Twins.rich(1), x -> x.value(1, 0, 0));
        Twins.answered("isNull(1, 0, 0)", 0, () -> Twins.rich(1), x -> x.isNull(1, 0, 0) ? 1 : 0);
    }

    /**
     * "A value, of a row by its place in the order of keys"; "IndexOutOfBoundsException if there is no such table,
     * row"
     */
    private static void noSuchRow() {
        for (int row : Due.outside(2)) {
            refused(0, row, 0);
        }
        for (int row : Due.outside(1)) {
            refused(1, row, 1);
        }
        nowhere(table(0, 5), 0, 0, 0);
        Due.is("the last row", 2, () -> Twins.rich(1).value(0, 1, 0));
    }

    /** "IndexOutOfBoundsException if there is no such table, row or column." */
    private static void noSuchColumn() {
        for (int column : Due.outside(2)) {
            refused(0, 1, column);
        }
        Due.is("the last column", (long) 'b' << 49, () -> Twins.rich(1).value(0, 1, 1));
    }

    private static void severalOfThem() {
        refused(-1, -1, -1);
        refused(3, 2, 2);
        refused(0, 2, -1);
        refused(0, -1, 2);
        refused(Integer.MAX_VALUE, Integer.MAX_VALUE, Integer.MAX_VALUE);
        refused(Integer.MIN_VALUE, Integer.MIN_VALUE, Integer.MIN_VALUE);
    }

    /** Five tables of five columns, the last one full: its last cell, and what is behind it. */
    private static void lastOfAll() {
        FixtureTables x = new FixtureTables();
        for (int table = 0; table < 5; table++) {
            x.table();
            for (int column = 0; column < 5; column++) {
                x.column(table, 0, false, -1);
            }
        }
        Due.applied(x, "4(0):1:2:3:4:5:6:7:8:9:10:11;4(04):12,77;", 0, 12);
        Due.is("the last cell", 77, () -> x.value(4, 11, 4));
        Due.is("the last cell", 0, () -> x.isNull(4, 11, 4) ? 1 : 0);
        Due.is("the one before it", 1, () -> x.isNull(4, 11, 3) ? 1 : 0);
        nowhere(x, 4, 11, 5);
        nowhere(x, 4, 12, 0);
        nowhere(x, 5, 0, 0);
        nowhere(x, 3, 0, 0);
        nowhere(x, 3, 12, 0);
        nowhere(x, 4, 10, 5);
        Due.applied(x, "4(0):1;", 3, 1);
        Due.is("the last cell, when the first row is gone", 77, () -> x.value(4, 10, 4));
        nowhere(x, 4, 11, 4);
        Due.applied(x, "4(04):0,66;", 0, 1);
        Due.is("the first row", 66, () -> x.value(4, 0, 4));
        Due.is("the last cell again", 77, () -> x.value(4, 11, 4));
    }

    private static void rowsThatAreGone() {
        FixtureTables x = table(0, 2);
        Due.applied(x, "0(01):1,10:2,20:3,30;", 0, 3);
        Due.applied(x, "0(0):2;", 3, 1);
        Due.is("the last row", 30, () -> x.value(0, 1, 1));
        nowhere(x, 0, 2, 0);
        Due.applied(x, "0(0);", 4, 2);
        nowhere(x, 0, 0, 0);
        x.begin();
        Due.applied(x, "0(0):5;", 0, 1);
        Due.is("in the transaction", 5, () -> x.value(0, 0, 0));
        x.rollback();
        nowhere(x, 0, 0, 0);
    }

    /** "a number" */
    private static void numbers() {
        FixtureTables x = table(0, 2);
        Due.applied(x, "0(01):-999999999,999999999:0,-0:999999999,-999999999;", 0, 3);
        long[] want = {-999999999, 0, 999999999};
        for (int row = 0; row < 3; row++) {
            int number = row;
            Due.is("key " + row, want[row], () -> x.value(0, number, 0));
            Due.is("value " + row, -want[row], () -> x.value(0, number, 1));
        }
    }

    /** "hundredths" */
    private static void hundredths() {
        FixtureTables x = table(1, 1);
        Due.applied(x, "0(0):-999999.99:-0.01:0:0.01:0.1:1:999999.99;", 0, 7);
        long[] want = {-99999999, -1, 0, 1, 10, 100, 99999999};
        for (int row = 0; row < want.length; row++) {
            int number = row;
            Due.is("hundredths " + row, want[row], () -> x.value(0, number, 0));
        }
    }

    /** "1 or 0" */
    private static void booleans() {
        FixtureTables x = table(3, 2);
        Due.applied(x, "0(01):f,t:t,f;", 0, 2);
        Due.is("false", 0, () -> x.value(0, 0, 0));
        Due.is("true", 1, () -> x.value(0, 0, 1));
        Due.is("false is not null", 0, () -> x.isNull(0, 0, 0) ? 1 : 0);
    }

    /** "7 bits of each character, the first one's are bits 49 .. 55, and so on." */
    private static void bitsOfCharacters() {
        for (int i = 0; i < 8; i++) {
            int place = i;
            FixtureTables x = table(2, 1);
            String text = "!".repeat(i) + "~";
            Due.applied(x, "0(0):'" + text + "';", 0, 1);
            Due.is("bits of " + text, 126, () -> x.value(0, 0, 0) >> 49 - 7 * place & 127);
            Due.is("bits behind " + text, 0, () -> x.value(0, 0, 0) & (1L << 49 - 7 * place) - 1);
            Due.is("bits ahead of " + text, 0, () -> x.value(0, 0, 0) >> 56);
        }
        FixtureTables y = table(2, 1);
        Due.applied(y, "0(0):'':'        ':'~~~~~~~~';", 0, 3);
        Due.is("no characters", 0, () -> y.value(0, 0, 0));
        Due.is("eight of the least", 0x40810204081020L, () -> y.value(0, 1, 0));
        Due.is("eight of the greatest", 0xFDFBF7EFDFBF7EL, () -> y.value(0, 2, 0));
    }

    /** "0 if it is null."; "Whether it is null." */
    private static void nullIsZero() {
        String[] zero = {"0", "0", "''", "f"};
        String[] other = {"7", "7", "a", "t"};
        for (int type = 0; type < 4; type++) {
            FixtureTables x = table(type, 3);
            Due.applied(x, "0(012):" + other[type] + "," + zero[type] + ",~;", 0, 1);
            Due.is("zero's value", 0, () -> x.value(0, 0, 1));
            Due.is("zero is not null", 0, () -> x.isNull(0, 0, 1) ? 1 : 0);
            Due.is("null's value", 0, () -> x.value(0, 0, 2));
            Due.is("null", 1, () -> x.isNull(0, 0, 2) ? 1 : 0);
            Due.applied(x, "0(021):" + other[type] + "," + other[type] + ",~;", 1, 1);
            Due.is("null's value, where there was one", 0, () -> x.value(0, 0, 1));
            Due.is("null, where there was a value", 1, () -> x.isNull(0, 0, 1) ? 1 : 0);
            Due.is("a value, where there was null", 0, () -> x.isNull(0, 0, 2) ? 1 : 0);
            Due.applied(x, "0(01):" + other[type] + "," + other[type] + ";", 1, 1);
            Due.applied(x, "0(01):" + other[type] + ",~;", 1, 1);
            Due.is("null's value, where there was another one", 0, () -> x.value(0, 0, 1));
        }
    }

    /** "0 if it is null.": also where datasets and rows that are gone had values. */
    private static void nullWhereValuesWere() {
        FixtureTables x = table(0, 5);
        for (int i = 0; i < 3; i++) {
            Due.applied(x, "0(01234):1,6,7,8,9:2,6,7,8,9;", 0, 2);
            Due.applied(x, "0(01234):1,5,5,5,5:2,5,5,5,5;", 3, 2);
        }
        Due.applied(x, "0(0):1;0(01234):2,~,~,~,~;", 0, 2);
        for (int row = 0; row < 2; row++) {
            for (int column = 1; column < 5; column++) {
                int number = row;
                int place = column;
                Due.is("null's value", 0, () -> x.value(0, number, place));
                Due.is("null", 1, () -> x.isNull(0, number, place) ? 1 : 0);
            }
        }
    }

    private static void ordered(int type, String typed, String want) {
        FixtureTables x = table(type, 1);
        Due.text(x, "0(0)" + typed + ";");
        x.read();
        Due.raises("INSERT of " + typed, 0, () -> x.apply(0));
        Due.table(x, 0, "0(0)" + want + ";");
    }

    /** "The rows of a table are ORDERED by their keys: numbers as such" */
    private static void orderOfNumbers() {
        ordered(0, ":9:10:-9:-10:0:999999999:-999999999:-1:1", ":-999999999:-10:-9:-1:0:1:9:10:999999999");
        ordered(0, ":12:11:10:9:8:7:6:5:4:3:2:1", ":1:2:3:4:5:6:7:8:9:10:11:12");
    }

    private static void orderOfDecimals() {
        ordered(1, ":0.1:0.09:0:-0.01:-0.1:1:0.99:999999.99:-999999.99",
                ":-999999.99:-0.10:-0.01:0.00:0.09:0.10:0.99:1.00:999999.99");
    }

    /** "false before true" */
    private static void orderOfBooleans() {
        ordered(3, ":t:f", ":f:t");
        ordered(3, ":f:t", ":f:t");
    }

    /** "texts by their characters, one that is the beginning of another one first." */
    private static void orderOfTexts() {
        ordered(2, ":b:ab:a:'':abc:aa:'a ':' ':'~':'A':z", ":'':' ':'A':a:'a ':aa:ab:abc:b:z:'~'");
        ordered(2, ":zzzzzzzz:zzzzzzz:zzzzzzzy:'zzzzzzz~':'zzzzzzz '",
                ":zzzzzzz:'zzzzzzz ':zzzzzzzy:zzzzzzzz:'zzzzzzz~'");
        ordered(2, ":'~~~~~~~~':'~~~~~~~':'        ':'       ':''''",
                ":'       ':'        ':'''':'~~~~~~~':'~~~~~~~~'");
    }
}
