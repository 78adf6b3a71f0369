/** The edges of promises 19 (write) and 20 (written); each test quotes its sentence. */
public final class WriteEdgesTest {
    public static void main(String[] args) {
        noSuchTable();
        noColumns();
        whatWasWrittenStays();
        changesNothingElse();
        allColumnsAndRows();
        integers();
        decimals();
        booleansAndNulls();
        lettersWithoutQuotes();
        otherTexts();
        lengths();
        everyCharacterOfIt();
        nothingWritten();
        writtenLatest();
        writtenAndRead();
        Due.end();
    }

    private static FixtureTables table(int... types) {
        FixtureTables x = new FixtureTables();
        x.table();
        for (int type : types) {
            x.column(0, type, false, -1);
        }
        return x;
    }

    /** Rows of a table of one column, and as they are written. */
    private static void writes(int type, String typed, String want) {
        FixtureTables x = table(type);
        Due.text(x, "0(0)" + typed + ";");
        Due.raises("read of " + typed, 0, () -> x.read());
        Due.raises("INSERT of " + typed, 0, () -> x.apply(0));
        Due.table(x, 0, "0(0)" + want + ";");
    }

    /** "IndexOutOfBoundsException if there is no such table" */
    private static void noSuchTable() {
        for (int table : Due.outside(3)) {
            Twins.refused("write(" + table + ")", Due.IOOBE, () -> Twins.rich(1), x -> x.write(table));
        }
        Twins.refused("write of no tables", Due.IOOBE, FixtureTables::new, x -> x.write(0));
        FixtureTables x = new FixtureTables();
        for (int table = 0; table < 5; table++) {
            x.table();
            x.column(table, table % 4, false, -1);
        }
        Due.table(x, 0, "0(0);");
        Due.table(x, 4, "4(0);");
        Due.raises("write(5)", Due.IOOBE, () -> x.write(5));
        Due.same("what was written", "4(0);", Due.writtenText(x));
    }

    /** "IllegalStateException if it has no columns" */
    private static void noColumns() {
        Twins.refused("write without columns", Due.ISE, () -> Twins.rich(1), x -> x.write(2));
        Twins.refused("write without columns", Due.ISE, () -> table(), x -> x.write(0));
        FixtureTables x = table();
        Due.raises("no columns", Due.ISE, () -> x.write(0));
        Due.raises("nothing is written", Due.IOOBE, () -> x.written(0));
        x.column(0, 0, false, -1);
        Due.table(x, 0, "0(0);");
    }

    /** "what was written before stays then." */
    private static void whatWasWrittenStays() {
        FixtureTables x = Twins.rich(1);
        Due.raises("no columns", Due.ISE, () -> x.write(2));
        Due.same("what was written", "0(01):1,a:2,b;", Due.writtenText(x));
        Due.raises("no such table", Due.IOOBE, () -> x.write(3));
        Due.same("what was written", "0(01):1,a:2,b;", Due.writtenText(x));
    }

    private static void changesNothingElse() {
        Twins.answered("write again", 14, () -> Twins.rich(1), x -> x.write(0));
        Twins.answered("written(0)", '0', () -> Twins.rich(1), x -> x.written(0));
        FixtureTables x = Twins.rich(1);
        Due.table(x, 1, "1(01):5,1;");
        Due.is("fault", 21, () -> x.fault());
        Due.failure(x, "behind write", 2, 0, 1, -1);
        Due.difference(x, 4, 1, 0, 0);
        Due.is("the dataset", 5, () -> x.compare(0, 0));
    }

    /** "Writes a table as a section with all its columns and rows" */
    private static void allColumnsAndRows() {
        for (int columns = 1; columns <= 5; columns++) {
            FixtureTables x = table(new int[columns]);
            String digits = "01234".substring(0, columns);
            Due.table(x, 0, "0(" + digits + ");");
            Due.applied(x, "0(0):7;", 0, 1);
            Due.table(x, 0, "0(" + digits + "):7" + ",~".repeat(columns - 1) + ";");
        }
        writes(0, ":1:2:3:4:5:6:7:8:9:10:11:12", ":1:2:3:4:5:6:7:8:9:10:11:12");
        FixtureTables x = table(3, 3, 3, 3, 3);
        Due.applied(x, "0(41320):t,f,t,f,t;0(0):f;", 0, 2);
        Due.table(x, 0, "0(01234):f,~,~,~,~:t,f,f,t,t;");
    }

    /** "(numbers with no 0 before them that need not be" */
    private static void integers() {
        writes(0, ":0", ":0");
        writes(0, ":-0", ":0");
        writes(0, ":000000000", ":0");
        writes(0, ":000000001:-000000001", ":-1:1");
        writes(0, ":9:10:-9:-10:99:100:-99:-100", ":-100:-99:-10:-9:9:10:99:100");
        writes(0, ":99999999:100000000:999999999", ":99999999:100000000:999999999");
        writes(0, ":-99999999:-100000000:-999999999", ":-999999999:-100000000:-99999999");
        writes(0, ":101010101:100000001", ":100000001:101010101");
    }

    /** "DECIMALs with a digit at least ahead of the point and two behind it" */
    private static void decimals() {
        writes(1, ":0", ":0.00");
        writes(1, ":-0.0", ":0.00");
        writes(1, ":0.01:-0.01", ":-0.01:0.01");
        writes(1, ":0.09:0.1:0.99:1", ":0.09:0.10:0.99:1.00");
        writes(1, ":-0.09:-0.1:-0.99:-1", ":-1.00:-0.99:-0.10:-0.09");
        writes(1, ":000009.9:10:000100.01", ":9.90:10.00:100.01");
        writes(1, ":99999.99:100000:999999.99", ":99999.99:100000.00:999999.99");
        writes(1, ":-99999.99:-100000:-999999.99", ":-999999.99:-100000.00:-99999.99");
    }

    private static void booleansAndNulls() {
        writes(3, ":t:f", ":f:t");
        FixtureTables x = table(0, 0, 1, 2, 3);
        Due.applied(x, "0(01234):1,~,~,~,~:2,0,0,'',f;", 0, 2);
        Due.table(x, 0, "0(01234):1,~,~,~,~:2,0,0.00,'',f;");
    }

    /** "texts of 1 to 8 letters a .. z without ')" */
    private static void lettersWithoutQuotes() {
        writes(2, ":'a'", ":a");
        writes(2, ":'z'", ":z");
        writes(2, ":'abcdefgh':zzzzzzzz", ":abcdefgh:zzzzzzzz");
        writes(2, ":t:f", ":f:t");
    }

    private static void otherTexts() {
        writes(2, ":''", ":''");
        writes(2, ":'`':'{':'@':'['", ":'@':'[':'`':'{'");
        writes(2, ":'A':'aA':'Z'", ":'A':'Z':'aA'");
        writes(2, ":' ':'a ':' a'", ":' ':' a':'a '");
        writes(2, ":'~':'0':'abcdefg1'", ":'0':'abcdefg1':'~'");
        writes(2, ":'''':'a''':'''a':'a''b'", ":'''':'''a':'a''':'a''b'");
        writes(2, ":'abcdefg''':'''bcdefgh'", ":'''bcdefgh':'abcdefg'''");
        writes(2, ":'" + "''".repeat(8) + "'", ":'" + "''".repeat(8) + "'");
        writes(2, ":',:;()'", ":',:;()'");
    }

    /** "how many characters." */
    private static void lengths() {
        Due.is("the shortest", 5, () -> table(0).write(0));
        Due.is("no rows", 9, () -> table(0, 0, 0, 0, 0).write(0));
        FixtureTables x = table(1, 1, 1, 1, 1);
        Due.applied(x, "0(01234):-999999.99,-999999.99,-999999.99,-999999.99,-999999.99;", 0, 1);
        Due.is("the longest decimals", 9 + 5 * 11, () -> x.write(0));
        FixtureTables y = table(1, 1, 1, 1, 1);
        for (int third = 0; third < 3; third++) {
            StringBuilder rows = new StringBuilder();
            for (int row = 0; row < 4; row++) {
                rows.append(":").append(third * 4 + row).append(",1,1,1,1");
            }
            Due.applied(y, "0(01234)" + rows + ";", 0, 4);
        }
        Due.is("a full table", 9 + 12 * 25 + 2, () -> y.write(0));
        Due.is("its last character", ';', () -> y.written(310));
        Due.raises("behind it", Due.IOOBE, () -> y.written(311));
    }

    /** "A character of what was written latest. IndexOutOfBoundsException if there is none such." */
    private static void everyCharacterOfIt() {
        String text = "0(01):1,a:2,b;";
        FixtureTables x = Twins.rich(1);
        for (int i = 0; i < text.length(); i++) {
            int place = i;
            Due.is("written(" + i + ")", text.charAt(i), () -> x.written(place));
        }
        for (int i : Due.outside(14)) {
            Twins.refused("written(" + i + ")", Due.IOOBE, () -> Twins.rich(1), y -> y.written(i));
        }
    }

    private static void nothingWritten() {
        for (int i : Due.outside(0)) {
            Twins.refused("written(" + i + ") of nothing", Due.IOOBE, FixtureTables::new, x -> x.written(i));
            Twins.refused("written(" + i + ") of nothing", Due.IOOBE, () -> table(0), x -> x.written(i));
        }
    }

    private static void writtenLatest() {
        FixtureTables x = Twins.rich(0);
        Due.table(x, 1, "1(01):5,1;");
        Due.raises("behind the shorter one", Due.IOOBE, () -> x.written(10));
        Due.table(x, 0, "0(01):1,a:2,b;");
        Due.text(x, "1(0);0(0);");
        x.read();
        Due.is("DELETE ALL", 3, () -> x.apply(4));
        Due.same("other calls leave it", "0(01):1,a:2,b;", Due.writtenText(x));
        Due.table(x, 0, "0(01);");
        Due.raises("behind the shorter one", Due.IOOBE, () -> x.written(6));
        x.column(0, 0, false, -1);
        Due.same("other calls leave it", "0(01);", Due.writtenText(x));
        Due.table(x, 0, "0(012);");
    }

    /** What was written is a dataset without a difference. */
    private static void writtenAndRead() {
        FixtureTables x = table(2, 0, 1, 3);
        Due.applied(x, "0(0123):'''~ ',-999999999,-0.01,t:'',~,~,~:z,0,100,f;", 0, 3);
        x.write(0);
        String text = Due.writtenText(x);
        Due.same("what was written", "0(0123):'',~,~,~:'''~ ',-999999999,-0.01,t:z,0,100.00,f;", text);
        Due.dataset(x, text, 3);
        Due.is("compare", 0, () -> x.compare(0, 0));
        Due.is("CLEAN INSERT", 6, () -> x.apply(5));
        Due.table(x, 0, text);
    }
}
