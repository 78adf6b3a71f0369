/** Promises 19 (write) and 20 (written). */
public final class WriteTest {
    public static void main(String[] args) {
        wrongCalls();
        emptyTables();
        integers();
        decimals();
        texts();
        booleans();
        nulls();
        longest();
        readsAgain();
        whatStays();
        Due.end();
    }

    private static FixtureTables table(int... types) {
        FixtureTables x = new FixtureTables();
        x.table();
        for (int type : types) {
            x.column(0, type, false, -1);
        }
        return x;
    }

    private static void wrongCalls() {
        FixtureTables x = new FixtureTables();
        Due.raises("no table", Due.IOOBE, () -> x.write(0));
        x.table();
        Due.raises("write(-1)", Due.IOOBE, () -> x.write(-1));
        Due.raises("write(1)", Due.IOOBE, () -> x.write(1));
        Due.raises("no columns", Due.ISE, () -> x.write(0));
        Due.raises("nothing was written", Due.IOOBE, () -> x.written(0));
        x.column(0, 0, false, -1);
        Due.is("write", 5, () -> x.write(0));
        Due.raises("written(-1)", Due.IOOBE, () -> x.written(-1));
        Due.raises("written(5)", Due.IOOBE, () -> x.written(5));
        Due.raises("written of the greatest", Due.IOOBE, () -> x.written(Integer.MAX_VALUE));
        Due.is("written(0)", '0', () -> x.written(0));
        Due.is("written(4)", ';', () -> x.written(4));
    }

    private static void emptyTables() {
        FixtureTables x = table(0, 1, 2, 3, 0);
        Due.table(x, 0, "0(01234);");
        for (int i = 1; i < 5; i++) {
            x.table();
        }
        x.column(4, 3, false, -1);
        Due.table(x, 4, "4(0);");
    }

    private static void integers() {
        FixtureTables x = table(0);
        Due.applied(x, "0(0):007:-0:10:-10:999999999:-999999999:100000000;", 0, 7);
        Due.table(x, 0, "0(0):-999999999:-10:0:7:10:100000000:999999999;");
    }

    private static void decimals() {
        FixtureTables x = table(1);
        Due.applied(x, "0(0):0:0.01:-0.01:0.1:-0.5:1:10.5:999999.99:-999999.99:-1:000100;", 0, 11);
        Due.table(x, 0, "0(0):-999999.99:-1.00:-0.50:-0.01:0.00:0.01:0.10:1.00:10.50:100.00:999999.99;");
    }

    private static void texts() {
        FixtureTables x = table(2);
        Due.applied(x, "0(0):'':'a':'abcdefgh':'''':'it''s':'A':'a b':'a1':zzzzzzzz:'`':'{':'az~';", 0, 12);
        Due.table(x, 0, "0(0):'':'''':'A':'`':a:'a b':'a1':abcdefgh:'az~':'it''s':zzzzzzzz:'{';");
    }

    private static void booleans() {
        FixtureTables x = table(3, 3);
        Due.applied(x, "0(01):t,f:f,t;", 0, 2);
        Due.table(x, 0, "0(01):f,t:t,f;");
    }

    private static void nulls() {
        FixtureTables x = table(0, 0, 1, 2, 3);
        Due.applied(x, "0(0):1;", 0, 1);
        Due.table(x, 0, "0(01234):1,~,~,~,~;");
    }

    /** As long as it gets within the calls that an object is used for. */
    private static void longest() {
        FixtureTables x = table(2, 2, 2, 2, 2);
        String cell = "'".repeat(18);
        StringBuilder want = new StringBuilder("0(01234)");
        for (int row = 0; row < 4; row++) {
            String cells = ":" + "'".repeat(15) + row + "'" + ("," + cell).repeat(4);
            want.append(cells);
            Due.text(x, "0(01234)" + cells + ";");
            Due.is("read", 1, () -> x.read());
            Due.is("apply", 1, () -> x.apply(0));
        }
        want.append(';');
        Due.is("write", want.length(), () -> x.write(0));
        for (int i = want.length() - 60; i < want.length(); i++) {
            int place = i;
            Due.is("written(" + i + ")", want.charAt(i), () -> x.written(place));
        }
        Due.raises("written behind the last", Due.IOOBE, () -> x.written(want.length()));
    }

    private static void readsAgain() {
        FixtureTables x = table(2, 0, 1);
        Due.applied(x, "0(012):'a''',-5,-0.05:b,~,3;", 0, 2);
        x.write(0);
        String text = Due.writtenText(x);
        Due.dataset(x, text, 2);
        Due.is("no difference", 0, () -> x.compare(0, 0));
    }

    private static void whatStays() {
        FixtureTables x = table(0);
        x.table();
        Due.applied(x, "0(0):5;", 0, 1);
        Due.is("write", 7, () -> x.write(0));
        Due.raises("no such table", Due.IOOBE, () -> x.write(2));
        Due.raises("no columns", Due.ISE, () -> x.write(1));
        Due.same("what was written", "0(0):5;", Due.writtenText(x));
        Due.is("apply", 1, () -> x.apply(3));
        Due.same("what was written", "0(0):5;", Due.writtenText(x));
        Due.table(x, 0, "0(0);");
        Due.raises("a shorter one", Due.IOOBE, () -> x.written(5));
    }
}
