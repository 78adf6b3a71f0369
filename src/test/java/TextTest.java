/** Promises 4 (type), 5 (wipe), 6 (read) and 7 (fault). */
public final class TextTest {
    public static void main(String[] args) {
        typing();
        wiping();
        readingAgain();
        sections();
        columns();
        rows();
        integers();
        decimals();
        booleans();
        texts();
        limits();
        fullText();
        Due.end();
    }

    /** Table 0: one column of each type and an integer more; table 1: an integer; table 2: none. */
    private static FixtureTables tables() {
        FixtureTables x = new FixtureTables();
        x.table();
        x.table();
        x.table();
        x.column(0, 0, false, -1);
        x.column(0, 1, false, -1);
        x.column(0, 2, false, -1);
        x.column(0, 3, false, -1);
        x.column(1, 0, false, -1);
        return x;
    }

    private static void good(String text, int rows) {
        Due.dataset(tables(), text, rows);
    }

    private static void bad(String text, int fault) {
        Due.noDataset(tables(), text, fault);
    }

    /** What a cell is read as, in a column behind a key. */
    private static void cell(int column, String text, long want) {
        FixtureTables x = tables();
        Due.applied(x, "0(0" + column + "):1," + text + ";", 0, 1);
        Due.is("value of " + text, want, () -> x.value(0, 0, column));
        Due.is("isNull of " + text, text.equals("~") ? 1 : 0, () -> x.isNull(0, 0, column) ? 1 : 0);
    }

    private static void typing() {
        FixtureTables x = tables();
        for (int i = 0; i < 120; i++) {
            char c = (char) (i * 701);
            Due.is("type " + i, 1, () -> x.type(c) ? 1 : 0);
        }
        Due.is("the 121st is refused", 0, () -> x.type('0') ? 1 : 0);
        Due.is("the 122nd is refused", 0, () -> x.type('0') ? 1 : 0);
        Due.raises("read", Due.IAE, () -> x.read());
        Due.is("fault", 0, () -> x.fault());
        x.wipe();
        Due.is("type behind wipe", 1, () -> x.type('1') ? 1 : 0);
    }

    private static void wiping() {
        FixtureTables x = tables();
        Due.text(x, "x");
        x.wipe();
        Due.is("read of the wiped text", 0, () -> x.read());
        Due.text(x, "1(0):1:2;");
        Due.is("read", 2, () -> x.read());
        x.wipe();
        Due.is("wipe leaves the dataset", 2, () -> x.apply(0));
        x.wipe();
        Due.is("wipe of the empty text", 0, () -> x.read());
        Due.dataset(x, "1(0):123456;", 1);
        Due.noDataset(x, "1(0):1", 6);
        Due.noDataset(x, "1(0)", 4);
        Due.noDataset(x, "1", 1);
    }

    private static void readingAgain() {
        FixtureTables x = tables();
        Due.dataset(x, "1(0):1:2;", 2);
        Due.is("the text stays", 2, () -> x.read());
        x.type('!');
        Due.raises("read of a wrong text", Due.IAE, () -> x.read());
        Due.is("fault", 9, () -> x.fault());
        Due.is("the dataset stays", 2, () -> x.apply(0));
        Due.is("apply leaves the fault", 9, () -> x.fault());
        x.wipe();
        Due.is("wipe leaves the fault", 9, () -> x.fault());
        Due.is("read", 0, () -> x.read());
        Due.is("no fault now", -1, () -> x.fault());
        Due.is("the dataset is the new one", 0, () -> x.apply(4));
    }

    private static void sections() {
        good("", 0);
        good("1(0);", 0);
        good("1(0):5;0(0):1;1(0);", 2);
        bad("x", 0);
        bad("2(0);", 0);
        bad("3(0);", 0);
        bad(":", 0);
        bad(";", 0);
        bad("\u0000", 0);
        bad("\u0131(0);", 0);
        bad("1", 1);
        bad("1;", 1);
        bad("11(0);", 1);
        bad("1(0)", 4);
        bad("1(0);;", 5);
        bad("1(0); ", 5);
        bad("1(0);2", 5);
        bad(" 1(0);", 0);
    }

    private static void columns() {
        good("0(3);", 0);
        good("0(3201);", 0);
        bad("0(", 2);
        bad("0()", 2);
        bad("0(4)", 2);
        bad("0(00)", 3);
        bad("0(0120)", 5);
        bad("0(01230)", 6);
        bad("0(014)", 4);
        bad("0(0", 3);
        bad("0(0,1)", 3);
        bad("1(1)", 2);
        bad("1(0:", 3);
    }

    private static void rows() {
        good("1(0):1:2:3;", 3);
        good("0(03):1,t:2,f:~,~;", 3);
        bad("1(0)1;", 4);
        bad("1(0):", 5);
        bad("1(0):;", 5);
        bad("1(0)::", 5);
        bad("1(0):1,2;", 6);
        bad("0(03):1;", 7);
        bad("0(03):1:", 7);
        bad("0(03):1,;", 8);
        bad("0(03):1,t,;", 9);
        bad("0(03):1,t", 9);
        bad("1(0):~~;", 6);
        bad("1(0):~1;", 6);
    }

    private static void integers() {
        FixtureTables x = tables();
        Due.applied(x, "1(0):-0:000000012:999999999:-999999999:-7;", 0, 5);
        Due.table(x, 1, "1(0):-999999999:-7:0:12:999999999;");
        good("1(0):~;", 1);
        bad("1(0):1234567890;", 14);
        bad("1(0):-1234567890;", 15);
        bad("1(0):-;", 6);
        bad("1(0):--1;", 6);
        bad("1(0):+1;", 5);
        bad("1(0):1.0;", 6);
        bad("1(0):1-;", 6);
        bad("1(0): 1;", 5);
        bad("1(0):a;", 5);
        bad("1(0):t;", 5);
        bad("1(0):'1';", 5);
        bad("1(0):-~;", 6);
    }

    private static void decimals() {
        cell(1, "1", 100);
        cell(1, "-1", -100);
        cell(1, "0.5", 50);
        cell(1, "0.05", 5);
        cell(1, "-0.05", -5);
        cell(1, "-0", 0);
        cell(1, "-0.00", 0);
        cell(1, "12.3", 1230);
        cell(1, "999999.99", 99999999);
        cell(1, "-999999.99", -99999999);
        cell(1, "000001.10", 110);
        cell(1, "~", 0);
        bad("0(1):;", 5);
        bad("0(1):-;", 6);
        bad("0(1):x;", 5);
        bad("0(1):.5;", 5);
        bad("0(1):-.5;", 6);
        bad("0(1):1.;", 7);
        bad("0(1):1.", 7);
        bad("0(1):1.234;", 9);
        bad("0(1):1.2.3;", 8);
        bad("0(1):1234567;", 11);
        bad("0(1):1234567.1;", 11);
        bad("0(1):-1234567;", 12);
        bad("0(1):1.-1;", 7);
        bad("0(1):1,0;", 6);
    }

    private static void booleans() {
        cell(3, "t", 1);
        cell(3, "f", 0);
        cell(3, "~", 0);
        bad("0(3):x;", 5);
        bad("0(3):T;", 5);
        bad("0(3):1;", 5);
        bad("0(3):tt;", 6);
        bad("0(3):true;", 6);
        bad("0(3):;", 5);
    }

    private static long packed(String text) {
        long value = 0;
        for (int i = 0; i < 8; i++) {
            value = value * 128 + (i < text.length() ? text.charAt(i) : 0);
        }
        return value;
    }

    private static void texts() {
        cell(2, "a", 97L << 49);
        cell(2, "ab", (97L << 49) + (98L << 42));
        cell(2, "abcdefgh", packed("abcdefgh"));
        cell(2, "zzzzzzzz", packed("zzzzzzzz"));
        cell(2, "''", 0);
        cell(2, "''''", packed("'"));
        cell(2, "'it''s'", packed("it's"));
        cell(2, "''''''''''''''''''", packed("''''''''"));
        cell(2, "'1234567'''", packed("1234567'"));
        cell(2, "'(0):1,;'", packed("(0):1,;"));
        cell(2, "' ~ AZ~ '", packed(" ~ AZ~ "));
        cell(2, "'t'", packed("t"));
        cell(2, "~", 0);
        bad("0(2):;", 5);
        bad("0(2):,;", 5);
        bad("0(2):abcdefghi;", 13);
        bad("0(2):'abcdefghi';", 14);
        bad("0(2):'abcdefgh'';", 15);
        bad("0(2):'abcdefgh'''", 15);
        bad("0(2):'abcdefgh", 14);
        bad("0(2):'abcdefgh'", 15);
        bad("0(2):'ab", 8);
        bad("0(2):'ab'", 9);
        bad("0(2):'ab''", 10);
        bad("0(2):'", 6);
        bad("0(2):''", 7);
        bad("0(2):'''", 8);
        bad("0(2):'\u001f';", 6);
        bad("0(2):'a\u007f';", 7);
        bad("0(2):'a\u0161';", 7);
        bad("0(2):'a\u2061';", 7);
        bad("0(2):A;", 5);
        bad("0(2):aB;", 6);
        bad("0(2):a1;", 6);
        bad("0(2):a'b';", 6);
        bad("0(2):'a'b;", 8);
        bad("0(2):`;", 5);
        bad("0(2):{;", 5);
        bad("0(2):a~;", 6);
        bad("0(2):1;", 5);
    }

    private static void limits() {
        String section = "1(0);";
        good(section.repeat(6), 0);
        bad(section.repeat(7), 30);
        bad(section.repeat(6) + "!", 30);
        good("1(0)" + ":1".repeat(24) + ";", 24);
        bad("1(0)" + ":1".repeat(25) + ";", 4 + 48);
        bad("1(0)" + ":1".repeat(24), 4 + 48);
        good("1(0)" + ":1".repeat(12) + ";0(0)" + ":2".repeat(12) + ";1(0);", 24);
        bad("1(0)" + ":1".repeat(12) + ";0(0)" + ":2".repeat(12) + ";1(0):3;", 29 + 29 + 4);
    }

    private static void fullText() {
        String row = ":1,abcdefg";
        String text = "0(02)" + row.repeat(11);
        Due.is("the text's length", 115, () -> text.length());
        good(text + ":2,b;", 12);
        bad(text + ":2,bc;", 120);
        bad(text + ":2,'b", 120);
        bad(text + ":2,B;", 118);
        bad(text + row + ";", 120);
        bad(text + ":2222", 120);
        bad(text + ":2,bc", 120);
        bad(text + ":2,''", 120);
    }
}
