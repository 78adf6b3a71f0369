/** The edges of promises 4 (type), 5 (wipe), 6 (read) and 7 (fault); each test quotes its sentence. */
public final class TextEdgesTest {
    private static final String DIGITS = "0123456789";
    private static final String LETTERS = "abcdefghijklmnopqrstuvwxyz";

    public static void main(String[] args) {
        fullText();
        refusedCharacters();
        anyCharacter();
        wipedText();
        wipeLeavesTheRest();
        noCharacters();
        rowsOfAllSections();
        datasetBeforeStays();
        textStays();
        noFault();
        latestFault();
        sections();
        columns();
        rows();
        cellsForEachColumn();
        nullCells();
        integers();
        integersAtTheirEnds();
        decimals();
        decimalsAtTheirEnds();
        booleans();
        letters();
        quotedTexts();
        doubledQuotes();
        textsAtTheirEnds();
        sixSections();
        twentyFourRows();
        everyBeginning();
        longerDatasets();
        Due.end();
    }

    /** Table 0: integer, decimal, text, boolean; table 1: a text; table 2: none; there is no table 3. */
    private static FixtureTables tables() {
        FixtureTables x = new FixtureTables();
        x.table();
        x.table();
        x.table();
        for (int type = 0; type < 4; type++) {
            x.column(0, type, false, -1);
        }
        x.column(1, 2, false, -1);
        return x;
    }

    private static FixtureTables typed(String text) {
        FixtureTables x = tables();
        Due.text(x, text);
        return x;
    }

    private static void good(String text, int rows) {
        Due.dataset(tables(), text, rows);
    }

    private static void bad(String text, int fault) {
        Due.noDataset(tables(), text, fault);
    }

    private static void cell(int column, String text, long want) {
        FixtureTables x = tables();
        Due.applied(x, "0(0" + column + "):1," + text + ";", 0, 1);
        Due.is("value of " + text, want, () -> x.value(0, 0, column));
        Due.is("isNull of " + text, text.equals("~") ? 1 : 0, () -> x.isNull(0, 0, column) ? 1 : 0);
    }

    /** These characters may stand behind a beginning, and no other ones; those of ends make it a dataset. */
    private static void follow(String beginning, String more, String ends) {
        for (char c = 0; c < 256; c++) {
            followOne(beginning, c, more.indexOf(c) >= 0, ends.indexOf(c) >= 0);
        }
        for (char c : (more + ends).toCharArray()) {
            followOne(beginning, (char) (c + 0x100), false, false);
            followOne(beginning, (char) (c + 0xFF00), false, false);
        }
    }

    private static void followOne(String beginning, char c, boolean more, boolean end) {
        FixtureTables x = typed(beginning);
        x.type(c);
        int length = beginning.length();
        String text = beginning + c + " (" + (int) c + ")";
        Due.raises("read of " + text, end ? 0 : Due.IAE, () -> x.read());
        Due.is("fault of " + text, end ? -1 : more ? length + 1 : length, () -> x.fault());
    }

    private static String printable() {
        StringBuilder all = new StringBuilder();
        for (char c = 32; c <= 126; c++) {
            all.append(c);
        }
        return all.toString();
    }

    /** "false, refused, if there are 120."; "THE TEXT has at most 120 characters" */
    private static void fullText() {
        FixtureTables x = tables();
        String text = "0(0)" + ":12345678".repeat(12) + ":123456;";
        Due.is("a text's length", 120, () -> text.length());
        for (int i = 0; i < 120; i++) {
            char c = text.charAt(i);
            Due.is("character " + i, 1, () -> x.type(c) ? 1 : 0);
        }
        Due.is("the 121st", 0, () -> x.type(';') ? 1 : 0);
        Due.is("the 122nd", 0, () -> x.type('1') ? 1 : 0);
        Due.is("read of 120 characters", 13, () -> x.read());
        FixtureTables y = typed("1(0):" + "a".repeat(8) + ":'12345678'".repeat(9) + ":abcdefg");
        Due.is("the 121st, that would end it", 0, () -> y.type(';') ? 1 : 0);
        Due.raises("read", Due.IAE, () -> y.read());
        Due.is("fault at the text's end", 120, () -> y.fault());
    }

    private static void refusedCharacters() {
        String full = "!".repeat(120);
        Twins.answered("a character refused", 0, () -> typed(full), x -> x.type(';') ? 1 : 0);
        Twins.answered("a character refused", 0, () -> richWithText("0".repeat(120)), x -> x.type('1') ? 1 : 0);
        Twins.answered("the 120th is taken", 1, () -> richWithText("0".repeat(119)), x -> x.type('1') ? 1 : 0,
                Twins.TEXT);
    }

    private static FixtureTables richWithText(String text) {
        FixtureTables x = Twins.rich(1);
        Due.text(x, text);
        return x;
    }

    /** "A character more of the text, whatever it is" */
    private static void anyCharacter() {
        for (int c : new int[] {0, 1, 9, 10, 13, 31, 32, 126, 127, 128, 255, 256, 0xD800, 0xDFFF, 0xFFFE, 0xFFFF}) {
            FixtureTables x = tables();
            Due.is("type(" + c + ")", 1, () -> x.type((char) c) ? 1 : 0);
            Due.raises("read", Due.IAE, () -> x.read());
            Due.is("fault", 0, () -> x.fault());
            FixtureTables y = typed("1(0);");
            Due.is("type(" + c + ")", 1, () -> y.type((char) c) ? 1 : 0);
            Due.raises("read", Due.IAE, () -> y.read());
            Due.is("fault", 5, () -> y.fault());
        }
    }

    /** "The text is empty." */
    private static void wipedText() {
        FixtureTables x = tables();
        x.wipe();
        Due.is("read of no text wiped", 0, () -> x.read());
        Due.text(x, "!".repeat(120));
        x.wipe();
        Due.is("read of a full text wiped", 0, () -> x.read());
        for (int i = 0; i < 120; i++) {
            Due.is("type behind wipe", 1, () -> x.type('?') ? 1 : 0);
        }
        Due.is("the 121st behind wipe", 0, () -> x.type('?') ? 1 : 0);
        x.wipe();
        x.wipe();
        Due.dataset(x, "1(0):a;", 1);
        x.wipe();
        x.type('1');
        Due.raises("nothing of the text before is left", Due.IAE, () -> x.read());
        Due.is("fault", 1, () -> x.fault());
        FixtureTables y = typed("0(01):1234567,12.34:1,1;0(2):'a''b';");
        String[] shorter = {"0(01):12", "0(01):1,12", "0(01):1,1.", "0(0)", "0(", "0", "0(2):'a'", "0(2):''"};
        for (String text : shorter) {
            Due.noDataset(y, text, text.length());
        }
    }

    private static void wipeLeavesTheRest() {
        Twins.answered("wipe", 0, () -> Twins.rich(2), x -> {
            x.wipe();
            return 0;
        }, Twins.TEXT);
        Twins.answered("wipe", 0, () -> Twins.rich(0), x -> {
            x.wipe();
            return 0;
        }, Twins.TEXT);
    }

    /** "no characters are a dataset without sections." */
    private static void noCharacters() {
        FixtureTables x = Twins.rich(0);
        x.wipe();
        Due.is("read", 0, () -> x.read());
        Due.is("fault", -1, () -> x.fault());
        Due.is("compare", 0, () -> x.compare(0, 0));
        Due.raises("difference", Due.IOOBE, () -> x.difference(0, 0));
        for (int operation = 0; operation < 6; operation++) {
            int number = operation;
            Due.is("apply(" + operation + ")", 0, () -> x.apply(number));
            Due.failure(x, "of no sections", 0, -1, -1, -1);
        }
        Due.is("rows(0)", 2, () -> x.rows(0));
        Due.is("rows(1)", 1, () -> x.rows(1));
    }

    /** "Reads the text as a dataset: how many rows." */
    private static void rowsOfAllSections() {
        good("1(0);", 0);
        good("1(0);0(0123);", 0);
        good("1(0):a;", 1);
        good("1(0):a;0(0);1(0):b:~;", 3);
        good("0(0):1:2;0(0):1:2;0(0):1:2;", 6);
    }

    /** "IllegalArgumentException if it is none (the one read before stays)." */
    private static void datasetBeforeStays() {
        Twins.unread("a text of one wrong character", () -> richWithText("!"), 0);
        Twins.unread("a text that stops", () -> richWithText("0(01):1,a"), 9);
        Twins.unread("a text that is wrong behind a section", () -> richWithText("0(0):7:8:9;3"), 11);
        Twins.unread("a full text", () -> richWithText("0(0)" + ":1".repeat(58)), 52);
        Twins.unread("seven sections", () -> richWithText("0(0);".repeat(7)), 30);
        Twins.unread("no dataset ever", () -> typed("1(0):abcdefghi;"), 13);
    }

    /** "(The text stays" */
    private static void textStays() {
        FixtureTables x = typed("1(0):a");
        Due.raises("read", Due.IAE, () -> x.read());
        Due.raises("read again", Due.IAE, () -> x.read());
        Due.is("fault", 6, () -> x.fault());
        x.type(';');
        Due.is("one character more", 1, () -> x.read());
        Due.is("read again", 1, () -> x.read());
        Due.is("apply", 1, () -> x.apply(0));
        x.type('1');
        Due.raises("and one more", Due.IAE, () -> x.read());
        Due.is("fault", 8, () -> x.fault());
    }

    /** "-1 if it did not throw, or there was none." */
    private static void noFault() {
        FixtureTables x = new FixtureTables();
        Due.is("no read", -1, () -> x.fault());
        x.type('!');
        Due.is("a wrong text, but no read", -1, () -> x.fault());
        Due.raises("read", Due.IAE, () -> x.read());
        Due.is("fault", 0, () -> x.fault());
        x.wipe();
        Due.is("the text is wiped, but not read", 0, () -> x.fault());
        Due.is("read", 0, () -> x.read());
        Due.is("it did not throw", -1, () -> x.fault());
    }

    /** "Where the latest read() threw" */
    private static void latestFault() {
        FixtureTables x = tables();
        Due.noDataset(x, "1(0):a;!", 7);
        Due.noDataset(x, "!", 0);
        Due.noDataset(x, "1(", 2);
        x.column(1, 0, false, -1);
        x.table();
        x.begin();
        Due.is("other calls leave it", 2, () -> x.fault());
        x.rollback();
        Due.is("other calls leave it", 2, () -> x.fault());
        Due.dataset(x, "1(1):5;", 1);
        Due.raises("an apply that fails", Due.ISE, () -> x.apply(0));
        Due.is("leaves it", -1, () -> x.fault());
    }

    /** "a row of SECTIONS (also none): a table's number (one digit), (" */
    private static void sections() {
        follow("", "01", "");
        follow("0", "(", "");
        follow("1", "(", "");
        follow("1(0);", "01", "");
        follow("1(0):a;", "01", "");
        follow("1(0);0", "(", "");
        FixtureTables none = new FixtureTables();
        Due.dataset(none, "", 0);
        Due.noDataset(none, "0", 0);
        FixtureTables five = new FixtureTables();
        for (int table = 0; table < 5; table++) {
            five.table();
            five.column(table, 3, false, -1);
        }
        Due.dataset(five, "4(0):t;0(0):f;", 2);
        Due.noDataset(five, "5(0):t;", 0);
        Due.noDataset(five, "04(0):t;", 1);
    }

    /** "one or more different columns of it (digits), )" */
    private static void columns() {
        follow("0(", "0123", "");
        follow("0(0", "123)", "");
        follow("0(2", "013)", "");
        follow("0(310", "2)", "");
        follow("0(3102", ")", "");
        follow("1(", "0", "");
        follow("1(0", ")", "");
        FixtureTables five = new FixtureTables();
        five.table();
        for (int column = 0; column < 5; column++) {
            five.column(0, 3, false, -1);
        }
        Due.dataset(five, "0(43210):t,t,t,t,t;", 1);
        Due.noDataset(five, "0(432104", 7);
        Due.noDataset(five, "0(5", 2);
    }

    /** "ROWS (also none), and ;. A row is : and a CELL" */
    private static void rows() {
        follow("1(0)", ":", ";");
        follow("0(3):t", ":", ";");
        follow("0(3):t:f", ":", ";");
    }

    /** "a CELL for each of these columns, with , between them." */
    private static void cellsForEachColumn() {
        follow("0(32):t", ",", "");
        follow("0(32):t,", LETTERS + "'~", "");
        follow("0(23):a,t", ":", ";");
        follow("0(3021):t,5,b", LETTERS + ",", "");
        follow("0(3021):t,5,b,~", ":", ";");
        follow("0(3021):t,5,b,~:", "tf~", "");
    }

    /** "A cell is ~ (null)" */
    private static void nullCells() {
        for (int column = 0; column < 4; column++) {
            follow("0(" + column + "):~", ":", ";");
            cell(Math.max(column, 1), "~", 0);
        }
        FixtureTables x = tables();
        Due.applied(x, "0(0123):1,~,~,~;", 0, 1);
        Due.table(x, 0, "0(0123):1,~,~,~;");
    }

    /** "INTEGER: perhaps -, 1 to 9 digits" */
    private static void integers() {
        follow("0(0):", DIGITS + "-~", "");
        follow("0(0):-", DIGITS, "");
        follow("0(0):0", DIGITS + ":", ";");
        follow("0(0):-9", DIGITS + ":", ";");
        follow("0(0):12345678", DIGITS + ":", ";");
        follow("0(0):123456789", ":", ";");
        follow("0(0):-12345678", DIGITS + ":", ";");
        follow("0(0):-123456789", ":", ";");
        follow("0(0):000000000", ":", ";");
        follow("0(01):123456789", ",", "");
    }

    /** "(zeros in front, too; -0 is 0)" */
    private static void integersAtTheirEnds() {
        FixtureTables x = tables();
        Due.applied(x, "0(0):999999999:-999999999:000000001:-000000002:-0;", 0, 5);
        long[] want = {-999999999, -2, 0, 1, 999999999};
        for (int i = 0; i < want.length; i++) {
            int row = i;
            Due.is("integer " + i, want[i], () -> x.value(0, row, 0));
        }
        Due.fails(x, "0(0):000000000;", 0, 2, 0, 0, -1);
        Due.fails(x, "0(0):-000000000;", 0, 2, 0, 0, -1);
        Due.fails(x, "0(0):01;", 0, 2, 0, 0, -1);
    }

    /** "DECIMAL: perhaps -, 1 to 6 digits, perhaps . and 1 or 2 digits"; "they don't stand without digits ahead)" */
    private static void decimals() {
        follow("0(1):", DIGITS + "-~", "");
        follow("0(1):-", DIGITS, "");
        follow("0(1):0", DIGITS + ".:", ";");
        follow("0(1):12345", DIGITS + ".:", ";");
        follow("0(1):123456", ".:", ";");
        follow("0(1):-12345", DIGITS + ".:", ";");
        follow("0(1):-123456", ".:", ";");
        follow("0(1):1.", DIGITS, "");
        follow("0(1):123456.", DIGITS, "");
        follow("0(1):1.2", DIGITS + ":", ";");
        follow("0(1):1.23", ":", ";");
        follow("0(1):-123456.78", ":", ";");
        follow("0(10):1.23", ",", "");
    }

    /** "(of which .5 is 50 hundredths" */
    private static void decimalsAtTheirEnds() {
        cell(1, "0.5", 50);
        cell(1, "0.50", 50);
        cell(1, "0.05", 5);
        cell(1, "-0.5", -50);
        cell(1, "-0.01", -1);
        cell(1, "-0.0", 0);
        cell(1, "0", 0);
        cell(1, "1", 100);
        cell(1, "1.0", 100);
        cell(1, "000000.00", 0);
        cell(1, "000009.9", 990);
        cell(1, "999999", 99999900);
        cell(1, "999999.99", 99999999);
        cell(1, "-999999", -99999900);
        cell(1, "-999999.99", -99999999);
    }

    /** "BOOLEAN: t or f." */
    private static void booleans() {
        follow("0(3):", "tf~", "");
        follow("0(3):f", ":", ";");
        cell(3, "t", 1);
        cell(3, "f", 0);
    }

    /** "TEXT: 1 to 8 letters a .. z" */
    private static void letters() {
        follow("1(0):", LETTERS + "'~", "");
        follow("1(0):a", LETTERS + ":", ";");
        follow("1(0):z", LETTERS + ":", ";");
        follow("1(0):abcdefg", LETTERS + ":", ";");
        follow("1(0):abcdefgh", ":", ";");
        follow("0(23):abcdefgh", ",", "");
        cell(2, "a", 97L << 49);
        cell(2, "z", 122L << 49);
        cell(2, "zzzzzzzz", packed("zzzzzzzz"));
    }

    /** "or, between two ', at most 8 characters (also none)"; "(at most 8 characters, 32 .. 126)" */
    private static void quotedTexts() {
        follow("1(0):'", printable(), "");
        follow("1(0):''", "':", ";");
        follow("1(0):'a", printable(), "");
        follow("1(0):'a'", "':", ";");
        follow("1(0):'1234567", printable(), "");
        follow("1(0):'1234567'", "':", ";");
        follow("1(0):'12345678", "'", "");
        follow("1(0):'12345678'", ":", ";");
        follow("0(23):'12345678'", ",", "");
        follow("0(23):''", "',", "");
    }

    /** "of which ' is written twice." */
    private static void doubledQuotes() {
        follow("1(0):'''", printable(), "");
        follow("1(0):''''", "':", ";");
        follow("1(0):'1234567''", "'", "");
        follow("1(0):'1234567'''", ":", ";");
        follow("1(0):'" + "''".repeat(7), printable(), "");
        follow("1(0):'" + "''".repeat(7) + "'", "':", ";");
        follow("1(0):'" + "''".repeat(8), "'", "");
        follow("1(0):'" + "''".repeat(8) + "'", ":", ";");
        follow("1(0):'''234567", printable(), "");
        follow("1(0):'''2345678", "'", "");
    }

    private static void textsAtTheirEnds() {
        cell(2, "''", 0);
        cell(2, "' '", 32L << 49);
        cell(2, "'~'", 126L << 49);
        cell(2, "''''", 39L << 49);
        cell(2, "'        '", packed("        "));
        cell(2, "'~~~~~~~~'", packed("~~~~~~~~"));
        cell(2, "'" + "''".repeat(8) + "'", packed("''''''''"));
        cell(2, "'1234567'''", packed("1234567'"));
        cell(2, "'       a'", packed("       a"));
        cell(2, "':,;()~'", packed(":,;()~"));
        Due.is("eight ~", (1L << 56) - 1 - 0x02040810204081L, () -> packed("~~~~~~~~"));
    }

    private static long packed(String text) {
        long value = 0;
        for (int i = 0; i < text.length(); i++) {
            value += (long) text.charAt(i) << 49 - 7 * i;
        }
        return value;
    }

    /** "At most 6 sections" */
    private static void sixSections() {
        follow("1(0);".repeat(5), "01", "");
        follow("1(0);".repeat(6), "", "");
        follow("1(0):a;".repeat(6), "", "");
        good("1(0);0(0);".repeat(3), 0);
        bad("1(0);0(0);".repeat(3) + "1(0);", 30);
    }

    /** "24 rows in all." */
    private static void twentyFourRows() {
        follow("0(3)" + ":t".repeat(23), ":", ";");
        follow("0(3)" + ":t".repeat(24), "", ";");
        String halves = "0(3)" + ":t".repeat(12) + ";0(3)" + ":t".repeat(11);
        follow(halves, ":", ";");
        follow(halves + ":f", "", ";");
        follow(halves + ":f;", "01", "");
        follow(halves + ":f;1(0)", "", ";");
        good(halves + ":f;1(0);0(0);", 24);
        bad(halves + ":f;1(0);0(0):", 67);
        String sixths = ("0(3)" + ":t".repeat(4) + ";").repeat(5) + "0(3)" + ":t".repeat(3);
        follow(sixths, ":", ";");
        follow(sixths + ":t", "", ";");
        good(sixths + ":t;", 24);
    }

    /**
     * "the place of the character with which it is the beginning of no dataset any more (the text's length at its
     * end)"
     */
    private static void everyBeginning() {
        String text = "0(3210):t,'it''s',-12.05,007:~,abc,3,~;1(0);0(2):'':~;";
        for (int length = 0; length <= text.length(); length++) {
            String beginning = text.substring(0, length);
            if (length == 0 || length == 39 || length == 44 || length == text.length()) {
                good(beginning, length == 0 ? 0 : length == text.length() ? 4 : 2);
            } else {
                bad(beginning, length);
            }
            bad(beginning + "\u0000" + text.substring(length), length);
        }
    }

    /** "(what would be the beginning of a longer dataset is wrong at the text's end alone)" */
    private static void longerDatasets() {
        String most = "1(0)" + ":abcdefgh".repeat(12) + ":abcdef";
        Due.is("a length", 119, () -> most.length());
        good(most + ";", 13);
        bad(most, 119);
        bad(most + "g", 120);
        bad(most + ":", 120);
        bad(most + ",", 119);
        String second = "1(0)" + ":abcdefgh".repeat(12) + ":abc;1(";
        Due.is("a length", 119, () -> second.length());
        bad(second + "0", 120);
        bad(second + "1", 119);
        bad("1(0)" + ":abcdefgh".repeat(12) + ":abcd;1(", 120);
        bad("1(0)" + ":abcdefgh".repeat(12) + ":abcde;1", 120);
        bad("1(0)" + ":abcdefgh".repeat(12) + ":abcde;2", 119);
        bad("1(0)" + ":abcdefgh".repeat(11) + ":12345", 104);
        bad("1(0)" + ":''''''".repeat(16) + ":'12", 120);
    }
}
