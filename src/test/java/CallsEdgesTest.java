/** "An object is used for at most 512 calls after it has been made": the last one answers as promised, too. */
public final class CallsEdgesTest {
    private static final int CALLS = 512;

    public static void main(String[] args) {
        refusedCalls();
        questions();
        characters();
        operations();
        transactions();
        reads();
        comparisons();
        writings();
        Due.end();
    }

    private static void refusedCalls() {
        FixtureTables x = new FixtureTables();
        for (int i = 1; i < CALLS; i++) {
            Due.raises("call " + i, Due.ISE, () -> x.commit());
        }
        Due.is("the last call", 0, () -> x.table());
    }

    private static void questions() {
        FixtureTables x = new FixtureTables();
        for (int i = 1; i < CALLS; i++) {
            Due.is("call " + i, -1, () -> x.fault());
        }
        Due.raises("the last call", Due.IOOBE, () -> x.rows(0));
    }

    private static void characters() {
        FixtureTables x = new FixtureTables();
        for (int i = 1; i <= 391; i++) {
            boolean taken = i <= 120;
            Due.is("call " + i, taken ? 1 : 0, () -> x.type('1') ? 1 : 0);
        }
        x.wipe();
        for (int i = 393; i < CALLS; i++) {
            Due.is("call " + i, 1, () -> x.type('1') ? 1 : 0);
        }
        Due.is("the last call", 1, () -> x.type('1') ? 1 : 0);
    }

    private static void operations() {
        FixtureTables x = new FixtureTables();
        x.table();
        x.column(0, 0, false, -1);
        Due.text(x, "0(0):1;");
        x.read();
        for (int i = 12; i < CALLS; i++) {
            Due.is("call " + i, 1, () -> x.apply(2));
        }
        Due.is("the last call", 1, () -> x.rows(0));
    }

    private static void transactions() {
        FixtureTables x = new FixtureTables();
        for (int i = 1; i < CALLS - 1; i += 6) {
            for (int open = 1; open <= 3; open++) {
                int number = open;
                Due.is("begin", number, () -> x.begin());
            }
            for (int open = 2; open >= 0; open--) {
                int number = open;
                Due.is("the end", number, () -> number == 1 ? x.rollback() : x.commit());
            }
        }
        Due.is("call 511", 1, () -> x.begin());
        Due.is("the last call", 2, () -> x.begin());
    }

    private static void reads() {
        FixtureTables x = new FixtureTables();
        for (int i = 1; i < CALLS - 2; i += 5) {
            Due.is("no characters", 0, () -> x.read());
            x.type('0');
            Due.raises("a wrong text", Due.IAE, () -> x.read());
            Due.is("fault", 0, () -> x.fault());
            x.wipe();
        }
        Due.raises("call 511", Due.ISE, () -> x.rollback());
        Due.is("the last call", 0, () -> x.compare(0, 0));
    }

    private static void comparisons() {
        FixtureTables x = new FixtureTables();
        x.table();
        x.column(0, 3, false, -1);
        Due.text(x, "0(0):t;");
        x.read();
        for (int i = 12; i < CALLS; i++) {
            Due.is("call " + i, 1, () -> x.compare(0, 0));
        }
        Due.is("the last call", -1, () -> x.difference(0, 1));
    }

    private static void writings() {
        FixtureTables x = new FixtureTables();
        x.table();
        x.column(0, 3, false, -1);
        for (int i = 3; i < CALLS; i++) {
            Due.is("call " + i, 5, () -> x.write(0));
        }
        Due.is("the last call", ';', () -> x.written(4));
    }
}
