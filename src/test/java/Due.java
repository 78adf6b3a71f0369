/** What the tests share: answers that are due, counted where they are not given. */
final class Due {
    static final int ISE = 1;
    static final int IAE = 2;
    static final int IOOBE = 3;
    static final int UOE = 4;
    static final int OTHER = 5;
    private static final String[] NAMES = {"nothing", "IllegalStateException", "IllegalArgumentException",
        "IndexOutOfBoundsException", "UnsupportedOperationException", "another exception"};

    private static int wrong = 0;
    private static int asked = 0;

    interface Call {
        long run();
    }

    private Due() {
    }

    static void is(String what, long want, Call call) {
        asked++;
        long got = 0;
        int kind = 0;
        try {
            got = call.run();
        } catch (RuntimeException e) {
            kind = kindOf(e);
        }
        if (kind != 0) {
            tell(what + " threw " + NAMES[kind] + ", due is " + want);
        } else if (got != want) {
            tell(what + " answered " + got + ", due is " + want);
        }
    }

    static void raises(String what, int want, Call call) {
        asked++;
        int kind = 0;
        try {
            call.run();
        } catch (RuntimeException e) {
            kind = kindOf(e);
        }
        if (kind != want) {
            tell(what + " threw " + NAMES[kind] + ", due is " + NAMES[want]);
        }
    }

    static void same(String what, String want, String got) {
        asked++;
        if (!want.equals(got)) {
            tell(what + " is " + got + ", due is " + want);
        }
    }

    /** Numbers that are none of 0 .. count - 1: the next ones, those that a cast would wrap, and the farthest. */
    static int[] outside(int count) {
        return new int[] {-1, count, -256, 256, 65536, Integer.MIN_VALUE, Integer.MAX_VALUE};
    }

    /** So many tables of a key of a type, and nothing else. */
    static FixtureTables keys(int tables, int type) {
        FixtureTables x = new FixtureTables();
        for (int table = 0; table < tables; table++) {
            x.table();
            x.column(table, type, false, -1);
        }
        return x;
    }

    /** Types a text in place of what was there. */
    static void text(FixtureTables x, String text) {
        x.wipe();
        for (int i = 0; i < text.length(); i++) {
            x.type(text.charAt(i));
        }
    }

    /** The same object, when it has read a text that is a dataset. */
    static FixtureTables read(FixtureTables x, String text) {
        text(x, text);
        x.read();
        return x;
    }

    /** The same object, when it has inserted the rows of each text. */
    static FixtureTables inserted(FixtureTables x, String... texts) {
        for (String text : texts) {
            read(x, text).apply(0);
        }
        return x;
    }

    /** A text that is a dataset: read. */
    static void dataset(FixtureTables x, String text, int rows) {
        text(x, text);
        is("read of " + text, rows, () -> x.read());
        is("fault of " + text, -1, () -> x.fault());
    }

    /** A text that is none: refused at a place. */
    static void noDataset(FixtureTables x, String text, int fault) {
        text(x, text);
        raises("read of " + text, IAE, () -> x.read());
        is("fault of " + text, fault, () -> x.fault());
    }

    static void applied(FixtureTables x, String text, int operation, int changes) {
        text(x, text);
        raises("read of " + text, 0, () -> x.read());
        is("apply(" + operation + ") of " + text, changes, () -> x.apply(operation));
        failure(x, "after apply(" + operation + ") of " + text, 0, -1, -1, -1);
    }

    static void fails(FixtureTables x, String text, int operation, int check, int table, int row, int column) {
        text(x, text);
        raises("read of " + text, 0, () -> x.read());
        raises("apply(" + operation + ") of " + text, ISE, () -> x.apply(operation));
        failure(x, "after apply(" + operation + ") of " + text, check, table, row, column);
    }

    static void failure(FixtureTables x, String when, int check, int table, int row, int column) {
        is("failure(0) " + when, check, () -> x.failure(0));
        is("failure(1) " + when, table, () -> x.failure(1));
        is("failure(2) " + when, row, () -> x.failure(2));
        is("failure(3) " + when, column, () -> x.failure(3));
    }

    /** A table's rows as write() tells them. */
    static void table(FixtureTables x, int table, String want) {
        is("write(" + table + "), due " + want, want.length(), () -> x.write(table));
        same("what was written of " + table, want, writtenText(x));
    }

    static String writtenText(FixtureTables x) {
        StringBuilder text = new StringBuilder();
        try {
            for (int i = 0; i < 5000; i++) {
                text.append(x.written(i));
            }
        } catch (IndexOutOfBoundsException e) {
            return text.toString();
        }
        return text.toString();
    }

    static void difference(FixtureTables x, int i, int section, int row, int column) {
        is("difference(" + i + ", 0)", section, () -> x.difference(i, 0));
        is("difference(" + i + ", 1)", row, () -> x.difference(i, 1));
        is("difference(" + i + ", 2)", column, () -> x.difference(i, 2));
    }

    static void end() {
        System.out.println(asked + " answers asked, " + wrong + " wrong");
        if (wrong != 0 || asked == 0) {
            System.exit(1);
        }
    }

    static void tell(String what) {
        wrong++;
        if (wrong <= 50) {
            System.out.println(what);
        }
    }

    private static int kindOf(RuntimeException e) {
        if (e.getClass() == IllegalStateException.class) {
            return ISE;
        }
        if (e.getClass() == IllegalArgumentException.class) {
            return IAE;
        }
        if (e.getClass() == IndexOutOfBoundsException.class) {
            return IOOBE;
        }
        return e.getClass() == UnsupportedOperationException.class ? UOE : OTHER;
    }
}
