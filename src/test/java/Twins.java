import java.util.ArrayList;
import java.util.Arrays;
import java.util.List;

/**
 * Two objects made alike, of which one is asked a call more: later calls have to answer alike, but for those that the
 * document names. As looking at all there is changes it, each look has two new objects.
 */
final class Twins {
    static final String FAULT = "fault";
    static final String FAILURE = "failure";
    static final String TEXT = "text";

    interface Maker {
        FixtureTables make();
    }

    interface Asked {
        long ask(FixtureTables x);
    }

    private interface Look {
        void look(FixtureTables x, List<String> seen);
    }

    private static final Look[] LOOKS = {Twins::latest, Twins::rows, Twins::written, Twins::open, Twins::compared,
        Twins::textRead, Twins::textFilled, Twins::columns, Twins::tables, (x, seen) -> applied(x, seen, 0),
        (x, seen) -> applied(x, seen, 1), (x, seen) -> applied(x, seen, 2), (x, seen) -> applied(x, seen, 3),
        (x, seen) -> applied(x, seen, 4), (x, seen) -> applied(x, seen, 5)};

    private Twins() {
    }

    /** A call that throws, and changes nothing but what is named. */
    static void refused(String what, int exception, Maker maker, Asked call, String... but) {
        for (Look look : LOOKS) {
            FixtureTables asked = maker.make();
            Due.raises(what, exception, () -> call.ask(asked));
            alike(what, look, maker.make(), asked, but);
        }
    }

    /** A call that answers, and changes nothing but what is named. */
    static void answered(String what, long answer, Maker maker, Asked call, String... but) {
        for (Look look : LOOKS) {
            FixtureTables asked = maker.make();
            Due.is(what, answer, () -> call.ask(asked));
            alike(what, look, maker.make(), asked, but);
        }
    }

    /** An operation that fails by a check, and changes nothing but what failure() tells. */
    static void failed(String what, Maker maker, int operation, int... why) {
        refused(what, Due.ISE, maker, x -> x.apply(operation), FAILURE);
        FixtureTables x = maker.make();
        Due.raises(what, Due.ISE, () -> x.apply(operation));
        Due.failure(x, what, why[0], why[1], why[2], why[3]);
    }

    /** An operation that throws for another reason than a check. */
    static void notTried(String what, int exception, Maker maker, int operation) {
        refused(what, exception, maker, x -> x.apply(operation), FAILURE);
        FixtureTables x = maker.make();
        Due.raises(what, exception, () -> x.apply(operation));
        Due.failure(x, what, 0, -1, -1, -1);
    }

    /** The text that a maker has typed is none: read() changes nothing but what fault() tells. */
    static void unread(String what, Maker maker, int fault) {
        refused(what, Due.IAE, maker, x -> x.read(), FAULT);
        FixtureTables x = maker.make();
        Due.raises(what, Due.IAE, () -> x.read());
        Due.is("fault() behind " + what, fault, () -> x.fault());
    }

    /**
     * Something of all there can be: table 0 of an integer and a text with rows 1 and 2, table 1 of an integer and a
     * reference to 0 with row 5, table 2 without columns; a text written, a dataset, an operation that failed by check
     * 2, a comparison of 5 differences, a wrong text that was read, and transactions that are open.
     */
    static FixtureTables rich(int open) {
        FixtureTables x = new FixtureTables();
        x.table();
        x.table();
        x.table();
        x.column(0, 0, false, -1);
        x.column(0, 2, false, -1);
        x.column(1, 0, false, -1);
        x.column(1, 0, false, 0);
        Due.text(x, "0(01):1,a:2,b;1(01):5,1;");
        x.read();
        x.apply(0);
        x.write(0);
        for (int i = 0; i < open; i++) {
            x.begin();
        }
        Due.text(x, "0(01):3,c:3,d;1(0):6;");
        x.read();
        answer(() -> x.apply(0));
        x.compare(0, 0);
        x.type('!');
        answer(() -> x.read());
        return x;
    }

    private static void alike(String what, Look look, FixtureTables left, FixtureTables asked, String... but) {
        List<String> want = new ArrayList<>();
        List<String> got = new ArrayList<>();
        look.look(left, want);
        look.look(asked, got);
        for (List<String> seen : Arrays.asList(want, got)) {
            seen.removeIf(line -> Arrays.stream(but).anyMatch(line::startsWith));
        }
        Due.same("what " + what + " leaves", want.toString(), got.toString());
    }

    private static String answer(Due.Call call) {
        try {
            return Long.toString(call.run());
        } catch (RuntimeException e) {
            return e.getClass().getSimpleName();
        }
    }

    private static void latest(FixtureTables x, List<String> seen) {
        seen.add(FAULT + answer(() -> x.fault()));
        for (int i = -1; i < 5; i++) {
            int number = i;
            seen.add(FAILURE + answer(() -> x.failure(number)));
            seen.add("order" + answer(() -> x.order(number)));
        }
        differences(x, seen);
    }

    private static void differences(FixtureTables x, List<String> seen) {
        for (int i = 0; i < 21; i++) {
            for (int what = 0; what < 3; what++) {
                int number = i;
                int part = what;
                seen.add("difference" + answer(() -> x.difference(number, part)));
            }
        }
    }

    private static void rows(FixtureTables x, List<String> seen) {
        for (int i = 0; i < 5; i++) {
            int table = i;
            String rows = answer(() -> x.rows(table));
            seen.add("rows" + rows);
            int count = rows.matches("[0-9]+") ? Integer.parseInt(rows) : 0;
            for (int j = 0; j <= count; j++) {
                int row = j;
                seen.add("key" + answer(() -> x.value(table, row, 0)));
                seen.add("value" + answer(() -> x.value(table, row, 1)));
                seen.add("null" + answer(() -> x.isNull(table, row, 1) ? 1 : 0));
            }
        }
    }

    private static void written(FixtureTables x, List<String> seen) {
        String one = "";
        for (int i = 0; i < 70 && !one.startsWith("Index"); i++) {
            int place = i;
            one = answer(() -> x.written(place));
            seen.add("written" + one);
        }
    }

    private static void open(FixtureTables x, List<String> seen) {
        for (int i = 0; i < 4; i++) {
            seen.add("begin" + answer(() -> x.begin()));
        }
        for (int i = 0; i < 4; i++) {
            seen.add("rollback" + answer(() -> x.rollback()));
            rows(x, seen);
        }
    }

    private static void compared(FixtureTables x, List<String> seen) {
        seen.add("compare" + answer(() -> x.compare(0, 0)));
        differences(x, seen);
    }

    private static void textRead(FixtureTables x, List<String> seen) {
        seen.add(TEXT + answer(() -> x.read()));
        seen.add(TEXT + answer(() -> x.fault()));
        seen.add(TEXT + answer(() -> x.compare(0, 0)));
    }

    private static void textFilled(FixtureTables x, List<String> seen) {
        for (int i = 0; i < 122; i++) {
            seen.add(TEXT + answer(() -> x.type('0') ? 1 : 0));
        }
    }

    private static void columns(FixtureTables x, List<String> seen) {
        for (int i = 0; i < 20; i++) {
            int table = i / 4;
            int type = i % 4;
            seen.add("column" + answer(() -> x.column(table, type, false, table)));
        }
    }

    private static void tables(FixtureTables x, List<String> seen) {
        for (int i = 0; i < 6; i++) {
            seen.add("table" + answer(() -> x.table()));
        }
    }

    private static void applied(FixtureTables x, List<String> seen, int operation) {
        seen.add("apply" + answer(() -> x.apply(operation)));
        for (int i = 0; i < 4; i++) {
            int what = i;
            seen.add("failing" + answer(() -> x.failure(what)));
        }
        rows(x, seen);
    }
}
