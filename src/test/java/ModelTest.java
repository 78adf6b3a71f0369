import java.math.BigDecimal;
import java.math.RoundingMode;
import java.util.ArrayList;
import java.util.Arrays;
import java.util.Comparator;
import java.util.HashMap;
import java.util.List;
import java.util.Map;
import java.util.TreeMap;
import java.util.regex.Matcher;
import java.util.regex.Pattern;

/**
 * Runs of calls, always the same ones, on the program and on a second one that is written from the document in
 * another way: sorted maps of objects, whole copies, and a regular expression for datasets.
 */
public final class ModelTest {
    private static final int RUNS = 6000;
    private static final int CALLS = 512;

    private long seed;
    private FixtureTables real;
    private Model model;
    private int calls;
    private int spread;
    private boolean lean;
    private final StringBuilder told = new StringBuilder();
    private static final int[] checks = new int[8];

    public static void main(String[] args) {
        for (int run = 1; run <= RUNS; run++) {
            new ModelTest(run).go();
        }
        for (int check = 1; check < checks.length; check++) {
            int number = check;
            Due.is("check " + check + " was met", 1, () -> checks[number] > 0 ? 1 : 0);
        }
        System.out.println("how often each check failed: " + Arrays.toString(checks));
        Due.end();
    }

    private ModelTest(int run) {
        seed = run * 1000003L;
    }

    private int pick(int below) {
        seed = seed * 6364136223846793005L + 1442695040888963407L;
        return (int) ((seed >>> 33) % below);
    }

    private boolean chance(int percent) {
        return pick(100) < percent;
    }

    private void go() {
        real = new FixtureTables();
        model = new Model();
        spread = chance(70) ? 3 : 14;
        lean = chance(60);
        if (chance(15)) {
            makeCrowd();
        } else if (chance(50)) {
            makeTables();
        } else {
            makeFamily();
        }
        while (calls < CALLS - 130) {
            step();
        }
        for (int table = 0; table < 5 && calls < CALLS; table++) {
            int number = table;
            ask("write(" + table + ")", () -> real.write(number), () -> model.write(number));
            for (int i = 0; i < 20 && calls < CALLS; i++) {
                int place = pick(60) - 1;
                ask("written(" + place + ")", () -> real.written(place), () -> model.written(place));
            }
        }
    }

    private void ask(String call, Due.Call got, Due.Call want) {
        calls++;
        told.append("; ").append(call);
        String due = answer(want);
        told.append(" -> ").append(due);
        String answered = answer(got);
        Due.same(due.equals(answered) ? call : told.toString(), due, answered);
    }

    private static String answer(Due.Call call) {
        try {
            return Long.toString(call.run());
        } catch (RuntimeException e) {
            return e.getClass().getSimpleName();
        }
    }

    private void makeTables() {
        int tables = 1 + pick(chance(10) ? 6 : 3);
        for (int i = 0; i < tables; i++) {
            ask("table()", () -> real.table(), () -> model.table());
        }
        int columns = tables + pick(tables * 3);
        int favourite = pick(4);
        for (int i = 0; i < columns; i++) {
            int table = i < tables ? i : pick(tables);
            makeColumn(table, chance(lean ? 97 : 60) ? favourite : pick(chance(3) ? 5 : 4), i < tables ? 8 : 60);
        }
    }

    /** Tables that refer to one another, with rows from the start, so that most of what follows meets references. */
    private void makeFamily() {
        for (int i = 0; i < 3; i++) {
            ask("table()", () -> real.table(), () -> model.table());
        }
        int[][] columns = {{0, -1}, {0, 0}, {1, -1}, {1, 0}, {1, 1}, {2, chance(50) ? 0 : -1}, {2, 1}};
        int type = pick(3);
        for (int[] column : columns) {
            ask("column(" + column[0] + ", " + type + ", false, " + column[1] + ")",
                    () -> real.column(column[0], type, false, column[1]),
                    () -> model.column(column[0], type, false, column[1]));
        }
        String text = "0(01):X,X:Y,X:Z,~;1(012):X,X,X:Y,Y,X:Z,~,~;2(01):X,~:Y,Y;";
        typeText(text.replace('X', keyText(type, 1).charAt(0)).replace('Y', keyText(type, 2).charAt(0))
                .replace('Z', keyText(type, 3).charAt(0)));
        ask("apply(0)", () -> real.apply(0), () -> model.apply(0));
    }

    /** Two tables with rows, and a transaction that has room for few changes more. */
    private void makeCrowd() {
        for (int i = 0; i < 2; i++) {
            int table = i;
            int parent = i == 1 && chance(50) ? 0 : -1;
            ask("table()", () -> real.table(), () -> model.table());
            ask("column(" + table + ", 0, false, -1)", () -> real.column(table, 0, false, -1),
                    () -> model.column(table, 0, false, -1));
            ask("column(" + table + ", 0, false, " + parent + ")", () -> real.column(table, 0, false, parent),
                    () -> model.column(table, 0, false, parent));
        }
        typeText("0(0):0:1:2:3:4;1(01):0,~:1,1:2,~;");
        ask("apply(0)", () -> real.apply(0), () -> model.apply(0));
        ask("begin()", () -> real.begin(), () -> model.begin());
        typeDataset("0(0)" + ":1".repeat(16 + pick(9)) + ";");
        for (int i = 0; i < 8; i++) {
            ask("apply(1)", () -> real.apply(1), () -> model.apply(1));
        }
    }

    private void makeColumn(int table, int type, int refers) {
        boolean required = chance(lean ? 5 : 25);
        int parent = chance(refers) ? pick(model.tables.size()) + (chance(3) ? 2 : 0) : chance(2) ? -2 : -1;
        ask("column(" + table + ", " + type + ", " + required + ", " + parent + ")",
                () -> real.column(table, type, required, parent), () -> model.column(table, type, required, parent));
    }

    private void step() {
        int kind = pick(100);
        if (kind < 35) {
            typeDataset(mutated(datasetText()));
        } else if (kind < 60) {
            operate(1);
        } else if (kind < 64) {
            operate(4 + pick(10));
        } else if (kind < 70) {
            ask("begin()", () -> real.begin(), () -> model.begin());
        } else if (kind < 73) {
            ask("commit()", () -> real.commit(), () -> model.commit());
        } else if (kind < 76) {
            ask("rollback()", () -> real.rollback(), () -> model.rollback());
        } else if (kind < 86) {
            compareAndAsk();
        } else if (kind < 94) {
            probe();
        } else if (kind < 96) {
            int k = pick(7) - 1;
            ask("order(" + k + ")", () -> real.order(k), () -> model.order(k));
        } else if (kind < 97) {
            ask("table()", () -> real.table(), () -> model.table());
        } else if (kind < 98) {
            makeColumn(pick(4), pick(4), 50);
        } else {
            int table = pick(5) - (chance(5) ? 2 : 0);
            ask("write(" + table + ")", () -> real.write(table), () -> model.write(table));
        }
    }

    private void operate(int times) {
        int operation = chance(2) ? 6 : new int[] {0, 0, 1, 2, 2, 2, 3, 3, 4, 5}[pick(10)];
        for (int i = 0; i < times; i++) {
            ask("apply(" + operation + ")", () -> real.apply(operation), () -> model.apply(operation));
        }
        checks[model.failure[0]]++;
        for (int i = 0; i < 4; i++) {
            int what = i;
            ask("failure(" + i + ")", () -> real.failure(what), () -> model.failure(what));
        }
        probe();
    }

    private void probe() {
        for (int i = 0; i < 3; i++) {
            int table = pick(4) - (chance(3) ? 1 : 0);
            int row = pick(4) * pick(4) - (chance(3) ? 1 : 0);
            int column = pick(4) - (chance(3) ? 1 : 0);
            ask("rows(" + table + ")", () -> real.rows(table), () -> model.rows(table));
            String place = "(" + table + ", " + row + ", " + column + ")";
            ask("value" + place, () -> real.value(table, row, column), () -> model.value(table, row, column));
            ask("isNull" + place, () -> real.isNull(table, row, column) ? 1 : 0,
                    () -> model.isNull(table, row, column) ? 1 : 0);
        }
    }

    private void compareAndAsk() {
        long delta = pick(4) * 25 - (chance(3) ? 80 : 0);
        int ignored = chance(50) ? 0 : pick(32);
        ask("compare(" + delta + ", " + ignored + ")", () -> real.compare(delta, ignored),
                () -> model.compare(delta, ignored));
        for (int n = 0; n < 4; n++) {
            int i = pick(8) * pick(4) - (chance(3) ? 1 : 0);
            int what = pick(3) + (chance(3) ? 3 : 0);
            ask("difference(" + i + ", " + what + ")", () -> real.difference(i, what), () -> model.difference(i, what));
        }
    }

    private void typeDataset(String text) {
        if (chance(97)) {
            calls++;
            real.wipe();
            model.text.setLength(0);
            told.append("; wipe");
        }
        typeText(text);
    }

    private void typeText(String text) {
        for (int i = 0; i < text.length() && calls < CALLS - 20; i++) {
            char c = text.charAt(i);
            ask("type(" + c + ")", () -> real.type(c) ? 1 : 0, () -> model.type(c) ? 1 : 0);
        }
        ask("read()", () -> real.read(), () -> model.read());
        ask("fault()", () -> real.fault(), () -> model.fault());
    }

    private String datasetText() {
        StringBuilder text = new StringBuilder();
        int sections = chance(2) ? 7 : chance(95) ? 1 + pick(3) : 0;
        int most = chance(10) ? 26 : chance(30) ? 13 : 4;
        int limit = chance(95) ? 90 / Math.max(sections, 1) : 130;
        for (int i = 0; i < sections; i++) {
            int table = pick(model.tables.size());
            List<Integer> columns = columnsOf(model.tables.get(table).size());
            if (columns.isEmpty() && chance(90)) {
                continue;
            }
            StringBuilder section = new StringBuilder();
            section.append(table).append('(');
            for (int column : columns) {
                section.append(column);
            }
            section.append(')');
            int firstKey = pick(spread);
            for (int rows = pick(most + 1); rows > 0 && section.length() < limit; rows--) {
                char before = ':';
                for (int column : columns) {
                    int type = model.tables.get(table).get(column).type;
                    boolean next = column == 0 && lean && type < 3 && chance(97);
                    section.append(before).append(next ? keyText(type, firstKey + rows) : cellText(type, column == 0));
                    before = ',';
                }
            }
            text.append(section).append(';');
        }
        return text.toString();
    }

    private static String keyText(int type, int number) {
        return type == 2 ? "" + (char) ('a' + number % 26) : "" + number;
    }

    private List<Integer> columnsOf(int width) {
        List<Integer> columns = new ArrayList<>();
        for (int column = 0; column < width; column++) {
            if (chance(column == 0 ? 97 : 60)) {
                columns.add(pick(columns.size() + 1), column);
            }
        }
        return columns;
    }

    private String cellText(int type, boolean key) {
        if (chance(key ? 2 : lean ? 40 : 12)) {
            return "~";
        }
        if (type == 0) {
            return chance(95) ? "" + pick(spread)
                    : new String[] {"-0", "007", "-3", "123456789", "-000000001"}[pick(5)];
        }
        if (type == 1) {
            return chance(chance(50) ? 95 : 50) ? "" + pick(spread)
                    : new String[] {"0.5", "-0.05", "1.25", "3.1", "999999.99", "-7", "2.50"}[pick(7)];
        }
        if (type == 2) {
            return chance(chance(50) ? 95 : 50) ? "" + (char) ('a' + pick(spread))
                    : new String[] {"''", "''''", "'it''s'", "ab", "'B'", "abcdefgh", "'a'", "'a b:;,('",
                        "'12345678'"}[pick(9)];
        }
        return chance(50) ? "t" : "f";
    }

    private String mutated(String text) {
        if (chance(88) || text.isEmpty()) {
            return text;
        }
        StringBuilder changed = new StringBuilder(text);
        int place = pick(text.length());
        if (chance(40)) {
            changed.deleteCharAt(place);
        } else if (chance(50)) {
            changed.insert(place, text.charAt(pick(text.length())));
        } else {
            changed.setCharAt(place, chance(90) ? "0123459():;,~'.-abtfAZ".charAt(pick(22)) : (char) pick(65536));
        }
        return changed.toString();
    }

    /** A column as it was made. */
    private static final class Col {
        final int type;
        final boolean required;
        final int parent;

        Col(int type, boolean required, int parent) {
            this.type = type;
            this.required = required;
            this.parent = parent;
        }
    }

    private static final class Section {
        int table;
        int firstRow;
        final List<Integer> columns = new ArrayList<>();
        final List<Map<Integer, Object>> rows = new ArrayList<>();
    }

    private static final class Failed extends RuntimeException {
        private static final long serialVersionUID = 1L;
        final int[] why;

        Failed(int check, int table, int row, int column) {
            why = new int[] {check, table, row, column};
        }
    }

    /** All rows, and the changes that are kept. */
    private static final class State {
        final List<TreeMap<Object, Map<Integer, Object>>> tables = new ArrayList<>();
        int kept;

        State copy() {
            State copy = new State();
            for (TreeMap<Object, Map<Integer, Object>> rows : tables) {
                TreeMap<Object, Map<Integer, Object>> other = new TreeMap<>();
                for (Map.Entry<Object, Map<Integer, Object>> row : rows.entrySet()) {
                    other.put(row.getKey(), new HashMap<>(row.getValue()));
                }
                copy.tables.add(other);
            }
            copy.kept = kept;
            return copy;
        }
    }

    private static final class Model {
        private static final Map<String, Pattern> PATTERNS = new HashMap<>();
        private static final Pattern TOKEN = Pattern.compile("'(?:''|[^'])*'|[^,:;()']+|[,:;()]");
        private static final String[] CELLS = {"(?:~|-?[0-9]{1,9})", "(?:~|-?[0-9]{1,6}(?:\\.[0-9]{1,2})?)",
            "(?:~|[a-z]{1,8}|'(?:''|[ -&(-~]){0,8}')", "[~tf]"};

        final List<List<Col>> tables = new ArrayList<>();
        final StringBuilder text = new StringBuilder();
        int[] failure = {0, -1, -1, -1};
        private State state = new State();
        private final List<State> saved = new ArrayList<>();
        private List<Section> dataset;
        private int faultAt = -1;
        private List<int[]> differences = new ArrayList<>();
        private String output = "";
        private int done;

        int table() {
            if (tables.size() == 5) {
                throw new IllegalStateException();
            }
            tables.add(new ArrayList<>());
            state.tables.add(new TreeMap<>());
            for (State one : saved) {
                one.tables.add(new TreeMap<>());
            }
            return tables.size() - 1;
        }

        int column(int table, int type, boolean required, int parent) {
            if (table < 0 || table >= tables.size() || type < 0 || type > 3 || parent < -1 || parent >= tables.size()) {
                throw new IllegalArgumentException();
            }
            List<Col> columns = tables.get(table);
            boolean first = columns.isEmpty() && parent == table;
            if (parent >= 0 && !first && (tables.get(parent).isEmpty() || tables.get(parent).get(0).type != type)) {
                throw new IllegalArgumentException();
            }
            if (columns.size() == 5 || !state.tables.get(table).isEmpty() || !saved.isEmpty()) {
                throw new IllegalStateException();
            }
            columns.add(new Col(type, required, parent));
            dataset = null;
            differences = new ArrayList<>();
            return columns.size() - 1;
        }

        boolean type(char c) {
            if (text.length() == 120) {
                return false;
            }
            text.append(c);
            return true;
        }

        int fault() {
            return faultAt;
        }

        int read() {
            Pattern pattern = pattern();
            for (int end = 0; end <= text.length(); end++) {
                Matcher matcher = pattern.matcher(text.substring(0, end));
                if (!matcher.matches() && !matcher.hitEnd() || rowsIn(text.substring(0, end)) > 24) {
                    faultAt = end - 1;
                    throw new IllegalArgumentException();
                }
            }
            if (!pattern.matcher(text).matches()) {
                faultAt = text.length();
                throw new IllegalArgumentException();
            }
            faultAt = -1;
            dataset = parsed();
            differences = new ArrayList<>();
            return rowsIn(text.toString());
        }

        private static int rowsIn(String text) {
            return text.replaceAll("'[^']*'?", "").replaceAll("[^:]", "").length();
        }

        private Pattern pattern() {
            StringBuilder schema = new StringBuilder();
            for (List<Col> columns : tables) {
                schema.append('/');
                for (Col column : columns) {
                    schema.append(column.type);
                }
            }
            return PATTERNS.computeIfAbsent(schema.toString(), key -> Pattern.compile(sectionsPattern(key)));
        }

        private static String sectionsPattern(String schema) {
            String[] types = schema.split("/");
            List<String> sections = new ArrayList<>();
            for (int table = 1; table < types.length; table++) {
                List<String> headed = new ArrayList<>();
                choices(types[table], "", "", headed);
                if (!headed.isEmpty()) {
                    sections.add((table - 1) + "\\((?:" + String.join("|", headed) + ");");
                }
            }
            return sections.isEmpty() ? "" : "(?:" + String.join("|", sections) + "){0,6}";
        }

        private static void choices(String types, String columns, String cells, List<String> into) {
            for (int column = 0; column < types.length(); column++) {
                if (columns.indexOf((char) (48 + column)) < 0) {
                    String more = columns + column;
                    String row = cells + (cells.isEmpty() ? ":" : ",") + CELLS[types.charAt(column) - '0'];
                    into.add(more + "\\)(?:" + row + ")*");
                    choices(types, more, row, into);
                }
            }
        }

        private List<Section> parsed() {
            List<Section> sections = new ArrayList<>();
            Matcher token = TOKEN.matcher(text);
            int rows = 0;
            while (token.find()) {
                Section section = new Section();
                section.table = Integer.parseInt(token.group());
                section.firstRow = rows;
                token.find();
                token.find();
                for (char c : token.group().toCharArray()) {
                    section.columns.add(c - '0');
                }
                token.find();
                token.find();
                while (!token.group().equals(";")) {
                    Map<Integer, Object> row = new HashMap<>();
                    for (int column : section.columns) {
                        token.find();
                        row.put(column, cell(tables.get(section.table).get(column).type, token.group()));
                        token.find();
                    }
                    section.rows.add(row);
                    rows++;
                }
                sections.add(section);
            }
            return sections;
        }

        private static Object cell(int type, String token) {
            if (token.equals("~")) {
                return null;
            }
            if (type == 0) {
                return Integer.valueOf(token);
            }
            if (type == 1) {
                return new BigDecimal(token).setScale(2, RoundingMode.UNNECESSARY);
            }
            if (type == 2) {
                return token.startsWith("'") ? token.substring(1, token.length() - 1).replace("''", "'") : token;
            }
            return token.equals("t");
        }

        private List<Integer> sequence() {
            List<Integer> sequence = new ArrayList<>();
            boolean more = true;
            while (more) {
                more = false;
                for (int table = 0; table < tables.size() && !more; table++) {
                    boolean ready = !sequence.contains(table);
                    for (Col column : tables.get(table)) {
                        ready &= column.parent == -1 || column.parent == table || sequence.contains(column.parent);
                    }
                    if (ready) {
                        sequence.add(table);
                        more = true;
                    }
                }
            }
            return sequence;
        }

        int order(int k) {
            if (k < 0 || k >= tables.size()) {
                throw new IllegalArgumentException();
            }
            if (sequence().size() < tables.size()) {
                throw new UnsupportedOperationException();
            }
            return sequence().get(k);
        }

        int apply(int operation) {
            failure = new int[] {0, -1, -1, -1};
            if (operation < 0 || operation > 5) {
                throw new IllegalArgumentException();
            }
            List<Integer> sequence = sequence();
            if (sequence.size() < tables.size()) {
                throw new UnsupportedOperationException();
            }
            if (dataset == null) {
                throw new IllegalStateException();
            }
            State before = state.copy();
            done = 0;
            try {
                operate(operation, sequence);
            } catch (Failed e) {
                state = before;
                failure = e.why;
                throw new IllegalStateException();
            }
            return done;
        }

        private void operate(int operation, List<Integer> sequence) {
            List<Integer> reverse = new ArrayList<>();
            for (int table : sequence) {
                reverse.add(0, table);
            }
            if (operation >= 4) {
                for (int table : reverse) {
                    if (dataset.stream().anyMatch(s -> s.table == table)) {
                        deleteAll(table);
                    }
                }
            }
            if (operation == 4) {
                return;
            }
            for (int table : operation == 3 ? reverse : sequence) {
                for (Section section : dataset) {
                    for (int i = 0; section.table == table && i < section.rows.size(); i++) {
                        if (operation == 3) {
                            delete(table, section.rows.get(i), section.firstRow + i);
                        } else {
                            put(operation, table, section.rows.get(i), section.firstRow + i);
                        }
                    }
                }
            }
        }

        private void log(int more, int table, int row) {
            if (!saved.isEmpty() && state.kept + more > 200) {
                throw new Failed(7, table, row, -1);
            }
            state.kept += saved.isEmpty() ? 0 : more;
            done += more;
        }

        private void deleteAll(int table) {
            for (int other = 0; other < tables.size(); other++) {
                for (Object key : state.tables.get(table).keySet()) {
                    if (other != table && refers(other, table, key, null)) {
                        throw new Failed(4, table, -1, -1);
                    }
                }
            }
            log(state.tables.get(table).size(), table, -1);
            state.tables.get(table).clear();
        }

        private boolean refers(int child, int table, Object key, Map<Integer, Object> but) {
            for (Map<Integer, Object> row : state.tables.get(child).values()) {
                for (int column = 0; column < tables.get(child).size(); column++) {
                    if (row != but && tables.get(child).get(column).parent == table && key.equals(row.get(column))) {
                        return true;
                    }
                }
            }
            return false;
        }

        private void delete(int table, Map<Integer, Object> from, int place) {
            Object key = from.get(0);
            if (key == null) {
                throw new Failed(1, table, place, 0);
            }
            Map<Integer, Object> row = state.tables.get(table).get(key);
            if (row == null) {
                return;
            }
            for (int child = 0; child < tables.size(); child++) {
                if (refers(child, table, key, row)) {
                    throw new Failed(4, table, place, -1);
                }
            }
            log(1, table, place);
            state.tables.get(table).remove(key);
        }

        private void put(int operation, int table, Map<Integer, Object> from, int place) {
            Object key = from.get(0);
            TreeMap<Object, Map<Integer, Object>> rows = state.tables.get(table);
            if (key == null) {
                throw new Failed(1, table, place, 0);
            }
            boolean there = rows.containsKey(key);
            if (there && (operation == 0 || operation == 5)) {
                throw new Failed(2, table, place, -1);
            }
            if (!there && operation == 1) {
                throw new Failed(5, table, place, -1);
            }
            Map<Integer, Object> row = there ? new HashMap<>(rows.get(key)) : new HashMap<>();
            row.putAll(from);
            List<Col> columns = tables.get(table);
            for (int column = 0; column < columns.size(); column++) {
                if (columns.get(column).required && row.get(column) == null) {
                    throw new Failed(1, table, place, column);
                }
            }
            for (int column = 0; column < columns.size(); column++) {
                int parent = columns.get(column).parent;
                Object to = row.get(column);
                if (parent >= 0 && to != null && !(parent == table && to.equals(key))
                        && !state.tables.get(parent).containsKey(to)) {
                    throw new Failed(3, table, place, column);
                }
            }
            if (!there && rows.size() == 12) {
                throw new Failed(6, table, place, -1);
            }
            log(1, table, place);
            rows.put(key, row);
        }

        int failure(int what) {
            return what >= 0 && what < 4 ? failure[what] : -1;
        }

        int rows(int table) {
            if (table < 0 || table >= tables.size()) {
                throw new IndexOutOfBoundsException();
            }
            return state.tables.get(table).size();
        }

        private Object at(int table, int row, int column) {
            if (row < 0 || row >= rows(table) || column < 0 || column >= tables.get(table).size()) {
                throw new IndexOutOfBoundsException();
            }
            return new ArrayList<>(state.tables.get(table).values()).get(row).get(column);
        }

        long value(int table, int row, int column) {
            Object cell = at(table, row, column);
            if (cell instanceof Integer) {
                return (Integer) cell;
            }
            if (cell instanceof BigDecimal) {
                return ((BigDecimal) cell).unscaledValue().longValueExact();
            }
            if (cell instanceof Boolean) {
                return (Boolean) cell ? 1 : 0;
            }
            long packed = 0;
            for (int i = 0; cell != null && i < ((String) cell).length(); i++) {
                packed += ((String) cell).charAt(i) * (1L << 49 - 7 * i);
            }
            return packed;
        }

        boolean isNull(int table, int row, int column) {
            return at(table, row, column) == null;
        }

        int begin() {
            if (saved.size() == 3) {
                throw new IllegalStateException();
            }
            if (saved.isEmpty()) {
                state.kept = 0;
            }
            saved.add(state.copy());
            return saved.size();
        }

        int commit() {
            if (saved.isEmpty()) {
                throw new IllegalStateException();
            }
            saved.remove(saved.size() - 1);
            return saved.size();
        }

        int rollback() {
            if (saved.isEmpty()) {
                throw new IllegalStateException();
            }
            state = saved.remove(saved.size() - 1);
            return saved.size();
        }

        @SuppressWarnings("unchecked")
        int compare(long delta, int ignored) {
            if (delta < 0) {
                throw new IllegalArgumentException();
            }
            if (dataset == null) {
                throw new IllegalStateException();
            }
            differences = new ArrayList<>();
            for (int s = 0; s < dataset.size(); s++) {
                Section section = dataset.get(s);
                List<Map<Integer, Object>> mine = new ArrayList<>(section.rows);
                if (section.columns.contains(0)) {
                    Comparator<Comparable<Object>> natural = Comparator.naturalOrder();
                    mine.sort(Comparator.comparing(row -> (Comparable<Object>) row.get(0),
                            Comparator.nullsFirst(natural)));
                }
                List<Map<Integer, Object>> there = new ArrayList<>(state.tables.get(section.table).values());
                if (mine.size() != there.size()) {
                    differences.add(new int[] {s, -1, -1});
                }
                for (int row = 0; row < mine.size() && row < there.size(); row++) {
                    for (int column : section.columns) {
                        boolean asked = (ignored / (1 << column)) % 2 == 0;
                        if (asked && !alike(mine.get(row).get(column), there.get(row).get(column), delta)) {
                            differences.add(new int[] {s, row, column});
                        }
                    }
                }
            }
            return differences.size();
        }

        private static boolean alike(Object a, Object b, long delta) {
            if (a instanceof BigDecimal && b instanceof BigDecimal) {
                BigDecimal distance = ((BigDecimal) a).subtract((BigDecimal) b).abs();
                return distance.compareTo(BigDecimal.valueOf(delta, 2)) <= 0;
            }
            return a == null ? b == null : a.equals(b);
        }

        int difference(int i, int what) {
            if (i < 0 || i >= differences.size() || i >= 20) {
                throw new IndexOutOfBoundsException();
            }
            if (what < 0 || what > 2) {
                throw new IllegalArgumentException();
            }
            return differences.get(i)[what];
        }

        int write(int table) {
            if (table < 0 || table >= tables.size()) {
                throw new IndexOutOfBoundsException();
            }
            int width = tables.get(table).size();
            if (width == 0) {
                throw new IllegalStateException();
            }
            StringBuilder out = new StringBuilder(table + "(" + "01234".substring(0, width) + ")");
            for (Map<Integer, Object> row : state.tables.get(table).values()) {
                List<String> cells = new ArrayList<>();
                for (int column = 0; column < width; column++) {
                    cells.add(told(row.get(column)));
                }
                out.append(':').append(String.join(",", cells));
            }
            output = out.append(';').toString();
            return output.length();
        }

        private static String told(Object cell) {
            if (cell == null) {
                return "~";
            }
            if (cell instanceof Boolean) {
                return (Boolean) cell ? "t" : "f";
            }
            if (cell instanceof BigDecimal) {
                return ((BigDecimal) cell).toPlainString();
            }
            String text = cell.toString();
            return cell instanceof Integer || text.matches("[a-z]+") ? text : "'" + text.replace("'", "''") + "'";
        }

        char written(int i) {
            if (i < 0 || i >= output.length()) {
                throw new IndexOutOfBoundsException();
            }
            return output.charAt(i);
        }
    }
}
