/**
 * Tables with typed columns, keys and references, and datasets, written as text, that are put into
 * them all or nothing and compared with what is there.
 */
public final class FixtureTables {
    private static final int MAX_TABLES = 5;
    private static final int MAX_COLUMNS = 5;
    private static final int ALL_COLUMNS = (1 << MAX_COLUMNS) - 1;
    private static final int MAX_ROWS = 12;
    private static final int MAX_TEXT = 120;
    private static final int MAX_SECTIONS = 6;
    private static final int MAX_DATASET_ROWS = 24;
    private static final int MAX_OPEN = 3;
    private static final int MAX_CHANGES = 200;
    private static final int MAX_DIFFERENCES = 20;

    private static final int NONE = -1;
    private static final int KEY = 0;

    private static final int INTEGER = 0;
    private static final int DECIMAL = 1;
    private static final int TEXT = 2;
    private static final int BOOLEAN = 3;

    private static final int MAX_INTEGER_DIGITS = 9;
    private static final int MAX_DECIMAL_DIGITS = 6;
    private static final int MAX_DECIMAL_PLACES = 2;
    private static final int MAX_CHARACTERS = 8;
    private static final int FIRST_CHARACTER = 32;
    private static final int LAST_CHARACTER = 126;
    private static final int CHARACTER_BITS = 7;
    private static final int CHARACTER_MASK = 127;

    private static final int INSERT = 0;
    private static final int UPDATE = 1;
    private static final int DELETE = 3;
    private static final int DELETE_ALL = 4;
    private static final int CLEAN_INSERT = 5;

    private static final int CHECK_NULL = 1;
    private static final int CHECK_DOUBLE = 2;
    private static final int CHECK_NO_PARENT = 3;
    private static final int CHECK_CHILD = 4;
    private static final int CHECK_NO_ROW = 5;
    private static final int CHECK_FULL = 6;
    private static final int CHECK_LOG = 7;

    private final Database database;
    private final Reader reader;
    private final Comparison comparison;
    private final Writer writer;
    private Dataset dataset;
    private Dataset spare;
    private boolean datasetKnown;
    private int faultPlace;

    public FixtureTables() {
        database = new Database();
        reader = new Reader();
        comparison = new Comparison();
        writer = new Writer();
        dataset = new Dataset();
        spare = new Dataset();
        datasetKnown = false;
        faultPlace = NONE;
    }

    public int table() throws IllegalStateException {
        if (database.schema.tables == MAX_TABLES) {
            throw new IllegalStateException("there are 5 tables");
        }
        return database.schema.addTable();
    }

    public int column(int table, int type, boolean required, int parent)
            throws IllegalArgumentException, IllegalStateException {
        Schema schema = database.schema;
        if (!schema.hasTable(table) || type < INTEGER || type > BOOLEAN) {
            throw new IllegalArgumentException("no such table or type");
        }
        if (parent != NONE && !schema.mayRefer(table, type, parent)) {
            throw new IllegalArgumentException("no such parent for this type");
        }
        if (schema.width(table) == MAX_COLUMNS || database.store.count(table) > 0 || database.log.open > 0) {
            throw new IllegalStateException("5 columns, or rows, or a transaction is open");
        }
        datasetKnown = false;
        comparison.forget();
        return schema.addColumn(table, type, required, parent);
    }

    public boolean type(char c) {
        return reader.append(c);
    }

    public void wipe() {
        reader.length = 0;
    }

    public int read() throws IllegalArgumentException {
        if (!reader.readDataset(database.schema, spare)) {
            faultPlace = reader.at;
            throw new IllegalArgumentException("the text is no dataset");
        }
        Dataset old = dataset;
        dataset = spare;
        spare = old;
        datasetKnown = true;
        faultPlace = NONE;
        comparison.forget();
        return dataset.rowCount;
    }

    public int fault() {
        return faultPlace;
    }

    public int order(int k) throws IllegalArgumentException, UnsupportedOperationException {
        if (!database.schema.hasTable(k)) {
            throw new IllegalArgumentException("no such place");
        }
        if (!database.schema.arrange()) {
            throw new UnsupportedOperationException("references in a circle");
        }
        return database.schema.sequence[k];
    }

    public int apply(int operation)
            throws IllegalArgumentException, UnsupportedOperationException, IllegalStateException {
        database.start();
        if (operation < INSERT || operation > CLEAN_INSERT) {
            throw new IllegalArgumentException("no such operation");
        }
        if (!database.schema.arrange()) {
            throw new UnsupportedOperationException("references in a circle");
        }
        if (!datasetKnown) {
            throw new IllegalStateException("no dataset was read");
        }
        if (!database.perform(operation, dataset)) {
            database.takeBack();
            throw new IllegalStateException("a check does not hold");
        }
        return database.made;
    }

    public int failure(int what) {
        return what < 0 || what >= database.failure.length ? NONE : database.failure[what];
    }

    public int rows(int table) throws IndexOutOfBoundsException {
        if (!database.schema.hasTable(table)) {
            throw new IndexOutOfBoundsException("no such table");
        }
        return database.store.count(table);
    }

    public long value(int table, int row, int column) throws IndexOutOfBoundsException {
        if (!database.hasCell(table, row, column)) {
            throw new IndexOutOfBoundsException("no such table, row or column");
        }
        return database.store.cell(table, row, column);
    }

    public boolean isNull(int table, int row, int column) throws IndexOutOfBoundsException {
        if (!database.hasCell(table, row, column)) {
            throw new IndexOutOfBoundsException("no such table, row or column");
        }
        return database.store.lacks(table, row, column);
    }

    public int begin() throws IllegalStateException {
        if (database.log.open == MAX_OPEN) {
            throw new IllegalStateException("3 transactions are open");
        }
        database.log.push(database.store);
        return database.log.open;
    }

    public int commit() throws IllegalStateException {
        if (database.log.open == 0) {
            throw new IllegalStateException("no transaction is open");
        }
        database.log.keep();
        return database.log.open;
    }

    public int rollback() throws IllegalStateException {
        if (database.log.open == 0) {
            throw new IllegalStateException("no transaction is open");
        }
        database.log.undo(database.store);
        return database.log.open;
    }

    public int compare(long delta, int ignored) throws IllegalArgumentException, IllegalStateException {
        if (delta < 0) {
            throw new IllegalArgumentException("delta is below 0");
        }
        if (!datasetKnown) {
            throw new IllegalStateException("no dataset was read");
        }
        comparison.run(database, dataset, delta, ignored);
        return comparison.found;
    }

    public int difference(int i, int what) throws IndexOutOfBoundsException, IllegalArgumentException {
        if (i < 0 || i >= comparison.kept()) {
            throw new IndexOutOfBoundsException("no such difference");
        }
        if (what < 0 || what >= Comparison.PARTS) {
            throw new IllegalArgumentException("no such what");
        }
        return comparison.part(i, what);
    }

    public int write(int table) throws IndexOutOfBoundsException, IllegalStateException {
        if (!database.schema.hasTable(table)) {
            throw new IndexOutOfBoundsException("no such table");
        }
        if (database.schema.width(table) == 0) {
            throw new IllegalStateException("the table has no columns");
        }
        writer.writeTable(database, table);
        return writer.length;
    }

    public char written(int i) throws IndexOutOfBoundsException {
        if (i < 0 || i >= writer.length) {
            throw new IndexOutOfBoundsException("no such character");
        }
        return writer.characters[i];
    }

    /** The tables with their columns, and the order that references ask for. */
    private static final class Schema {
        int tables;
        final int[] sequence;
        private final int[] widths;
        private final int[] types;
        private final int[] parents;
        private final boolean[] required;

        Schema() {
            tables = 0;
            sequence = new int[MAX_TABLES];
            widths = new int[MAX_TABLES];
            types = new int[MAX_TABLES * MAX_COLUMNS];
            parents = new int[MAX_TABLES * MAX_COLUMNS];
            required = new boolean[MAX_TABLES * MAX_COLUMNS];
        }

        boolean hasTable(int table) {
            return table >= 0 && table < tables;
        }

        int width(int table) {
            return widths[table];
        }

        int typeOf(int table, int column) {
            return types[table * MAX_COLUMNS + column];
        }

        int parentOf(int table, int column) {
            return parents[table * MAX_COLUMNS + column];
        }

        boolean isRequired(int table, int column) {
            return required[table * MAX_COLUMNS + column];
        }

        boolean mayRefer(int table, int type, int parent) {
            if (!hasTable(parent)) {
                return false;
            }
            // The first column is the key itself, so it has the type that its own table's references need.
            if (widths[parent] == 0) {
                return parent == table;
            }
            return typeOf(parent, KEY) == type;
        }

        int addTable() {
            widths[tables] = 0;
            tables++;
            return tables - 1;
        }

        int addColumn(int table, int type, boolean isRequired, int parent) {
            int column = widths[table];
            int place = table * MAX_COLUMNS + column;
            types[place] = type;
            parents[place] = parent;
            required[place] = isRequired;
            widths[table] = column + 1;
            return column;
        }

        /** Puts the tables into sequence; false if there is a circle. */
        boolean arrange() {
            int placed = 0;
            for (int k = 0; k < tables; k++) {
                int next = leastReady(placed);
                if (next == NONE) {
                    return false;
                }
                sequence[k] = next;
                placed |= 1 << next;
            }
            return true;
        }

        private int leastReady(int placed) {
            for (int table = 0; table < tables; table++) {
                if ((placed >> table & 1) == 0 && parentsAreIn(table, placed | 1 << table)) {
                    return table;
                }
            }
            return NONE;
        }

        private boolean parentsAreIn(int table, int placed) {
            for (int column = 0; column < widths[table]; column++) {
                int parent = parentOf(table, column);
                if (parent != NONE && (placed >> parent & 1) == 0) {
                    return false;
                }
            }
            return true;
        }
    }

    /** The rows of all tables, those of each table always in the order of their keys. */
    private static final class Store {
        private final int[] counts;
        private final long[] cells;
        private final int[] nulls;

        Store() {
            counts = new int[MAX_TABLES];
            cells = new long[MAX_TABLES * MAX_ROWS * MAX_COLUMNS];
            nulls = new int[MAX_TABLES * MAX_ROWS];
        }

        int count(int table) {
            return counts[table];
        }

        long cell(int table, int row, int column) {
            return cells[(table * MAX_ROWS + row) * MAX_COLUMNS + column];
        }

        boolean lacks(int table, int row, int column) {
            return (nulls[table * MAX_ROWS + row] >> column & 1) != 0;
        }

        int find(int table, long key) {
            for (int row = 0; row < counts[table]; row++) {
                if (cells[(table * MAX_ROWS + row) * MAX_COLUMNS + KEY] == key) {
                    return row;
                }
            }
            return NONE;
        }

        boolean refers(int table, int column, long key, int except) {
            for (int row = 0; row < counts[table]; row++) {
                int place = table * MAX_ROWS + row;
                boolean isNothing = (nulls[place] >> column & 1) != 0;
                if (row != except && !isNothing && cells[place * MAX_COLUMNS + column] == key) {
                    return true;
                }
            }
            return false;
        }

        /** Keys of all types are ordered as their numbers are: a text's first character has the highest bits. */
        void insert(int table, Row from) {
            int row = counts[table];
            if (row >= MAX_ROWS) {
                return;
            }
            while (row > 0 && cell(table, row - 1, KEY) > from.cells[KEY]) {
                move(table, row - 1, row);
                row--;
            }
            counts[table]++;
            replace(table, row, from);
        }

        void replace(int table, int row, Row from) {
            int place = table * MAX_ROWS + row;
            System.arraycopy(from.cells, 0, cells, place * MAX_COLUMNS, MAX_COLUMNS);
            nulls[place] = from.nulls;
        }

        void remove(int table, int row) {
            for (int next = row + 1; next < counts[table]; next++) {
                move(table, next, next - 1);
            }
            counts[table]--;
        }

        void clear(int table) {
            counts[table] = 0;
        }

        private void move(int table, int fromRow, int toRow) {
            int from = table * MAX_ROWS + fromRow;
            int to = table * MAX_ROWS + toRow;
            System.arraycopy(cells, from * MAX_COLUMNS, cells, to * MAX_COLUMNS, MAX_COLUMNS);
            nulls[to] = nulls[from];
        }

        void copyFrom(Store other) {
            System.arraycopy(other.counts, 0, counts, 0, counts.length);
            System.arraycopy(other.cells, 0, cells, 0, cells.length);
            System.arraycopy(other.nulls, 0, nulls, 0, nulls.length);
        }
    }

    /** A row as it would be, before the checks have let it into the store. */
    private static final class Row {
        final long[] cells;
        int nulls;

        Row() {
            cells = new long[MAX_COLUMNS];
            nulls = 0;
        }

        boolean lacks(int column) {
            return (nulls >> column & 1) != 0;
        }

        void put(int column, long cell, boolean isNothing) {
            cells[column] = cell;
            nulls = isNothing ? nulls | 1 << column : nulls & ~(1 << column);
        }
    }

    /** The open transactions, with the rows as they were at each one's beginning, and the changes that are kept. */
    private static final class Log {
        int open;
        int changes;
        private final Store[] starts;
        private final int[] startChanges;

        Log() {
            open = 0;
            changes = 0;
            starts = new Store[MAX_OPEN];
            for (int i = 0; i < MAX_OPEN; i++) {
                starts[i] = new Store();
            }
            startChanges = new int[MAX_OPEN];
        }

        boolean admits(int more) {
            return open == 0 || changes + more <= MAX_CHANGES;
        }

        void note(int more) {
            if (open > 0) {
                changes += more;
            }
        }

        void push(Store store) {
            if (open == 0) {
                changes = 0;
            }
            starts[open].copyFrom(store);
            startChanges[open] = changes;
            open++;
        }

        void keep() {
            open--;
        }

        void undo(Store store) {
            open--;
            store.copyFrom(starts[open]);
            changes = startChanges[open];
        }
    }

    /** Carries out the operations, each row behind its checks. */
    private static final class Database {
        final Schema schema;
        final Store store;
        final Log log;
        final int[] failure;
        int made;
        private final Store before;
        private final Row candidate;
        private int changesBefore;

        Database() {
            schema = new Schema();
            store = new Store();
            log = new Log();
            failure = new int[] {0, NONE, NONE, NONE};
            made = 0;
            before = new Store();
            candidate = new Row();
            changesBefore = 0;
        }

        boolean hasCell(int table, int row, int column) {
            return schema.hasTable(table) && row >= 0 && row < store.count(table)
                    && column >= 0 && column < schema.width(table);
        }

        void start() {
            before.copyFrom(store);
            changesBefore = log.changes;
            made = 0;
            setFailure(0, NONE, NONE, NONE);
        }

        void takeBack() {
            store.copyFrom(before);
            log.changes = changesBefore;
        }

        boolean perform(int operation, Dataset dataset) {
            if (operation == DELETE_ALL) {
                return clearTables(dataset);
            }
            if (operation == CLEAN_INSERT) {
                return clearTables(dataset) && loadRows(INSERT, dataset);
            }
            return loadRows(operation, dataset);
        }

        private boolean clearTables(Dataset dataset) {
            for (int k = schema.tables - 1; k >= 0; k--) {
                int table = schema.sequence[k];
                if (dataset.hasSectionOf(table) && !clearTable(table)) {
                    return false;
                }
            }
            return true;
        }

        private boolean clearTable(int table) {
            int gone = store.count(table);
            if (othersRefer(table)) {
                return fail(CHECK_CHILD, table, NONE, NONE);
            }
            if (!log.admits(gone)) {
                return fail(CHECK_LOG, table, NONE, NONE);
            }
            store.clear(table);
            noteChanges(gone);
            return true;
        }

        private boolean othersRefer(int table) {
            for (int row = 0; row < store.count(table); row++) {
                for (int other = 0; other < schema.tables; other++) {
                    if (other != table && tableRefers(other, table, row)) {
                        return true;
                    }
                }
            }
            return false;
        }

        /** A row that refers to itself does not count. */
        private boolean tableRefers(int child, int table, int row) {
            int except = child == table ? row : NONE;
            long key = store.cell(table, row, KEY);
            for (int column = 0; column < schema.width(child); column++) {
                if (schema.parentOf(child, column) == table && store.refers(child, column, key, except)) {
                    return true;
                }
            }
            return false;
        }

        /** A dataset's rows stand as its sections do, so a table's rows are met in the order of its sections. */
        private boolean loadRows(int operation, Dataset dataset) {
            for (int k = 0; k < schema.tables; k++) {
                int table = schema.sequence[operation == DELETE ? schema.tables - 1 - k : k];
                for (int row = 0; row < dataset.rowCount; row++) {
                    if (dataset.tableOf(row) == table && !loadRow(operation, dataset, row)) {
                        return false;
                    }
                }
            }
            return true;
        }

        private boolean loadRow(int operation, Dataset dataset, int row) {
            int table = dataset.tableOf(row);
            if (dataset.lacks(row, KEY)) {
                return fail(CHECK_NULL, table, row, KEY);
            }
            int place = store.find(table, dataset.cell(row, KEY));
            if (operation == DELETE) {
                return place == NONE || removeRow(table, place, row);
            }
            if (operation == INSERT && place != NONE) {
                return fail(CHECK_DOUBLE, table, row, NONE);
            }
            if (operation == UPDATE && place == NONE) {
                return fail(CHECK_NO_ROW, table, row, NONE);
            }
            fillCandidate(dataset, row, place);
            return putCandidate(table, place, row);
        }

        private boolean removeRow(int table, int place, int row) {
            for (int child = 0; child < schema.tables; child++) {
                if (tableRefers(child, table, place)) {
                    return fail(CHECK_CHILD, table, row, NONE);
                }
            }
            if (!log.admits(1)) {
                return fail(CHECK_LOG, table, row, NONE);
            }
            store.remove(table, place);
            noteChanges(1);
            return true;
        }

        private void fillCandidate(Dataset dataset, int row, int place) {
            int table = dataset.tableOf(row);
            for (int column = 0; column < MAX_COLUMNS; column++) {
                if (place == NONE || dataset.names(dataset.sectionOf(row), column)) {
                    candidate.put(column, dataset.cell(row, column), dataset.lacks(row, column));
                } else {
                    candidate.put(column, store.cell(table, place, column), store.lacks(table, place, column));
                }
            }
        }

        private boolean putCandidate(int table, int place, int row) {
            int column = firstMissing(table);
            if (column != NONE) {
                return fail(CHECK_NULL, table, row, column);
            }
            column = firstOrphan(table);
            if (column != NONE) {
                return fail(CHECK_NO_PARENT, table, row, column);
            }
            if (place == NONE && store.count(table) == MAX_ROWS) {
                return fail(CHECK_FULL, table, row, NONE);
            }
            if (!log.admits(1)) {
                return fail(CHECK_LOG, table, row, NONE);
            }
            if (place == NONE) {
                store.insert(table, candidate);
            } else {
                store.replace(table, place, candidate);
            }
            noteChanges(1);
            return true;
        }

        private int firstMissing(int table) {
            for (int column = 0; column < schema.width(table); column++) {
                if (schema.isRequired(table, column) && candidate.lacks(column)) {
                    return column;
                }
            }
            return NONE;
        }

        /** The candidate is not in the store yet, but may refer to itself. */
        private int firstOrphan(int table) {
            for (int column = 0; column < schema.width(table); column++) {
                int parent = schema.parentOf(table, column);
                long key = candidate.cells[column];
                boolean own = parent == table && key == candidate.cells[KEY];
                if (parent != NONE && !candidate.lacks(column) && !own && store.find(parent, key) == NONE) {
                    return column;
                }
            }
            return NONE;
        }

        private void noteChanges(int more) {
            made += more;
            log.note(more);
        }

        private boolean fail(int check, int table, int row, int column) {
            setFailure(check, table, row, column);
            return false;
        }

        private void setFailure(int check, int table, int row, int column) {
            failure[0] = check;
            failure[1] = table;
            failure[2] = row;
            failure[3] = column;
        }
    }

    /** A text's sections and rows; a row's cells stand at their table's columns, null where its section has none. */
    private static final class Dataset {
        int sections;
        int rowCount;
        private final int[] tables;
        private final int[] widths;
        private final int[] columns;
        private final int[] named;
        private final int[] firstRows;
        private final int[] rowSections;
        private final long[] cells;
        private final int[] nulls;

        Dataset() {
            sections = 0;
            rowCount = 0;
            tables = new int[MAX_SECTIONS];
            widths = new int[MAX_SECTIONS];
            columns = new int[MAX_SECTIONS * MAX_COLUMNS];
            named = new int[MAX_SECTIONS];
            firstRows = new int[MAX_SECTIONS];
            rowSections = new int[MAX_DATASET_ROWS];
            cells = new long[MAX_DATASET_ROWS * MAX_COLUMNS];
            nulls = new int[MAX_DATASET_ROWS];
        }

        void empty() {
            sections = 0;
            rowCount = 0;
        }

        void addSection(int table) {
            tables[sections] = table;
            widths[sections] = 0;
            named[sections] = 0;
            firstRows[sections] = rowCount;
            sections++;
        }

        void addColumn(int section, int column) {
            columns[section * MAX_COLUMNS + widths[section]] = column;
            widths[section]++;
            named[section] |= 1 << column;
        }

        void addRow() {
            rowSections[rowCount] = sections - 1;
            for (int column = 0; column < MAX_COLUMNS; column++) {
                cells[rowCount * MAX_COLUMNS + column] = 0;
            }
            nulls[rowCount] = ALL_COLUMNS;
            rowCount++;
        }

        void setCell(int row, int column, long cell) {
            cells[row * MAX_COLUMNS + column] = cell;
            nulls[row] &= ~(1 << column);
        }

        int sectionTable(int section) {
            return tables[section];
        }

        int width(int section) {
            return widths[section];
        }

        int columnAt(int section, int i) {
            return columns[section * MAX_COLUMNS + i];
        }

        boolean names(int section, int column) {
            return (named[section] >> column & 1) != 0;
        }

        int firstRow(int section) {
            return firstRows[section];
        }

        int height(int section) {
            int end = section + 1 < sections ? firstRows[section + 1] : rowCount;
            return end - firstRows[section];
        }

        boolean hasSectionOf(int table) {
            for (int section = 0; section < sections; section++) {
                if (tables[section] == table) {
                    return true;
                }
            }
            return false;
        }

        int sectionOf(int row) {
            return rowSections[row];
        }

        int tableOf(int row) {
            return tables[rowSections[row]];
        }

        long cell(int row, int column) {
            return cells[row * MAX_COLUMNS + column];
        }

        boolean lacks(int row, int column) {
            return (nulls[row] >> column & 1) != 0;
        }
    }

    /**
     * The text, and its reading from left to right. What was passed can always go on to a dataset, so where
     * the reading stops is the place of the fault.
     */
    private static final class Reader {
        int length;
        int at;
        private final char[] text;
        private long cell;
        private boolean cellIsNull;

        Reader() {
            length = 0;
            at = 0;
            text = new char[MAX_TEXT];
            cell = 0;
            cellIsNull = false;
        }

        boolean append(char c) {
            if (length >= MAX_TEXT) {
                return false;
            }
            text[length] = c;
            length++;
            return true;
        }

        boolean readDataset(Schema schema, Dataset into) {
            at = 0;
            into.empty();
            for (int i = 0; i < MAX_SECTIONS && at < length; i++) {
                if (!readSection(schema, into)) {
                    return false;
                }
            }
            return at == length;
        }

        private boolean readSection(Schema schema, Dataset into) {
            int table = digitHere();
            if (!schema.hasTable(table) || schema.width(table) == 0) {
                return false;
            }
            at++;
            into.addSection(table);
            if (!accept('(') || !readColumns(schema, into) || !accept(')')) {
                return false;
            }
            for (int i = into.rowCount; i < MAX_DATASET_ROWS && accept(':'); i++) {
                into.addRow();
                if (!readRow(schema, into)) {
                    return false;
                }
            }
            return accept(';');
        }

        private boolean readColumns(Schema schema, Dataset into) {
            int section = into.sections - 1;
            int width = schema.width(into.sectionTable(section));
            for (int i = 0; i < width; i++) {
                int column = digitHere();
                if (column == NONE || column >= width || into.names(section, column)) {
                    return i > 0;
                }
                into.addColumn(section, column);
                at++;
            }
            return true;
        }

        private boolean readRow(Schema schema, Dataset into) {
            int section = into.sections - 1;
            int row = into.rowCount - 1;
            for (int i = 0; i < into.width(section); i++) {
                int column = into.columnAt(section, i);
                if (i > 0 && !accept(',')) {
                    return false;
                }
                if (!readCell(schema.typeOf(into.sectionTable(section), column))) {
                    return false;
                }
                if (!cellIsNull) {
                    into.setCell(row, column, cell);
                }
            }
            return true;
        }

        private boolean readCell(int type) {
            cell = 0;
            cellIsNull = accept('~');
            if (cellIsNull) {
                return true;
            }
            if (type == INTEGER) {
                return readInteger();
            }
            if (type == DECIMAL) {
                return readDecimal();
            }
            if (type == TEXT) {
                return accept('\'') ? readQuoted() : readLetters();
            }
            return readBoolean();
        }

        private boolean readInteger() {
            boolean minus = accept('-');
            if (readDigits(MAX_INTEGER_DIGITS) == 0) {
                return false;
            }
            cell = minus ? -cell : cell;
            return true;
        }

        private boolean readDecimal() {
            boolean minus = accept('-');
            if (readDigits(MAX_DECIMAL_DIGITS) == 0) {
                return false;
            }
            int places = 0;
            if (accept('.')) {
                places = readDigits(MAX_DECIMAL_PLACES);
                if (places == 0) {
                    return false;
                }
            }
            for (int i = places; i < MAX_DECIMAL_PLACES; i++) {
                cell *= 10;
            }
            cell = minus ? -cell : cell;
            return true;
        }

        /** Takes digits behind those that the cell has already: how many. */
        private int readDigits(int most) {
            for (int i = 0; i < most; i++) {
                if (at >= length || text[at] < '0' || text[at] > '9') {
                    return i;
                }
                cell = cell * 10 + (text[at] - '0');
                at++;
            }
            return most;
        }

        private boolean readLetters() {
            for (int i = 0; i < MAX_CHARACTERS; i++) {
                int c = characterAt(at);
                if (c < 'a' || c > 'z') {
                    return i > 0;
                }
                addCharacter(c, i);
                at++;
            }
            return true;
        }

        private boolean readQuoted() {
            for (int i = 0; i < MAX_CHARACTERS; i++) {
                int c = characterAt(at);
                if (c < FIRST_CHARACTER || c > LAST_CHARACTER) {
                    return false;
                }
                if (c == '\'') {
                    if (characterAt(at + 1) != '\'') {
                        break;
                    }
                    at++;
                }
                addCharacter(c, i);
                at++;
            }
            return accept('\'');
        }

        private boolean readBoolean() {
            cell = characterAt(at) == 't' ? 1 : 0;
            return accept('t') || accept('f');
        }

        private void addCharacter(int c, int i) {
            cell |= (long) c << CHARACTER_BITS * (MAX_CHARACTERS - 1 - i);
        }

        private boolean accept(char c) {
            if (at >= length || text[at] != c) {
                return false;
            }
            at++;
            return true;
        }

        private int digitHere() {
            int c = characterAt(at);
            return c >= '0' && c <= '9' ? c - '0' : NONE;
        }

        private int characterAt(int place) {
            return place < length ? text[place] : NONE;
        }
    }

    /** The differences of the latest comparison: how many, and the first ones of them. */
    private static final class Comparison {
        static final int PARTS = 3;
        int found;
        private final int[] parts;
        private final int[] sorted;

        Comparison() {
            found = 0;
            parts = new int[MAX_DIFFERENCES * PARTS];
            sorted = new int[MAX_DATASET_ROWS];
        }

        void forget() {
            found = 0;
        }

        int kept() {
            return Math.min(found, MAX_DIFFERENCES);
        }

        int part(int i, int what) {
            return parts[i * PARTS + what];
        }

        void run(Database database, Dataset dataset, long delta, int ignored) {
            found = 0;
            for (int section = 0; section < dataset.sections; section++) {
                compareSection(database, dataset, section, delta, ignored);
            }
        }

        private void compareSection(Database database, Dataset dataset, int section, long delta, int ignored) {
            int height = dataset.height(section);
            int count = database.store.count(dataset.sectionTable(section));
            sortRows(dataset, section);
            if (height != count) {
                add(section, NONE, NONE);
            }
            for (int row = 0; row < Math.min(height, count); row++) {
                for (int i = 0; i < dataset.width(section); i++) {
                    int column = dataset.columnAt(section, i);
                    if ((ignored >> column & 1) == 0 && differs(database, dataset, section, row, column, delta)) {
                        add(section, row, column);
                    }
                }
            }
        }

        /** By insertion, since equal keys have to stay as they stand. */
        private void sortRows(Dataset dataset, int section) {
            int first = dataset.firstRow(section);
            boolean byKey = dataset.names(section, KEY);
            for (int i = 0; i < dataset.height(section); i++) {
                int to = i;
                while (byKey && to > 0 && keyIsLess(dataset, first + i, sorted[to - 1])) {
                    sorted[to] = sorted[to - 1];
                    to--;
                }
                sorted[to] = first + i;
            }
        }

        private boolean keyIsLess(Dataset dataset, int row, int other) {
            if (dataset.lacks(row, KEY) || dataset.lacks(other, KEY)) {
                return dataset.lacks(row, KEY) && !dataset.lacks(other, KEY);
            }
            return dataset.cell(row, KEY) < dataset.cell(other, KEY);
        }

        private boolean differs(Database database, Dataset dataset, int section, int row, int column, long delta) {
            int table = dataset.sectionTable(section);
            boolean isNothing = dataset.lacks(sorted[row], column);
            if (isNothing || database.store.lacks(table, row, column)) {
                return isNothing != database.store.lacks(table, row, column);
            }
            long distance = Math.abs(dataset.cell(sorted[row], column) - database.store.cell(table, row, column));
            return distance > (database.schema.typeOf(table, column) == DECIMAL ? delta : 0);
        }

        private void add(int section, int row, int column) {
            if (found < MAX_DIFFERENCES) {
                parts[found * PARTS] = section;
                parts[found * PARTS + 1] = row;
                parts[found * PARTS + 2] = column;
            }
            found++;
        }
    }

    /** What was written latest. */
    private static final class Writer {
        /** A text of 8 characters ', each of them written twice, between two more. */
        private static final int LONGEST_CELL = 2 * MAX_CHARACTERS + 2;
        private static final int LONGEST_ROW = MAX_COLUMNS * (LONGEST_CELL + 1);
        private static final int LONGEST_TABLE = MAX_COLUMNS + MAX_ROWS * LONGEST_ROW + 4;

        int length;
        final char[] characters;

        Writer() {
            length = 0;
            characters = new char[LONGEST_TABLE];
        }

        void writeTable(Database database, int table) {
            length = 0;
            add('0' + table);
            add('(');
            for (int column = 0; column < database.schema.width(table); column++) {
                add('0' + column);
            }
            add(')');
            for (int row = 0; row < database.store.count(table); row++) {
                writeRow(database, table, row);
            }
            add(';');
        }

        private void writeRow(Database database, int table, int row) {
            for (int column = 0; column < database.schema.width(table); column++) {
                add(column == 0 ? ':' : ',');
                if (database.store.lacks(table, row, column)) {
                    add('~');
                } else {
                    writeCell(database.schema.typeOf(table, column), database.store.cell(table, row, column));
                }
            }
        }

        private void writeCell(int type, long cell) {
            if (type == BOOLEAN) {
                add(cell == 1 ? 't' : 'f');
            } else if (type == TEXT) {
                writeText(cell);
            } else {
                writeNumber(type, cell);
            }
        }

        private void writeNumber(int type, long cell) {
            long size = Math.abs(cell);
            if (cell < 0) {
                add('-');
            }
            if (type == INTEGER) {
                writeWhole(size);
            } else {
                writeWhole(size / 100);
                add('.');
                add((int) ('0' + size / 10 % 10));
                add((int) ('0' + size % 10));
            }
        }

        private void writeWhole(long whole) {
            long unit = 1;
            for (int i = 1; i < MAX_INTEGER_DIGITS && whole / unit >= 10; i++) {
                unit *= 10;
            }
            while (unit > 0) {
                add((int) ('0' + whole / unit % 10));
                unit /= 10;
            }
        }

        private void writeText(long cell) {
            boolean plain = isLetters(cell);
            if (!plain) {
                add('\'');
            }
            for (int i = 0; i < MAX_CHARACTERS && character(cell, i) != 0; i++) {
                add(character(cell, i));
                if (character(cell, i) == '\'') {
                    add('\'');
                }
            }
            if (!plain) {
                add('\'');
            }
        }

        private static boolean isLetters(long cell) {
            for (int i = 0; i < MAX_CHARACTERS; i++) {
                int c = character(cell, i);
                if (c == 0) {
                    return i > 0;
                }
                if (c < 'a' || c > 'z') {
                    return false;
                }
            }
            return true;
        }

        private static int character(long cell, int i) {
            return (int) (cell >> CHARACTER_BITS * (MAX_CHARACTERS - 1 - i)) & CHARACTER_MASK;
        }

        private void add(int c) {
            if (length < characters.length) {
                characters[length] = (char) c;
                length++;
            }
        }
    }
}
