import java.util.NoSuchElementException;

/** A nester of sheet metal; see README.md and the document's promises 1 to 25. */
public final class SheetNester {
  private static final int MAX_SHEETS = 6;
  private static final int MAX_SHAPES = 8;
  private static final int MAX_PARTS = 20;
  private static final int MAX_CELLS = 100;
  private static final int MAX_TEXT = 70;
  private static final int MAX_CHANGES = 8;
  private static final int MAX_PARTS_SHORTEST = 9;
  private static final int MAX_STOCK = 99;
  private static final int MIN_SHEET_SIDE = 2;
  private static final int MAX_SHEET_SIDE = 10;
  private static final int MAX_SHAPE_SIDE = 4;
  private static final int MAX_GRAIN = 2;
  private static final int MAX_RULE = 2;
  private static final int TURNS = 4;

  private static final int FREE = -1;
  private static final int UNUSABLE = -2;

  // The first fields of each table stand in the order of the document's "what".
  private static final int SHEET_COLUMNS = 0;
  private static final int SHEET_ROWS = 1;
  private static final int SHEET_GRAIN = 2;
  private static final int SHEET_CELLS = 3;
  private static final int SHEET_FIELDS = SHEET_CELLS + MAX_CELLS;
  private static final int SHAPE_COLUMNS = 0;
  private static final int SHAPE_ROWS = 1;
  private static final int SHAPE_COVERED = 2;
  private static final int SHAPE_RULE = 3;
  private static final int SHAPE_STOCK = 4;
  private static final int SHAPE_TURNED = 5;
  private static final int SHAPE_FIELDS = SHAPE_TURNED + TURNS;
  private static final int PART_SHAPE = 0;
  private static final int PART_SHEET = 1;
  private static final int PART_COLUMN = 2;
  private static final int PART_ROW = 3;
  private static final int PART_TURN = 4;
  private static final int PART_FIELDS = 5;

  private static final int REFUSED = 1;
  private static final int GRAIN_FORBIDS = 2;
  private static final int NO_STOCK = 3;
  private static final int NO_PART_LEFT = 4;
  private static final int PLACE_BLOCKED = 5;
  private static final int BEYOND_EDGE = 6;
  private static final int CELL_UNUSABLE = 7;
  private static final int CELL_COVERED = 8;

  private static final int NOT_READ = 1;
  private static final int TEXT_AT_FAULT = 2;
  private static final int ITEM_AT_FAULT = 3;
  private static final int NUMBER_OUT_OF_RANGE = 4;
  private static final int ROWS_AT_FAULT = 5;
  private static final int TOO_MANY = 6;
  private static final int NO_SUCH_CELL = 7;

  // Everything that the calls work on is made once, since all objects of a run share one room.
  private final Shop now;
  private final Shop beforeRead;
  private final Shop snapshot;
  private final History history;
  private final Causes reasons;
  private final Causes faults;
  private final Fit fit;
  private final Search search;
  private final Regions regions;
  private final Route route;
  private final Script script;
  private boolean hasSnapshot;

  public SheetNester() {
    now = new Shop();
    beforeRead = new Shop();
    snapshot = new Shop();
    history = new History();
    reasons = new Causes();
    faults = new Causes();
    fit = new Fit();
    search = new Search();
    regions = new Regions();
    route = new Route();
    script = new Script();
    hasSnapshot = false;
  }

  // ---- sheets and shapes

  public int addSheet(int columns, int rows, int grain) throws IllegalArgumentException, IllegalStateException {
    if (!isSheetSide(columns) || !isSheetSide(rows) || !isWithin(grain, 0, MAX_GRAIN)) {
      throw new IllegalArgumentException("an argument is out of range");
    }
    if (now.sheets.isFull()) {
      throw new IllegalStateException("there are 6 sheets");
    }
    history.push(now);
    return now.createSheet(columns, rows, grain, FREE);
  }

  public int addShape(int columns, int rows, int covered, int rule, int stock)
      throws IllegalArgumentException, IllegalStateException {
    if (!isWithin(rule, 0, MAX_RULE) || !isWithin(stock, 0, MAX_STOCK) || !Masks.isShape(columns, rows, covered)) {
      throw new IllegalArgumentException("an argument is out of range, or this is no shape");
    }
    if (now.shapes.isFull()) {
      throw new IllegalStateException("there are 8 shapes");
    }
    history.push(now);
    return now.createShape(columns, rows, covered, rule, stock);
  }

  public int spoil(int sheet, int cell) throws IndexOutOfBoundsException, UnsupportedOperationException {
    checkCell(sheet, cell);
    if (now.onCell(sheet, cell) != FREE) {
      throw new UnsupportedOperationException("the cell is not free");
    }
    history.push(now);
    now.setCell(sheet, cell, UNUSABLE);
    return now.cellsWith(sheet, FREE);
  }

  public int sheet(int sheet, int what) throws IndexOutOfBoundsException, IllegalArgumentException {
    checkSheet(sheet);
    switch (what) {
      case 0:
      case 1:
      case 2:
        return now.sheets.get(sheet, what);
      case 3:
        return now.cellsWith(sheet, FREE);
      case 4:
        return now.cellsWith(sheet, UNUSABLE);
      case 5:
        return now.coveredCells(sheet);
      case 6:
        return now.parts.rowsWith(PART_SHEET, sheet);
      case 7:
        return now.cutsOn(sheet, false);
      case 8:
        return now.cutsOn(sheet, true);
      case 9:
        return regions.findRemnants(now, sheet);
      default:
        throw new IllegalArgumentException("what is not valid");
    }
  }

  public int cell(int sheet, int cell) throws IndexOutOfBoundsException {
    checkCell(sheet, cell);
    return now.onCell(sheet, cell);
  }

  public int shape(int shape, int what) throws IndexOutOfBoundsException, IllegalArgumentException {
    checkShape(shape);
    switch (what) {
      case 0:
      case 1:
      case 2:
      case 3:
      case 4:
        return now.shapes.get(shape, what);
      case 5:
        return now.sizeOf(shape);
      case 6:
        return now.parts.rowsWith(PART_SHAPE, shape);
      case 7:
        return now.differentTurns(shape);
      default:
        throw new IllegalArgumentException("what is not valid");
    }
  }

  public int turned(int shape, int turn) throws IndexOutOfBoundsException, IllegalArgumentException {
    checkShape(shape);
    checkTurn(turn);
    return now.coveredAfter(shape, turn);
  }

  // ---- parts

  public int place(int shape, int sheet, int column, int row, int turn)
      throws IndexOutOfBoundsException, IllegalArgumentException, UnsupportedOperationException {
    checkShape(shape);
    checkSheet(sheet);
    checkTurn(turn);
    if (!isAdmitted(shape, sheet, column, row, turn)) {
      throw new UnsupportedOperationException("the shape cannot be placed");
    }
    history.push(now);
    return now.createPart(shape, sheet, column, row, turn);
  }

  public int take(int part) throws IndexOutOfBoundsException {
    checkPart(part);
    history.push(now);
    now.removePart(part);
    return now.parts.size();
  }

  public int part(int part, int what) throws IndexOutOfBoundsException, IllegalArgumentException {
    checkPart(part);
    switch (what) {
      case 0:
      case 1:
      case 2:
      case 3:
      case 4:
        return now.parts.get(part, what);
      case 5:
        return now.lowestCell(part);
      case 6:
        return regions.smallestAround(now, part);
      case 7:
        return now.commonCutsOf(part);
      default:
        throw new IllegalArgumentException("what is not valid");
    }
  }

  public int reason(int level, boolean isPlace) throws NoSuchElementException {
    return causeNumber(reasons, level, isPlace);
  }

  public int nest(int shape) throws IndexOutOfBoundsException, NoSuchElementException {
    checkShape(shape);
    if (!search.find(now, shape)) {
      throw new NoSuchElementException("the shape cannot be placed");
    }
    history.push(now);
    return search.carryOut(now, shape);
  }

  public int nestAll() {
    history.push(now);
    int placed = 0;
    // A shape that cannot be nested any more never can again while others are nested,
    // so each one is nested as often as possible before the next one's turn comes.
    for (int size = MAX_SHAPE_SIDE * MAX_SHAPE_SIDE; size > 0; size--) {
      for (int shape = 0; shape < now.shapes.size(); shape++) {
        boolean isItsTurn = now.sizeOf(shape) == size;
        for (int i = 0; i < MAX_PARTS && isItsTurn && search.find(now, shape); i++) {
          search.carryOut(now, shape);
          placed++;
        }
      }
    }
    return placed;
  }

  // ---- remnants and ways

  public int remnant(int sheet, int remnant, int what) throws IndexOutOfBoundsException, IllegalArgumentException {
    checkSheet(sheet);
    checkRemnant(sheet, remnant);
    regions.measure(remnant);
    switch (what) {
      case 0:
        return regions.cellsMeasured();
      case 1:
        return regions.lowestMeasured();
      case 2:
        return regions.columnsMeasured();
      case 3:
        return regions.rowsMeasured();
      case 4:
        return regions.greatestRectangle(remnant);
      default:
        throw new IllegalArgumentException("what is not valid");
    }
  }

  public int keep(int sheet, int remnant) throws IndexOutOfBoundsException, IllegalStateException {
    checkSheet(sheet);
    checkRemnant(sheet, remnant);
    if (now.sheets.isFull()) {
      throw new IllegalStateException("there are 6 sheets");
    }
    history.push(now);
    return regions.splitOff(now, sheet, remnant);
  }

  public int way(int sheet, int way, int i)
      throws IndexOutOfBoundsException, IllegalArgumentException, UnsupportedOperationException,
          NoSuchElementException {
    checkSheet(sheet);
    if (!isWithin(way, 0, 1)) {
      throw new IllegalArgumentException("there is no such way");
    }
    int stops = now.parts.rowsWith(PART_SHEET, sheet);
    if (way == 1 && stops > MAX_PARTS_SHORTEST) {
      throw new UnsupportedOperationException("the sheet has more than 9 parts");
    }
    if (!isWithin(i, -1, stops - 1)) {
      throw new NoSuchElementException("there is no such place in the order");
    }
    route.plan(now, regions, sheet, way == 1);
    return i == -1 ? route.length() : route.partAt(i);
  }

  public float usedShare() throws ArithmeticException {
    int covered = 0;
    int usable = 0;
    for (int sheet = 0; sheet < now.sheets.size(); sheet++) {
      covered += now.coveredCells(sheet);
      usable += now.cellsOf(sheet) - now.cellsWith(sheet, UNUSABLE);
    }
    if (usable < 1) {
      throw new ArithmeticException("there are no usable cells");
    }
    return (float) covered / (float) usable;
  }

  public int count(int what) throws IllegalArgumentException {
    switch (what) {
      case 0:
        return now.sheets.size();
      case 1:
        return now.shapes.size();
      case 2:
        return now.parts.size();
      case 3:
        return cellsOfAllSheets();
      case 4:
        return cutsOfAllSheets();
      case 5:
        return history.size();
      case 6:
        return script.length();
      default:
        throw new IllegalArgumentException("what is not valid");
    }
  }

  // ---- texts

  public int feed(char character) throws IllegalStateException {
    if (script.isFull()) {
      throw new IllegalStateException("the input has 70 characters");
    }
    return script.append(character);
  }

  public int read() {
    faults.clear();
    int items = script.countItems();
    boolean isDone = items > 0 ? carryOutItems(items) : refuseText();
    script.clear();
    return isDone ? items : -1;
  }

  public int fault(int level, boolean isPlace) throws NoSuchElementException {
    return causeNumber(faults, level, isPlace);
  }

  // ---- undo, snapshots

  public int undo() throws IllegalStateException {
    if (history.size() < 1) {
      throw new IllegalStateException("there is no change that can be undone");
    }
    history.pop(now);
    return history.size();
  }

  public int saveSnapshot() {
    snapshot.copyFrom(now);
    hasSnapshot = true;
    return now.parts.size();
  }

  public int restoreSnapshot() throws IllegalStateException {
    if (!hasSnapshot) {
      throw new IllegalStateException("there is no snapshot");
    }
    now.copyFrom(snapshot);
    history.clear();
    return now.parts.size();
  }

  // ---- what the calls have in common

  private static boolean isWithin(int number, int lowest, int highest) {
    return number >= lowest && number <= highest;
  }

  private static boolean isSheetSide(int number) {
    return isWithin(number, MIN_SHEET_SIDE, MAX_SHEET_SIDE);
  }

  /** Reads beyond a row as 0, so that no index can ever be out of bounds. */
  private static int at(int[] row, int i) {
    return i >= 0 && i < row.length ? row[i] : 0;
  }

  /** Writes nothing beyond a row, so that no index can ever be out of bounds. */
  private static void put(int[] row, int i, int value) {
    if (i >= 0 && i < row.length) {
      row[i] = value;
    }
  }

  private static int causeNumber(Causes causes, int level, boolean isPlace) {
    if (!causes.has(level)) {
      throw new NoSuchElementException("nothing is kept of this level");
    }
    return isPlace ? causes.placeAt(level) : causes.kindAt(level);
  }

  private void checkSheet(int sheet) {
    if (!now.sheets.has(sheet)) {
      throw new IndexOutOfBoundsException("there is no such sheet");
    }
  }

  private void checkCell(int sheet, int cell) {
    checkSheet(sheet);
    if (!isWithin(cell, 0, now.cellsOf(sheet) - 1)) {
      throw new IndexOutOfBoundsException("there is no such cell");
    }
  }

  private void checkShape(int shape) {
    if (!now.shapes.has(shape)) {
      throw new IndexOutOfBoundsException("there is no such shape");
    }
  }

  private void checkPart(int part) {
    if (!now.parts.has(part)) {
      throw new IndexOutOfBoundsException("there is no such part");
    }
  }

  /** Leaves the remnants of the sheet in the regions. */
  private void checkRemnant(int sheet, int remnant) {
    if (!isWithin(remnant, 0, regions.findRemnants(now, sheet) - 1)) {
      throw new IndexOutOfBoundsException("there is no such remnant");
    }
  }

  private static void checkTurn(int turn) {
    if (!isWithin(turn, 0, TURNS - 1)) {
      throw new IllegalArgumentException("there is no such turn");
    }
  }

  /** Keeps the reasons if the shape cannot be placed. */
  private boolean isAdmitted(int shape, int sheet, int column, int row, int turn) {
    if (!now.grainAllows(shape, sheet, turn)) {
      return refuse(shape, GRAIN_FORBIDS, turn);
    }
    if (now.shapes.get(shape, SHAPE_STOCK) < 1) {
      return refuse(shape, NO_STOCK, now.parts.rowsWith(PART_SHAPE, shape));
    }
    if (now.parts.isFull()) {
      return refuse(shape, NO_PART_LEFT, MAX_PARTS);
    }
    if (!fit.isFitting(now, shape, sheet, column, row, turn)) {
      refuse(shape, PLACE_BLOCKED, fit.blockedNumber());
      reasons.add(fit.blockKind(), fit.blockPlace());
      return false;
    }
    return true;
  }

  private boolean refuse(int shape, int kind, int placeOfKind) {
    reasons.clear();
    reasons.add(REFUSED, shape);
    reasons.add(kind, placeOfKind);
    return false;
  }

  private int cellsOfAllSheets() {
    int cells = 0;
    for (int sheet = 0; sheet < now.sheets.size(); sheet++) {
      cells += now.cellsOf(sheet);
    }
    return cells;
  }

  private int cutsOfAllSheets() {
    int cuts = 0;
    for (int sheet = 0; sheet < now.sheets.size(); sheet++) {
      cuts += now.cutsOn(sheet, false);
    }
    return cuts;
  }

  private boolean refuseText() {
    faults.add(NOT_READ, script.itemsBefore());
    faults.add(TEXT_AT_FAULT, script.position());
    return false;
  }

  private boolean carryOutItems(int items) {
    beforeRead.copyFrom(now);
    script.rewind();
    for (int item = 0; item < items; item++) {
      script.isItem();
      script.accepts(';');
      int known = now.sheets.size() + now.shapes.size();
      if (!script.carryOut(now)) {
        faults.add(NOT_READ, item);
        faults.add(ITEM_AT_FAULT, known);
        faults.add(script.faultKind(), script.faultPlace());
        now.copyFrom(beforeRead);
        return false;
      }
    }
    history.push(beforeRead);
    return true;
  }

  /** Rows of as many numbers each; beyond them all reads as 0 and nothing is written. */
  private static final class Table {
    private final int width;
    private final int[] values;
    private int size;

    Table(int limit, int width) {
      this.width = width;
      this.values = new int[limit > 0 && width > 0 ? limit * width : 0];
      this.size = 0;
    }

    int size() {
      return size;
    }

    boolean has(int row) {
      return row >= 0 && row < size;
    }

    boolean isFull() {
      return (size + 1) * width > values.length;
    }

    int get(int row, int field) {
      int i = row * width + field;
      return i >= 0 && i < values.length ? values[i] : 0;
    }

    void set(int row, int field, int value) {
      int i = row * width + field;
      if (i >= 0 && i < values.length) {
        values[i] = value;
      }
    }

    /** The caller writes every field, as a row that was removed leaves its numbers behind. */
    int append() {
      if (isFull()) {
        return -1;
      }
      size++;
      return size - 1;
    }

    void remove(int row) {
      if (!has(row)) {
        return;
      }
      for (int i = row * width; i < (size - 1) * width; i++) {
        put(values, i, at(values, i + width));
      }
      size--;
    }

    int rowsWith(int field, int value) {
      int rows = 0;
      for (int row = 0; row < size; row++) {
        if (get(row, field) == value) {
          rows++;
        }
      }
      return rows;
    }

    void copyFrom(Table other) {
      System.arraycopy(other.values, 0, values, 0, Math.min(other.values.length, values.length));
      size = other.size;
    }
  }

  /** Fields of at most 4 by 4 places, a bit for each place that is covered. */
  private static final class Masks {
    static boolean covers(int covered, int columns, int column, int row) {
      return (covered >> (column + columns * row) & 1) == 1;
    }

    static boolean isShape(int columns, int rows, int covered) {
      if (!isWithin(columns, 1, MAX_SHAPE_SIDE) || !isWithin(rows, 1, MAX_SHAPE_SIDE)) {
        return false;
      }
      // With 0 there would be no place from which to look for the connected ones.
      if (covered <= 0 || covered >= 1 << columns * rows) {
        return false;
      }
      return !hasEmptyLine(columns, rows, covered) && isConnected(columns, rows, covered);
    }

    static int quarterTurned(int columns, int rows, int covered) {
      int result = 0;
      for (int row = 0; row < columns; row++) {
        for (int column = 0; column < rows; column++) {
          if (covers(covered, columns, row, rows - 1 - column)) {
            result |= 1 << (column + rows * row);
          }
        }
      }
      return result;
    }

    private static int rowMask(int columns, int row) {
      return ((1 << columns) - 1) << (columns * row);
    }

    private static int columnMask(int columns, int rows, int column) {
      int mask = 0;
      for (int row = 0; row < rows; row++) {
        mask |= 1 << (column + columns * row);
      }
      return mask;
    }

    private static boolean hasEmptyLine(int columns, int rows, int covered) {
      for (int row = 0; row < rows; row++) {
        if ((covered & rowMask(columns, row)) == 0) {
          return true;
        }
      }
      for (int column = 0; column < columns; column++) {
        if ((covered & columnMask(columns, rows, column)) == 0) {
          return true;
        }
      }
      return false;
    }

    private static boolean isConnected(int columns, int rows, int covered) {
      int notFirst = ~columnMask(columns, rows, 0);
      int notLast = ~columnMask(columns, rows, columns - 1);
      int reached = covered & -covered;
      for (int step = 1; step < columns * rows; step++) {
        int beside = (reached & notLast) << 1 | (reached & notFirst) >> 1;
        int aboveAndBelow = reached << columns | reached >> columns;
        reached |= (beside | aboveAndBelow) & covered;
      }
      return reached == covered;
    }
  }

  /** The sheets, shapes and parts, which are undone and saved together. */
  private static final class Shop {
    private final Table sheets;
    private final Table shapes;
    private final Table parts;

    Shop() {
      sheets = new Table(MAX_SHEETS, SHEET_FIELDS);
      shapes = new Table(MAX_SHAPES, SHAPE_FIELDS);
      parts = new Table(MAX_PARTS, PART_FIELDS);
    }

    void copyFrom(Shop other) {
      sheets.copyFrom(other.sheets);
      shapes.copyFrom(other.shapes);
      parts.copyFrom(other.parts);
    }

    int columnsOf(int sheet) {
      return sheets.get(sheet, SHEET_COLUMNS);
    }

    int rowsOf(int sheet) {
      return sheets.get(sheet, SHEET_ROWS);
    }

    int cellsOf(int sheet) {
      return columnsOf(sheet) * rowsOf(sheet);
    }

    int onCell(int sheet, int cell) {
      return sheets.get(sheet, SHEET_CELLS + cell);
    }

    /** Answers a cell beyond the sheet like one that is not usable. */
    int onPlace(int sheet, int column, int row) {
      int columns = sheets.get(sheet, SHEET_COLUMNS);
      int rows = sheets.get(sheet, SHEET_ROWS);
      if (column < 0 || column >= columns || row < 0 || row >= rows) {
        return UNUSABLE;
      }
      return sheets.get(sheet, SHEET_CELLS + column + columns * row);
    }

    void setCell(int sheet, int cell, int value) {
      sheets.set(sheet, SHEET_CELLS + cell, value);
    }

    int cellsWith(int sheet, int value) {
      int cells = 0;
      for (int cell = 0; cell < cellsOf(sheet); cell++) {
        if (onCell(sheet, cell) == value) {
          cells++;
        }
      }
      return cells;
    }

    int coveredCells(int sheet) {
      return cellsOf(sheet) - cellsWith(sheet, FREE) - cellsWith(sheet, UNUSABLE);
    }

    int createSheet(int columns, int rows, int grain, int value) {
      int sheet = sheets.append();
      sheets.set(sheet, SHEET_COLUMNS, columns);
      sheets.set(sheet, SHEET_ROWS, rows);
      sheets.set(sheet, SHEET_GRAIN, grain);
      for (int cell = 0; cell < columns * rows; cell++) {
        setCell(sheet, cell, value);
      }
      return sheet;
    }

    int createShape(int columns, int rows, int covered, int rule, int stock) {
      int shape = shapes.append();
      shapes.set(shape, SHAPE_COLUMNS, columns);
      shapes.set(shape, SHAPE_ROWS, rows);
      shapes.set(shape, SHAPE_COVERED, covered);
      shapes.set(shape, SHAPE_RULE, rule);
      shapes.set(shape, SHAPE_STOCK, stock);
      int turnedCover = covered;
      for (int turn = 0; turn < TURNS; turn++) {
        shapes.set(shape, SHAPE_TURNED + turn, turnedCover);
        boolean isUpright = turn % 2 == 0;
        turnedCover = Masks.quarterTurned(isUpright ? columns : rows, isUpright ? rows : columns, turnedCover);
      }
      return shape;
    }

    int coveredAfter(int shape, int turn) {
      return shapes.get(shape, SHAPE_TURNED + turn);
    }

    int columnsAfter(int shape, int turn) {
      return shapes.get(shape, turn % 2 == 0 ? SHAPE_COLUMNS : SHAPE_ROWS);
    }

    int rowsAfter(int shape, int turn) {
      return shapes.get(shape, turn % 2 == 0 ? SHAPE_ROWS : SHAPE_COLUMNS);
    }

    int sizeOf(int shape) {
      return Integer.bitCount(shapes.get(shape, SHAPE_COVERED));
    }

    int differentTurns(int shape) {
      int turns = 0;
      for (int turn = 0; turn < TURNS; turn++) {
        if (!isLikeAnEarlier(shape, turn)) {
          turns++;
        }
      }
      return turns;
    }

    private boolean isLikeAnEarlier(int shape, int turn) {
      for (int earlier = 0; earlier < turn; earlier++) {
        if (columnsAfter(shape, earlier) == columnsAfter(shape, turn)
            && coveredAfter(shape, earlier) == coveredAfter(shape, turn)) {
          return true;
        }
      }
      return false;
    }

    boolean grainAllows(int shape, int sheet, int turn) {
      int rule = shapes.get(shape, SHAPE_RULE);
      int grain = sheets.get(sheet, SHEET_GRAIN);
      if (rule == 0 || grain == 0) {
        return true;
      }
      boolean isAlong = (turn % 2 == 0) == (grain == 1);
      return isAlong == (rule == 1);
    }

    /** The caller has seen that the shape can be placed so. */
    int createPart(int shape, int sheet, int column, int row, int turn) {
      int part = parts.append();
      parts.set(part, PART_SHAPE, shape);
      parts.set(part, PART_SHEET, sheet);
      parts.set(part, PART_COLUMN, column);
      parts.set(part, PART_ROW, row);
      parts.set(part, PART_TURN, turn);
      int columns = columnsAfter(shape, turn);
      int covered = coveredAfter(shape, turn);
      for (int r = 0; r < rowsAfter(shape, turn); r++) {
        for (int c = 0; c < columns; c++) {
          if (Masks.covers(covered, columns, c, r)) {
            setCell(sheet, column + c + columnsOf(sheet) * (row + r), part);
          }
        }
      }
      shapes.set(shape, SHAPE_STOCK, shapes.get(shape, SHAPE_STOCK) - 1);
      return part;
    }

    void removePart(int part) {
      int shape = parts.get(part, PART_SHAPE);
      shapes.set(shape, SHAPE_STOCK, Math.min(MAX_STOCK, shapes.get(shape, SHAPE_STOCK) + 1));
      parts.remove(part);
      for (int sheet = 0; sheet < sheets.size(); sheet++) {
        for (int cell = 0; cell < cellsOf(sheet); cell++) {
          int on = onCell(sheet, cell);
          if (on == part) {
            setCell(sheet, cell, FREE);
          } else if (on > part) {
            setCell(sheet, cell, on - 1);
          }
        }
      }
    }

    int lowestCell(int part) {
      int sheet = parts.get(part, PART_SHEET);
      for (int cell = 0; cell < cellsOf(sheet); cell++) {
        if (onCell(sheet, cell) == part) {
          return cell;
        }
      }
      return -1;
    }

    int sizeOfPart(int part) {
      return sizeOf(parts.get(part, PART_SHAPE));
    }

    int cutsOn(int sheet, boolean isCommonOnly) {
      int cuts = 0;
      for (int row = 0; row < rowsOf(sheet); row++) {
        for (int column = 0; column < columnsOf(sheet); column++) {
          int on = onPlace(sheet, column, row);
          if (column + 1 < columnsOf(sheet) && isCut(on, onPlace(sheet, column + 1, row), isCommonOnly)) {
            cuts++;
          }
          if (row + 1 < rowsOf(sheet) && isCut(on, onPlace(sheet, column, row + 1), isCommonOnly)) {
            cuts++;
          }
        }
      }
      return cuts;
    }

    private static boolean isCut(int on, int onNext, boolean isCommonOnly) {
      boolean isCommon = on >= 0 && onNext >= 0;
      return on != onNext && (isCommon || !isCommonOnly && (on >= 0 || onNext >= 0));
    }

    int commonCutsOf(int part) {
      int cuts = 0;
      int sheet = parts.get(part, PART_SHEET);
      for (int row = 0; row < rowsOf(sheet); row++) {
        for (int column = 0; column < columnsOf(sheet); column++) {
          if (onPlace(sheet, column, row) == part) {
            cuts += otherPartsBeside(sheet, column, row, part);
          }
        }
      }
      return cuts;
    }

    int otherPartsBeside(int sheet, int column, int row, int own) {
      return otherPart(onPlace(sheet, column - 1, row), own)
          + otherPart(onPlace(sheet, column + 1, row), own)
          + otherPart(onPlace(sheet, column, row - 1), own)
          + otherPart(onPlace(sheet, column, row + 1), own);
    }

    private static int otherPart(int on, int own) {
      return on >= 0 && on != own ? 1 : 0;
    }
  }

  /** The latest changes, as the shops that were before them, in a ring. */
  private static final class History {
    private final Shop[] shops;
    private int next;
    private int size;

    History() {
      shops = new Shop[MAX_CHANGES];
      for (int i = 0; i < shops.length; i++) {
        shops[i] = new Shop();
      }
      next = 0;
      size = 0;
    }

    int size() {
      return size;
    }

    void clear() {
      size = 0;
    }

    private Shop shopAt(int i) {
      return i >= 0 && i < shops.length ? shops[i] : null;
    }

    void push(Shop shop) {
      Shop slot = shopAt(next);
      if (slot == null) {
        return;
      }
      slot.copyFrom(shop);
      next = (next + 1) % MAX_CHANGES;
      size = Math.min(size + 1, MAX_CHANGES);
    }

    void pop(Shop shop) {
      int latest = (next + MAX_CHANGES - 1) % MAX_CHANGES;
      Shop slot = shopAt(latest);
      if (slot == null || size < 1) {
        return;
      }
      shop.copyFrom(slot);
      next = latest;
      size--;
    }
  }

  /** Kinds with places, each caused by the one of the next level. */
  private static final class Causes {
    private static final int MAX_LEVELS = 3;
    private final int[] kinds;
    private final int[] places;
    private int levels;

    Causes() {
      kinds = new int[MAX_LEVELS];
      places = new int[MAX_LEVELS];
      levels = 0;
    }

    void clear() {
      levels = 0;
    }

    void add(int kind, int placeOfKind) {
      if (levels < MAX_LEVELS) {
        put(kinds, levels, kind);
        put(places, levels, placeOfKind);
        levels++;
      }
    }

    boolean has(int level) {
      return level >= 0 && level < levels;
    }

    int kindAt(int level) {
      return at(kinds, level);
    }

    int placeAt(int level) {
      return at(places, level);
    }
  }

  /** Tells whether the cells for a shape are free, and otherwise what is in its way. */
  private static final class Fit {
    private static final int ABOVE = 0;
    private static final int RIGHT = 1;
    private static final int BELOW = 2;
    private static final int LEFT = 3;
    private static final int INSIDE = 4;
    private int number;
    private int kind;
    private int blocker;

    Fit() {
      number = 0;
      kind = 0;
      blocker = 0;
    }

    boolean isFitting(Shop shop, int shape, int sheet, int column, int row, int turn) {
      int columns = shop.columnsAfter(shape, turn);
      int covered = shop.coveredAfter(shape, turn);
      number = 0;
      for (int r = 0; r < shop.rowsAfter(shape, turn); r++) {
        for (int c = 0; c < columns; c++) {
          if (Masks.covers(covered, columns, c, r)) {
            // Sums of ints could come round to the sheet again.
            if (!isFree(shop, sheet, (long) column + c, (long) row + r)) {
              return false;
            }
            number++;
          }
        }
      }
      return true;
    }

    int blockedNumber() {
      return number;
    }

    int blockKind() {
      return kind;
    }

    int blockPlace() {
      return blocker;
    }

    private boolean isFree(Shop shop, int sheet, long column, long row) {
      int columns = shop.columnsOf(sheet);
      int side = sideOf(columns, shop.rowsOf(sheet), column, row);
      if (side != INSIDE) {
        return block(BEYOND_EDGE, side);
      }
      int cell = (int) (column + columns * row);
      int on = shop.onCell(sheet, cell);
      if (on == FREE) {
        return true;
      }
      return on == UNUSABLE ? block(CELL_UNUSABLE, cell) : block(CELL_COVERED, on);
    }

    private static int sideOf(int columns, int rows, long column, long row) {
      if (row < 0) {
        return ABOVE;
      }
      if (column >= columns) {
        return RIGHT;
      }
      if (row >= rows) {
        return BELOW;
      }
      return column < 0 ? LEFT : INSIDE;
    }

    private boolean block(int kindOfBlock, int placeOfBlock) {
      kind = kindOfBlock;
      blocker = placeOfBlock;
      return false;
    }
  }

  /** Looks for the best way to nest a shape. */
  private static final class Search {
    private final Fit fit;
    private int bestSheet;
    private int bestColumn;
    private int bestRow;
    private int bestTurn;
    private int bestCuts;

    Search() {
      fit = new Fit();
      bestSheet = 0;
      bestColumn = 0;
      bestRow = 0;
      bestTurn = 0;
      bestCuts = -1;
    }

    boolean find(Shop shop, int shape) {
      bestCuts = -1;
      if (shop.shapes.get(shape, SHAPE_STOCK) < 1 || shop.parts.isFull()) {
        return false;
      }
      for (int sheet = 0; sheet < shop.sheets.size() && bestCuts < 0; sheet++) {
        lookOn(shop, shape, sheet);
      }
      return bestCuts >= 0;
    }

    int carryOut(Shop shop, int shape) {
      return shop.createPart(shape, bestSheet, bestColumn, bestRow, bestTurn);
    }

    // The lowest row, column and turn come first, so that only more cuts are better.
    private void lookOn(Shop shop, int shape, int sheet) {
      for (int row = 0; row < shop.rowsOf(sheet); row++) {
        for (int column = 0; column < shop.columnsOf(sheet); column++) {
          for (int turn = 0; turn < TURNS; turn++) {
            if (shop.grainAllows(shape, sheet, turn) && fit.isFitting(shop, shape, sheet, column, row, turn)) {
              int cuts = newCommonCuts(shop, shape, sheet, column, row, turn);
              if (cuts > bestCuts) {
                bestCuts = cuts;
                bestSheet = sheet;
                bestColumn = column;
                bestRow = row;
                bestTurn = turn;
              }
            }
          }
        }
      }
    }

    private static int newCommonCuts(Shop shop, int shape, int sheet, int column, int row, int turn) {
      int columns = shop.columnsAfter(shape, turn);
      int covered = shop.coveredAfter(shape, turn);
      int cuts = 0;
      for (int r = 0; r < shop.rowsAfter(shape, turn); r++) {
        for (int c = 0; c < columns; c++) {
          if (Masks.covers(covered, columns, c, r)) {
            cuts += shop.otherPartsBeside(sheet, column + c, row + r, FREE);
          }
        }
      }
      return cuts;
    }
  }

  /** The connected cells of a sheet: its remnants, or what is outside the holes of a part. */
  private static final class Regions {
    private static final int OPEN = -1;
    private static final int SHUT = -2;
    private final int[] labels;
    private final int[] queue;
    private int columns;
    private int rows;
    private int queued;
    private int cells;
    private int lowest;
    private int left;
    private int right;
    private int top;
    private int bottom;

    Regions() {
      labels = new int[MAX_CELLS];
      queue = new int[MAX_CELLS];
      columns = 0;
      rows = 0;
      queued = 0;
      cells = 0;
    }

    /** Labels the cells with their remnants and answers how many there are. */
    int findRemnants(Shop shop, int sheet) {
      begin(shop, sheet);
      for (int cell = 0; cell < columns * rows; cell++) {
        put(labels, cell, shop.onCell(sheet, cell) == FREE ? OPEN : SHUT);
      }
      int remnants = 0;
      for (int cell = 0; cell < columns * rows; cell++) {
        if (labelAt(cell) == OPEN) {
          spread(cell, remnants);
          remnants++;
        }
      }
      return remnants;
    }

    /** Leaves open just the cells that are in the holes of the part. */
    void findHoles(Shop shop, int sheet, int part) {
      begin(shop, sheet);
      for (int cell = 0; cell < columns * rows; cell++) {
        put(labels, cell, shop.onCell(sheet, cell) == part ? SHUT : OPEN);
      }
      for (int row = 0; row < rows; row++) {
        spread(columns * row, 0);
        spread(columns * row + columns - 1, 0);
      }
      for (int column = 0; column < columns; column++) {
        spread(column, 0);
        spread(columns * (rows - 1) + column, 0);
      }
    }

    boolean isInHole(int cell) {
      return labelAt(cell) == OPEN;
    }

    /** Answers the part with the fewest cells within which a part lies, or -1. */
    int smallestAround(Shop shop, int part) {
      int sheet = shop.parts.get(part, PART_SHEET);
      int cell = shop.lowestCell(part);
      int smallest = -1;
      for (int other = 0; other < shop.parts.size(); other++) {
        if (shop.parts.get(other, PART_SHEET) == sheet) {
          findHoles(shop, sheet, other);
          if (isInHole(cell) && (smallest < 0 || shop.sizeOfPart(other) < shop.sizeOfPart(smallest))) {
            smallest = other;
          }
        }
      }
      return smallest;
    }

    private void begin(Shop shop, int sheet) {
      columns = shop.columnsOf(sheet);
      rows = shop.rowsOf(sheet);
    }

    private int labelAt(int cell) {
      return cell >= 0 && cell < columns * rows && cell < labels.length ? labels[cell] : SHUT;
    }

    private void spread(int start, int label) {
      queued = 0;
      enter(start, label);
      for (int head = 0; head < queued && head < MAX_CELLS; head++) {
        int cell = at(queue, head);
        int column = columns > 0 ? cell % columns : 0;
        if (column > 0) {
          enter(cell - 1, label);
        }
        if (column < columns - 1) {
          enter(cell + 1, label);
        }
        enter(cell - columns, label);
        enter(cell + columns, label);
      }
    }

    private void enter(int cell, int label) {
      if (labelAt(cell) == OPEN) {
        put(labels, cell, label);
        put(queue, queued, cell);
        queued++;
      }
    }

    void measure(int remnant) {
      cells = 0;
      lowest = -1;
      left = columns;
      right = -1;
      top = rows;
      bottom = -1;
      for (int row = 0; row < rows; row++) {
        for (int column = 0; column < columns; column++) {
          if (labelAt(column + columns * row) == remnant) {
            measureCell(column, row);
          }
        }
      }
    }

    private void measureCell(int column, int row) {
      if (cells == 0) {
        lowest = column + columns * row;
      }
      cells++;
      left = Math.min(left, column);
      right = Math.max(right, column);
      top = Math.min(top, row);
      bottom = Math.max(bottom, row);
    }

    int cellsMeasured() {
      return cells;
    }

    int lowestMeasured() {
      return lowest;
    }

    int columnsMeasured() {
      return right - left + 1;
    }

    int rowsMeasured() {
      return bottom - top + 1;
    }

    int greatestRectangle(int remnant) {
      int greatest = 0;
      for (int row = 0; row < rows; row++) {
        for (int column = 0; column < columns; column++) {
          greatest = Math.max(greatest, greatestFrom(remnant, column, row));
        }
      }
      return greatest;
    }

    private int greatestFrom(int remnant, int column, int row) {
      int greatest = 0;
      int width = columns;
      for (int end = row; end < rows && width > 0; end++) {
        width = Math.min(width, cellsToTheRight(remnant, column, end));
        greatest = Math.max(greatest, width * (end - row + 1));
      }
      return greatest;
    }

    private int cellsToTheRight(int remnant, int column, int row) {
      int end = column;
      while (end < columns && labelAt(end + columns * row) == remnant) {
        end++;
      }
      return end - column;
    }

    /** Makes the remnant, which has been found, a sheet of its own. */
    int splitOff(Shop shop, int sheet, int remnant) {
      measure(remnant);
      int newColumns = Math.max(MIN_SHEET_SIDE, columnsMeasured());
      int newRows = Math.max(MIN_SHEET_SIDE, rowsMeasured());
      int newSheet = shop.createSheet(newColumns, newRows, shop.sheets.get(sheet, SHEET_GRAIN), UNUSABLE);
      for (int row = top; row <= bottom; row++) {
        for (int column = left; column <= right; column++) {
          int cell = column + columns * row;
          if (labelAt(cell) == remnant) {
            shop.setCell(newSheet, column - left + newColumns * (row - top), FREE);
            shop.setCell(sheet, cell, UNUSABLE);
          }
        }
      }
      return newSheet;
    }
  }

  /** A way through a sheet; its stops are the parts of the sheet, in ascending order. */
  private static final class Route {
    private static final int START = -1;
    private static final int FAR = 1000000;
    private final int[] parts;
    private final int[] stopColumns;
    private final int[] stopRows;
    private final int[] inner;
    private final int[] order;
    private final int[] rests;
    private int stops;
    private int length;
    private int chosenLength;

    Route() {
      parts = new int[MAX_PARTS];
      stopColumns = new int[MAX_PARTS];
      stopRows = new int[MAX_PARTS];
      inner = new int[MAX_PARTS];
      order = new int[MAX_PARTS];
      rests = new int[(1 << MAX_PARTS_SHORTEST) * MAX_PARTS_SHORTEST];
      stops = 0;
      length = 0;
      chosenLength = 0;
    }

    int length() {
      return length;
    }

    int partAt(int i) {
      return at(parts, at(order, i));
    }

    void plan(Shop shop, Regions regions, int sheet, boolean isShortest) {
      findStops(shop, sheet);
      findInner(shop, regions, sheet);
      if (isShortest) {
        findRests();
      }
      int done = 0;
      int from = START;
      length = 0;
      for (int i = 0; i < stops; i++) {
        int next = choose(done, from, isShortest);
        put(order, i, next);
        length += distance(from, next);
        done |= 1 << next;
        from = next;
      }
    }

    private void findStops(Shop shop, int sheet) {
      int columns = shop.columnsOf(sheet);
      stops = 0;
      for (int part = 0; part < shop.parts.size(); part++) {
        if (shop.parts.get(part, PART_SHEET) == sheet) {
          int cell = shop.lowestCell(part);
          put(parts, stops, part);
          put(stopColumns, stops, columns > 0 ? cell % columns : 0);
          put(stopRows, stops, columns > 0 ? cell / columns : 0);
          stops++;
        }
      }
    }

    private void findInner(Shop shop, Regions regions, int sheet) {
      int columns = shop.columnsOf(sheet);
      for (int outer = 0; outer < stops; outer++) {
        regions.findHoles(shop, sheet, at(parts, outer));
        int within = 0;
        for (int stop = 0; stop < stops; stop++) {
          if (regions.isInHole(at(stopColumns, stop) + columns * at(stopRows, stop))) {
            within |= 1 << stop;
          }
        }
        put(inner, outer, within);
      }
    }

    /** Fills in the shortest length that is left once some stops are done, at each of them. */
    private void findRests() {
      int all = (1 << stops) - 1;
      for (int done = all; done > 0; done--) {
        for (int last = 0; last < stops; last++) {
          if ((done >> last & 1) == 1) {
            choose(done, last, true);
            put(rests, done * MAX_PARTS_SHORTEST + last, done == all ? 0 : chosenLength);
          }
        }
      }
    }

    private int choose(int done, int from, boolean isShortest) {
      int chosen = 0;
      chosenLength = FAR;
      for (int stop = 0; stop < stops; stop++) {
        if (isAllowed(done, stop)) {
          int way = distance(from, stop);
          if (isShortest) {
            way += at(rests, (done | 1 << stop) * MAX_PARTS_SHORTEST + stop);
          }
          if (way < chosenLength) {
            chosenLength = way;
            chosen = stop;
          }
        }
      }
      return chosen;
    }

    private boolean isAllowed(int done, int stop) {
      return (done >> stop & 1) == 0 && (at(inner, stop) & ~done) == 0;
    }

    private int distance(int from, int to) {
      int column = from == START ? 0 : at(stopColumns, from);
      int row = from == START ? 0 : at(stopRows, from);
      return Math.abs(at(stopColumns, to) - column) + Math.abs(at(stopRows, to) - row);
    }
  }

  /** The input, and the item of it that was read last. */
  private static final class Script {
    private final char[] text;
    private int length;
    private int position;
    private int items;
    private char item;
    private int number;
    private int first;
    private int second;
    private int grain;
    private int columns;
    private int rows;
    private int covered;
    private boolean isEven;
    private int faultKind;
    private int faultPlace;

    Script() {
      text = new char[MAX_TEXT];
      length = 0;
      position = 0;
      items = 0;
    }

    int length() {
      return length;
    }

    boolean isFull() {
      return length >= text.length;
    }

    int append(char character) {
      if (length >= 0 && length < text.length) {
        text[length] = character;
        length++;
      }
      return length;
    }

    void clear() {
      length = 0;
    }

    void rewind() {
      position = 0;
    }

    int position() {
      return position;
    }

    int itemsBefore() {
      return items;
    }

    int faultKind() {
      return faultKind;
    }

    int faultPlace() {
      return faultPlace;
    }

    /** Answers -1 if the text is at fault, which is then at the position, behind some items. */
    int countItems() {
      rewind();
      for (items = 0; items <= length; items++) {
        if (!isItem()) {
          return -1;
        }
        if (position >= length) {
          return items + 1;
        }
        if (!accepts(';')) {
          return -1;
        }
      }
      return -1;
    }

    private char next() {
      // No terminal is the character 0, so that it can stand for the end.
      return position >= 0 && position < length && position < text.length ? text[position] : (char) 0;
    }

    boolean accepts(char character) {
      if (next() != character) {
        return false;
      }
      position++;
      return true;
    }

    boolean isItem() {
      item = next();
      if (accepts('s')) {
        return isSheetItem();
      }
      if (accepts('p')) {
        return isShapeItem();
      }
      return accepts('d') && isSpoilItem();
    }

    private boolean isSheetItem() {
      if (!isNumber()) {
        return false;
      }
      first = number;
      if (!accepts('x') || !isNumber()) {
        return false;
      }
      second = number;
      grain = accepts('-') ? 1 : accepts('|') ? 2 : 0;
      return true;
    }

    private boolean isShapeItem() {
      if (!isRows() || !accepts(':') || !isDigit()) {
        return false;
      }
      first = number;
      if (!accepts('*') || !isNumber()) {
        return false;
      }
      second = number;
      return true;
    }

    private boolean isSpoilItem() {
      if (!isDigit()) {
        return false;
      }
      first = number;
      if (!accepts(':') || !isNumber()) {
        return false;
      }
      second = number;
      return true;
    }

    private boolean isRows() {
      columns = 0;
      rows = 0;
      covered = 0;
      isEven = true;
      for (int i = 0; i <= length; i++) {
        if (!isRow()) {
          return false;
        }
        if (!accepts('/')) {
          return true;
        }
      }
      return false;
    }

    private boolean isRow() {
      int width = 0;
      for (int i = 0; i < length && (next() == '#' || next() == '.'); i++) {
        if (next() == '#') {
          cover(width);
        }
        position++;
        width++;
      }
      if (rows == 0) {
        columns = width;
      }
      isEven = isEven && width == columns;
      rows++;
      return width > 0;
    }

    // While the first row is read, its length is not known yet, but not needed either.
    private void cover(int column) {
      if (column < MAX_SHAPE_SIDE && rows < MAX_SHAPE_SIDE) {
        covered |= 1 << (column + columns * rows);
      }
    }

    private boolean isNumber() {
      if (!isDigit()) {
        return false;
      }
      int tens = number;
      number = isDigit() ? tens * 10 + number : tens;
      return true;
    }

    private boolean isDigit() {
      if (next() < '0' || next() > '9') {
        return false;
      }
      number = next() - '0';
      position++;
      return true;
    }

    /** Leaves a fault if the item that was read last cannot be carried out. */
    boolean carryOut(Shop shop) {
      if (item == 's') {
        return carryOutSheet(shop);
      }
      return item == 'p' ? carryOutShape(shop) : carryOutSpoil(shop);
    }

    private boolean carryOutSheet(Shop shop) {
      if (!isSheetSide(first)) {
        return fail(NUMBER_OUT_OF_RANGE, 0);
      }
      if (!isSheetSide(second)) {
        return fail(NUMBER_OUT_OF_RANGE, 1);
      }
      if (shop.sheets.isFull()) {
        return fail(TOO_MANY, 0);
      }
      shop.createSheet(first, second, grain, FREE);
      return true;
    }

    private boolean carryOutShape(Shop shop) {
      if (first > MAX_RULE) {
        return fail(NUMBER_OUT_OF_RANGE, 0);
      }
      if (!isEven || !Masks.isShape(columns, rows, covered)) {
        return fail(ROWS_AT_FAULT, 0);
      }
      if (shop.shapes.isFull()) {
        return fail(TOO_MANY, 0);
      }
      shop.createShape(columns, rows, covered, first, second);
      return true;
    }

    private boolean carryOutSpoil(Shop shop) {
      if (!shop.sheets.has(first)) {
        return fail(NO_SUCH_CELL, 0);
      }
      if (second >= shop.cellsOf(first) || shop.onCell(first, second) != FREE) {
        return fail(NO_SUCH_CELL, 1);
      }
      shop.setCell(first, second, UNUSABLE);
      return true;
    }

    private boolean fail(int kind, int placeOfKind) {
      faultKind = kind;
      faultPlace = placeOfKind;
      return false;
    }
  }
}
