import java.util.List;
import java.util.function.Supplier;

/** Long runs of calls, made up by a fixed row of numbers, answered by the class and by the model. */
final class ModelTest {
  private static final int RUNS = 150;
  private static final int CALLS = 512;
  private static final String[] ROWS = {
    "#", "##", "###", "####", "#/#", "##/##", "#./##", "##/#.", "##./.##", ".#./###", "###/#.#/###", "#.#/###",
    "####/#..#/#..#/####", "#/#/#", "###/#.#/##.", "###/#../#..", "##/.#", "####/#..#/####", ".##/##."
  };
  private static final String[] HOLLOW = {"###/#.#/###", "####/#..#/#..#/####", "###/#.#/##.", "####/#.../####", "#", "##"};
  private static final String SIGNS = "spdx:*;-|/#.0123456789 q";

  private final Check check = new Check("ModelTest");
  private SheetNester nester;
  private Model model;
  private long seed;
  private String run;
  private String pending = "";

  public static void main(String[] args) {
    ModelTest test = new ModelTest();
    for (int run = 0; run < RUNS; run++) {
      test.makeRun(run);
    }
    test.check.end();
  }

  private int below(int bound) {
    seed = seed * 6364136223846793005L + 1442695040888963407L;
    return (int) ((seed >>> 33) % bound);
  }

  /** A number that is mostly in the range from 0, and now and then one beside it. */
  private int mostlyBelow(int bound) {
    if (bound > 0 && below(12) > 0) {
      return below(bound);
    }
    int[] odd = {-1, bound, bound + 1, Integer.MIN_VALUE, Integer.MAX_VALUE, -2};
    return odd[below(odd.length)];
  }

  private static Object answer(Supplier<Object> call) {
    try {
      return call.get();
    } catch (RuntimeException e) {
      return e.getClass();
    }
  }

  private void compare(String what, Supplier<Object> got, Supplier<Object> want) {
    Object due = answer(want);
    check.equal(run + ", " + what, answer(got), due);
  }

  private void makeRun(int number) {
    seed = number * 7919L + 17;
    nester = new SheetNester();
    model = new Model();
    pending = "";
    run = "run " + number;
    if (number % 3 == 2) {
      beginHollow();
    }
    for (int call = 0; call < CALLS; call++) {
      run = "run " + number + ", call " + call;
      int kind = below(100);
      if (kind < 12 || !pending.isEmpty()) {
        write();
      } else if (kind < 55) {
        change(number % 3);
      } else {
        ask();
      }
    }
    lookAtAll();
  }

  /** With holes and bays, and small shapes that go into them, so that these runs have parts within others. */
  private void beginHollow() {
    for (String rows : HOLLOW) {
      addShape(rows, 0, rows.length() < 3 ? 30 : 3);
    }
    for (int i = 0; i < 3; i++) {
      addSheet();
    }
    for (int i = 0; i < 24; i++) {
      place(below(4), below(3), below(8), below(8), below(4));
      placeClose();
    }
  }

  private void write() {
    if (pending.isEmpty()) {
      pending = text();
    }
    char sign = pending.charAt(0);
    pending = pending.substring(1);
    if (sign == '\n') {
      compare("read()", () -> nester.read(), () -> model.read());
      for (int level = -1; level < 4; level++) {
        askCause("fault", level);
      }
    } else {
      compare("feed(" + (int) sign + ")", () -> nester.feed(sign), () -> model.feed(sign));
    }
  }

  private String text() {
    StringBuilder text = new StringBuilder();
    int items = 1 + below(4);
    for (int i = 0; i < items; i++) {
      text.append(i > 0 ? ";" : "").append(item());
    }
    if (below(4) == 0) {
      int i = below(text.length());
      int edit = below(3);
      if (edit == 0) {
        text.setLength(i);
      } else if (edit == 1) {
        text.setCharAt(i, SIGNS.charAt(below(SIGNS.length())));
      } else {
        text.insert(i, below(9) == 0 ? (char) 0 : SIGNS.charAt(below(SIGNS.length())));
      }
    }
    return text.append(text.length() > 0 && below(20) == 0 ? "" : "\n").toString();
  }

  private String item() {
    int kind = below(5);
    if (kind < 2) {
      String grain = new String[] {"", "-", "|"}[below(3)];
      return "s" + side() + "x" + side() + grain;
    }
    if (kind < 4) {
      String rows = below(8) > 0 ? ROWS[below(ROWS.length)] : oddRows();
      return "p" + rows + ":" + below(below(6) > 0 ? 3 : 10) + "*" + below(below(3) > 0 ? 5 : 100);
    }
    return "d" + below(3) + ":" + below(below(4) > 0 ? 20 : 100);
  }

  private int side() {
    return below(8) > 0 ? 2 + below(9) : below(100);
  }

  private String oddRows() {
    StringBuilder rows = new StringBuilder();
    int count = 1 + below(5);
    for (int i = 0; i < count; i++) {
      rows.append(i > 0 ? "/" : "");
      int width = 1 + below(5);
      for (int k = 0; k < width; k++) {
        rows.append(below(3) > 0 ? '#' : '.');
      }
    }
    return rows.toString();
  }

  private void change(int mood) {
    switch (below(mood == 0 ? 24 : 17)) {
      case 0: addSheet(); break;
      case 1:
      case 2: addShape(); break;
      case 3: spoil(); break;
      case 4: take(); break;
      case 5: keep(); break;
      case 6:
      case 7: nest(); break;
      case 8:
        if (below(6) == 0) {
          compare("nestAll()", () -> nester.nestAll(), () -> model.nestAll());
        }
        break;
      case 9: compare("undo()", () -> nester.undo(), () -> model.undo()); break;
      case 10:
        if (below(4) == 0) {
          compare("saveSnapshot()", () -> nester.saveSnapshot(), () -> model.saveSnapshot());
        }
        break;
      case 11:
        if (below(8) == 0) {
          compare("restoreSnapshot()", () -> nester.restoreSnapshot(), () -> model.restoreSnapshot());
        }
        break;
      default: place(); break;
    }
  }

  private void addSheet() {
    int columns = 2 + mostlyBelow(9);
    int rows = 2 + mostlyBelow(9);
    int grain = mostlyBelow(3);
    compare("addSheet(" + columns + ", " + rows + ", " + grain + ")",
        () -> nester.addSheet(columns, rows, grain), () -> model.addSheet(columns, rows, grain));
  }

  private void addShape() {
    String[] rows = ROWS[below(ROWS.length)].split("/");
    boolean isOdd = below(4) == 0;
    int columns = isOdd ? 1 + mostlyBelow(4) : rows[0].length();
    int rowCount = isOdd ? 1 + mostlyBelow(4) : rows.length;
    int covered = isOdd ? below(3) > 0 ? below(1 << 16) : mostlyBelow(1 << 16) : Model.coveredOf(List.of(rows));
    int rule = below(2) == 0 ? 0 : mostlyBelow(3);
    int stock = below(2) == 0 ? below(9) : mostlyBelow(100);
    addShape(columns, rowCount, covered, rule, stock);
  }

  private void addShape(String field, int rule, int stock) {
    String[] rows = field.split("/");
    addShape(rows[0].length(), rows.length, Model.coveredOf(List.of(rows)), rule, stock);
  }

  private void addShape(int columns, int rowCount, int covered, int rule, int stock) {
    compare("addShape(" + columns + ", " + rowCount + ", " + covered + ", " + rule + ", " + stock + ")",
        () -> nester.addShape(columns, rowCount, covered, rule, stock),
        () -> model.addShape(columns, rowCount, covered, rule, stock));
  }

  private void spoil() {
    int sheet = mostlyBelow(model.count(0));
    int cell = mostlyBelow(below(2) == 0 ? 30 : 100);
    compare("spoil(" + sheet + ", " + cell + ")", () -> nester.spoil(sheet, cell), () -> model.spoil(sheet, cell));
  }

  private void take() {
    int part = mostlyBelow(model.count(2));
    compare("take(" + part + ")", () -> nester.take(part), () -> model.take(part));
  }

  private void keep() {
    int sheet = mostlyBelow(model.count(0));
    int remnant = mostlyBelow(2);
    compare("keep(" + sheet + ", " + remnant + ")",
        () -> nester.keep(sheet, remnant), () -> model.keep(sheet, remnant));
  }

  private void nest() {
    int shape = mostlyBelow(model.count(1));
    compare("nest(" + shape + ")", () -> nester.nest(shape), () -> model.nest(shape));
  }

  private void place() {
    if (below(3) == 0) {
      placeClose();
      return;
    }
    int sheet = mostlyBelow(model.count(0));
    int column = below(30) > 0 ? below(11) - 2 : Integer.MAX_VALUE - below(5) + below(2) * below(6);
    int row = below(30) > 0 ? below(11) - 2 : Integer.MAX_VALUE - below(5) + below(2) * below(6);
    place(mostlyBelow(model.count(1)), sheet, column, row, mostlyBelow(4));
  }

  /** In a bay or a hole of a part, or beside it, and mostly with a shape that is small enough. */
  private void placeClose() {
    if (model.count(2) == 0) {
      return;
    }
    int part = below(model.count(2));
    int shape = below(model.count(1));
    for (int i = 0; i < 3 && model.shape(shape, 5) > 2; i++) {
      shape = below(model.count(1));
    }
    boolean isWithin = below(2) == 0;
    int column = model.part(part, 2) + (isWithin ? 1 + below(2) : below(4));
    int row = model.part(part, 3) + (isWithin ? 1 + below(2) : below(4));
    place(shape, model.part(part, 1), column, row, below(4));
    int last = model.count(2) - 1;
    askPart(last, 6);
    askWay(model.part(part, 1), below(2), below(3) - 1);
  }

  private void place(int shape, int sheet, int column, int row, int turn) {
    compare("place(" + shape + ", " + sheet + ", " + column + ", " + row + ", " + turn + ")",
        () -> nester.place(shape, sheet, column, row, turn), () -> model.place(shape, sheet, column, row, turn));
    askCause("reason", below(3));
  }

  private void ask() {
    int sheet = mostlyBelow(model.count(0));
    int shape = mostlyBelow(model.count(1));
    int part = mostlyBelow(model.count(2));
    switch (below(10)) {
      case 0: askSheet(sheet, mostlyBelow(10)); break;
      case 1: askShape(shape, mostlyBelow(8)); break;
      case 2: askPart(part, mostlyBelow(8)); break;
      case 3: askRemnant(sheet, mostlyBelow(3), mostlyBelow(5)); break;
      case 4: askWay(sheet, mostlyBelow(2), mostlyBelow(6) - below(2)); break;
      case 5: askCause("reason", mostlyBelow(3)); break;
      case 6: askCause("fault", mostlyBelow(3)); break;
      case 7: askCount(mostlyBelow(7)); break;
      case 8: askCell(sheet, mostlyBelow(100)); break;
      default: askTurned(shape, mostlyBelow(4)); break;
    }
  }

  private void askSheet(int sheet, int what) {
    compare("sheet(" + sheet + ", " + what + ")", () -> nester.sheet(sheet, what), () -> model.sheet(sheet, what));
  }

  private void askShape(int shape, int what) {
    compare("shape(" + shape + ", " + what + ")", () -> nester.shape(shape, what), () -> model.shape(shape, what));
  }

  private void askPart(int part, int what) {
    compare("part(" + part + ", " + what + ")", () -> nester.part(part, what), () -> model.part(part, what));
  }

  private void askRemnant(int sheet, int remnant, int what) {
    compare("remnant(" + sheet + ", " + remnant + ", " + what + ")",
        () -> nester.remnant(sheet, remnant, what), () -> model.remnant(sheet, remnant, what));
  }

  private void askWay(int sheet, int way, int i) {
    compare("way(" + sheet + ", " + way + ", " + i + ")",
        () -> nester.way(sheet, way, i), () -> model.way(sheet, way, i));
  }

  private void askCell(int sheet, int cell) {
    compare("cell(" + sheet + ", " + cell + ")", () -> nester.cell(sheet, cell), () -> model.cell(sheet, cell));
  }

  private void askTurned(int shape, int turn) {
    compare("turned(" + shape + ", " + turn + ")",
        () -> nester.turned(shape, turn), () -> model.turned(shape, turn));
  }

  private void askCount(int what) {
    compare("count(" + what + ")", () -> nester.count(what), () -> model.count(what));
    compare("usedShare()", () -> nester.usedShare(), () -> model.usedShare());
  }

  private void askCause(String name, int level) {
    for (boolean isPlace : new boolean[] {false, true}) {
      compare(name + "(" + level + ", " + isPlace + ")",
          () -> name.equals("fault") ? nester.fault(level, isPlace) : nester.reason(level, isPlace),
          () -> name.equals("fault") ? model.fault(level, isPlace) : model.reason(level, isPlace));
    }
  }

  /** More calls than an object is promised for, but the class has no limit of its own. */
  private void lookAtAll() {
    run = run + ", at the end";
    for (int what = -1; what < 8; what++) {
      askCount(what);
    }
    for (int shape = 0; shape < model.count(1); shape++) {
      for (int what = -1; what < 9; what++) {
        askShape(shape, what);
        askTurned(shape, what);
      }
    }
    for (int part = 0; part < model.count(2); part++) {
      for (int what = -1; what < 9; what++) {
        askPart(part, what);
      }
    }
    for (int sheet = 0; sheet < model.count(0); sheet++) {
      lookAtSheet(sheet);
    }
  }

  private void lookAtSheet(int sheet) {
    for (int what = -1; what < 11; what++) {
      askSheet(sheet, what);
    }
    for (int cell = -1; cell <= model.sheet(sheet, 0) * model.sheet(sheet, 1); cell++) {
      askCell(sheet, cell);
    }
    for (int remnant = 0; remnant <= model.sheet(sheet, 9); remnant++) {
      for (int what = -1; what < 6; what++) {
        askRemnant(sheet, remnant, what);
      }
    }
    int parts = model.sheet(sheet, 6);
    for (int i = -2; i <= parts; i++) {
      askWay(sheet, 0, i);
      if (i < 0 || i % 3 == 0) {
        askWay(sheet, 1, i);
      }
    }
  }
}
