/** The boundaries that the promises 1 to 8, 18 and 19 name: sheets, shapes and accounts. */
final class SheetBoundaries {
  private static final int[] FAR = Make.FAR;

  private SheetBoundaries() {}

  static void test(Sentences s) {
    newObject(s);
    addSheet(s);
    addSheetFull(s);
    addShapeField(s);
    addShapeConnected(s);
    addShapeNumbers(s);
    addShapeFull(s);
    spoil(s);
    sheet(s);
    sheetCuts(s);
    cell(s);
    shape(s);
    turned(s);
    usedShare(s);
    count(s);
  }

  private static void newObject(Sentences s) {
    s.of(1, "Creates a nester without sheets and shapes.", due -> {
      Make.busy();
      SheetNester x = new SheetNester();
      for (int what = 0; what < 7; what++) {
        due.equal("count(" + what + ")", x.count(what), 0);
      }
      due.refused("sheet(0, 0)", Check.INDEX, () -> x.sheet(0, 0));
      due.refused("cell(0, 0)", Check.INDEX, () -> x.cell(0, 0));
      due.refused("spoil(0, 0)", Check.INDEX, () -> x.spoil(0, 0));
      due.refused("remnant(0, 0, 0)", Check.INDEX, () -> x.remnant(0, 0, 0));
      due.refused("keep(0, 0)", Check.INDEX, () -> x.keep(0, 0));
      due.refused("way(0, 0, -1)", Check.INDEX, () -> x.way(0, 0, -1));
      due.refused("shape(0, 0)", Check.INDEX, () -> x.shape(0, 0));
      due.refused("turned(0, 0)", Check.INDEX, () -> x.turned(0, 0));
      due.refused("nest(0)", Check.INDEX, () -> x.nest(0));
      due.refused("place(0, 0, 0, 0, 0)", Check.INDEX, () -> x.place(0, 0, 0, 0, 0));
      due.refused("part(0, 0)", Check.INDEX, () -> x.part(0, 0));
      due.refused("take(0)", Check.INDEX, () -> x.take(0));
      due.refused("reason(0, false)", Check.ELEMENT, () -> x.reason(0, false));
      due.refused("fault(0, false)", Check.ELEMENT, () -> x.fault(0, false));
      due.refused("usedShare()", Check.ARITHMETIC, () -> x.usedShare());
      due.refused("undo()", Check.STATE, () -> x.undo());
      due.refused("restoreSnapshot()", Check.STATE, () -> x.restoreSnapshot());
    });
    s.of(1, "An object is used for at most 512 calls after it has been made", due -> {
      SheetNester x = new SheetNester();
      x.addSheet(10, 10, 0);
      Make.addDot(x, 99);
      for (int call = 2; call < 510; call += 2) {
        due.equal("the call " + (call + 1), x.place(0, 0, call % 10, call / 10 % 10, 0), 0);
        due.equal("the call " + (call + 2), x.take(0), 0);
      }
      due.equal("the call 511", x.place(0, 0, 9, 9, 0), 0);
      due.equal("the call 512", x.undo(), 7);
    });
  }

  private static void addSheet(Sentences s) {
    s.of(2, "A sheet has 2 to 10 columns", due -> {
      SheetNester x = new SheetNester();
      due.refusedQuietly("1", x, Check.ARGUMENT, () -> x.addSheet(1, 5, 0));
      due.refusedQuietly("11", x, Check.ARGUMENT, () -> x.addSheet(11, 5, 0));
      due.refusedQuietly("0", x, Check.ARGUMENT, () -> x.addSheet(0, 5, 0));
      for (int far : FAR) {
        due.refusedQuietly("" + far, x, Check.ARGUMENT, () -> x.addSheet(far, 5, 0));
      }
      due.equal("2", x.addSheet(2, 5, 0), 0);
      due.equal("10", x.addSheet(10, 5, 0), 1);
      due.equal("columns of the one with 2", x.sheet(0, 0), 2);
      due.equal("columns of the one with 10", x.sheet(1, 0), 10);
    });
    s.of(2, "and 2 to 10 rows", due -> {
      SheetNester x = new SheetNester();
      due.refusedQuietly("1", x, Check.ARGUMENT, () -> x.addSheet(5, 1, 0));
      due.refusedQuietly("11", x, Check.ARGUMENT, () -> x.addSheet(5, 11, 0));
      due.refusedQuietly("0", x, Check.ARGUMENT, () -> x.addSheet(5, 0, 0));
      for (int far : FAR) {
        due.refusedQuietly("" + far, x, Check.ARGUMENT, () -> x.addSheet(5, far, 0));
      }
      due.equal("2", x.addSheet(5, 2, 0), 0);
      due.equal("10", x.addSheet(5, 10, 0), 1);
      due.equal("rows of the one with 2", x.sheet(0, 1), 2);
      due.equal("rows of the one with 10", x.sheet(1, 1), 10);
    });
    s.of(2, "and a grain: 0 none, 1 along its rows, 2 along its columns", due -> {
      SheetNester x = new SheetNester();
      due.refusedQuietly("3", x, Check.ARGUMENT, () -> x.addSheet(5, 5, 3));
      for (int far : FAR) {
        due.refusedQuietly("" + far, x, Check.ARGUMENT, () -> x.addSheet(5, 5, far));
      }
      for (int grain = 0; grain < 3; grain++) {
        due.equal("the sheet with " + grain, x.addSheet(5, 5, grain), grain);
        due.equal("the grain " + grain, x.sheet(grain, 2), grain);
      }
    });
    s.of(2, "Adds a sheet, all of whose cells are usable.", due -> {
      SheetNester x = new SheetNester();
      for (int side = 2; side <= 10; side += 8) {
        int sheet = x.addSheet(side, side, 0);
        due.equal("free ones of the side " + side, x.sheet(sheet, 3), side * side);
        due.equal("not usable ones of the side " + side, x.sheet(sheet, 4), 0);
        due.equal("cells of the side " + side, View.cells(x, sheet), " -1".repeat(side * side));
      }
      x.addSheet(3, 3, 0);
      for (int cell = 0; cell < 4; cell++) {
        x.spoil(2, cell);
      }
      for (int i = 0; i < 5; i++) {
        x.undo();
      }
      due.equal("where one was undone", x.addSheet(2, 3, 0), 2);
      due.equal("cells there", View.cells(x, 2), " -1".repeat(6));
    });
    s.of(2, "Throws `IllegalArgumentException` if an argument is out of range", due -> {
      SheetNester x = Make.busy();
      due.refusedQuietly("columns", x, Check.ARGUMENT, () -> x.addSheet(1, 10, 2));
      due.refusedQuietly("rows", x, Check.ARGUMENT, () -> x.addSheet(2, 11, 0));
      due.refusedQuietly("grain", x, Check.ARGUMENT, () -> x.addSheet(10, 2, 3));
      due.refusedQuietly("all", x, Check.ARGUMENT, () -> x.addSheet(11, 1, -1));
    });
  }

  private static void addSheetFull(Sentences s) {
    s.of(2, "There are at most 6 sheets, numbered from 0 in the order in which they came.", due -> {
      SheetNester x = new SheetNester();
      for (int sheet = 0; sheet < 6; sheet++) {
        due.equal("sheet " + sheet, x.addSheet(2 + sheet, 2, 0), sheet);
      }
      due.refused("a seventh", Check.STATE, () -> x.addSheet(2, 2, 0));
      for (int sheet = 0; sheet < 6; sheet++) {
        due.equal("columns of the sheet " + sheet, x.sheet(sheet, 0), 2 + sheet);
      }
      due.refused("there is no seventh", Check.INDEX, () -> x.sheet(6, 0));
    });
    s.of(2, "Throws `IllegalStateException` if there are 6 sheets", due -> {
      SheetNester x = Make.busy();
      x.keep(0, 0);
      Make.read(x, "x2");
      Make.read(x, "s2x2");
      due.equal("sheets that were added, kept and read", x.count(0), 5);
      due.equal("the sixth", x.addSheet(2, 2, 0), 5);
      due.refusedQuietly("a seventh", x, Check.STATE, () -> x.addSheet(2, 2, 0));
      x.undo();
      due.equal("one undone makes room", x.addSheet(10, 10, 1), 5);
      due.refusedQuietly("again", x, Check.STATE, () -> x.addSheet(10, 10, 1));
    });
    s.of(2, "If several exceptions apply, the one that is documented first is thrown.", due -> {
      SheetNester x = new SheetNester();
      Make.read(x, "s2x2;s2x2;s2x2;s2x2;s2x2;s2x2");
      due.refusedQuietly("six sheets, and 1 column", x, Check.ARGUMENT, () -> x.addSheet(1, 2, 0));
      due.refusedQuietly("six sheets, and 11 rows", x, Check.ARGUMENT, () -> x.addSheet(2, 11, 0));
      due.refusedQuietly("six sheets, and the grain 3", x, Check.ARGUMENT, () -> x.addSheet(2, 2, 3));
    });
  }

  private static void addShapeField(Sentences s) {
    s.of(3, "A shape has 1 to 4 columns", due -> {
      SheetNester x = new SheetNester();
      due.refusedQuietly("0", x, Check.ARGUMENT, () -> x.addShape(0, 1, 1, 0, 1));
      due.refusedQuietly("0, covering none", x, Check.ARGUMENT, () -> x.addShape(0, 1, 0, 0, 1));
      due.refusedQuietly("5", x, Check.ARGUMENT, () -> x.addShape(5, 1, 31, 0, 1));
      due.refusedQuietly("32", x, Check.ARGUMENT, () -> x.addShape(32, 1, -1, 0, 1));
      due.refusedQuietly("33", x, Check.ARGUMENT, () -> x.addShape(33, 1, 1, 0, 1));
      for (int far : FAR) {
        due.refusedQuietly("" + far, x, Check.ARGUMENT, () -> x.addShape(far, 1, 1, 0, 1));
      }
      due.equal("1", x.addShape(1, 2, 3, 0, 1), 0);
      due.equal("4", x.addShape(4, 2, 255, 0, 1), 1);
      due.equal("columns of the one with 1", x.shape(0, 0), 1);
      due.equal("columns of the one with 4", x.shape(1, 0), 4);
    });
    s.of(3, "and 1 to 4 rows", due -> {
      SheetNester x = new SheetNester();
      due.refusedQuietly("0", x, Check.ARGUMENT, () -> x.addShape(1, 0, 1, 0, 1));
      due.refusedQuietly("0, covering none", x, Check.ARGUMENT, () -> x.addShape(1, 0, 0, 0, 1));
      due.refusedQuietly("5", x, Check.ARGUMENT, () -> x.addShape(1, 5, 31, 0, 1));
      due.refusedQuietly("32", x, Check.ARGUMENT, () -> x.addShape(1, 32, -1, 0, 1));
      due.refusedQuietly("33", x, Check.ARGUMENT, () -> x.addShape(1, 33, 1, 0, 1));
      for (int far : FAR) {
        due.refusedQuietly("" + far, x, Check.ARGUMENT, () -> x.addShape(1, far, 1, 0, 1));
      }
      due.equal("1", x.addShape(2, 1, 3, 0, 1), 0);
      due.equal("4", x.addShape(2, 4, 255, 0, 1), 1);
      due.equal("rows of the one with 1", x.shape(0, 1), 1);
      due.equal("rows of the one with 4", x.shape(1, 1), 4);
    });
    s.of(3, "covers some of the places in this field", due -> {
      for (int columns = 1; columns <= 4; columns++) {
        for (int rows = 1; rows <= 4; rows++) {
          coversWithin(due, columns, rows);
        }
      }
    });
    s.of(3, "bit c + columns * r for column c and row r", due -> {
      SheetNester x = new SheetNester();
      due.equal("the lowest and the highest bit", x.addShape(4, 4, 0xf111, 0, 1), 0);
      due.equal("all bits", x.addShape(4, 4, 0xffff, 0, 1), 1);
      due.equal("as they were given", x.shape(0, 2), 0xf111);
      due.equal("all as they were given", x.shape(1, 2), 0xffff);
      x.addSheet(5, 5, 0);
      x.place(0, 0, 0, 0, 0);
      due.equal("on the sheet", View.cells(x, 0), " 0 -1 -1 -1 -1".repeat(3) + " 0 0 0 0 -1" + " -1".repeat(5));
    });
  }

  private static void coversWithin(Check due, int columns, int rows) {
    SheetNester x = new SheetNester();
    int beyond = 1 << columns * rows;
    int[] wrong = {0, beyond, beyond | beyond - 1, -1, -beyond, Integer.MIN_VALUE, Integer.MIN_VALUE | beyond - 1};
    for (int covered : wrong) {
      due.refusedQuietly(columns + " by " + rows + ", covering " + covered, x, Check.ARGUMENT,
          () -> x.addShape(columns, rows, covered, 0, 1));
    }
    due.equal(columns + " by " + rows + ", covering all", x.addShape(columns, rows, beyond - 1, 0, 1), 0);
    due.equal(columns + " by " + rows + ", all", x.shape(0, 2), beyond - 1);
  }

  private static void refusedShape(Check due, String... rows) {
    SheetNester x = new SheetNester();
    due.refusedQuietly(String.join("/", rows), x, Check.ARGUMENT, () -> Make.addShape(x, 0, 1, rows));
  }

  private static void allowedShape(Check due, String... rows) {
    SheetNester x = new SheetNester();
    due.equal(String.join("/", rows), Make.addShape(x, 0, 1, rows), 0);
  }

  private static void addShapeConnected(Sentences s) {
    s.of(3, "which are connected by neighbors", due -> {
      refusedShape(due, "#.", ".#");
      refusedShape(due, "##.", "..#");
      refusedShape(due, "#.#", "#.#", ".#.");
      refusedShape(due, ".#.", "#.#", ".#.");
      refusedShape(due, "#..#", "#..#", "#..#", ".##.");
      refusedShape(due, "##..", "##..", "..##", "..##");
      refusedShape(due, "####", "#...", "#.##", "#.##");
      allowedShape(due, "##", ".#");
      allowedShape(due, ".#.", "###", ".#.");
      allowedShape(due, "####", "#..#", "#..#", "####");
      allowedShape(due, "####", "...#", "####", "#...");
      allowedShape(due, "#...", "####", "...#", "####");
      allowedShape(due, "#.##", "#.#.", "#.##", "####");
      allowedShape(due, "###.", "..#.", "#.##", "####");
    });
    s.of(3, "Two cells are neighbors if they are beside each other in a row", due -> {
      refusedShape(due, ".#", "#.");
      refusedShape(due, "..#", "##.");
      refusedShape(due, "...#", "###.");
      refusedShape(due, "..##", "##..");
      refusedShape(due, "#.#", "##.");
      refusedShape(due, ".#", "#.", ".#");
      refusedShape(due, ".#", ".#", "#.", "#.");
      allowedShape(due, "..##", "###.");
    });
    s.of(3, "or a row or a column has no place that it covers", due -> {
      refusedShape(due, "#", ".");
      refusedShape(due, ".", "#");
      refusedShape(due, "#.");
      refusedShape(due, ".#");
      refusedShape(due, "####", "####", "####", "....");
      refusedShape(due, "....", "####", "####", "####");
      refusedShape(due, "###.", "###.", "###.", "###.");
      refusedShape(due, ".###", ".###", ".###", ".###");
      refusedShape(due, "#.#");
      refusedShape(due, "#", ".", "#");
      refusedShape(due, "##", "..", "##");
      allowedShape(due, "#...", "#...", "#...", "####");
      allowedShape(due, "####", "...#", "...#", "...#");
    });
  }

  private static void addShapeNumbers(Sentences s) {
    s.of(3, "It has a rule for the grain: 0 none, 1 along, 2 across", due -> {
      SheetNester x = new SheetNester();
      due.refusedQuietly("3", x, Check.ARGUMENT, () -> x.addShape(1, 1, 1, 3, 1));
      for (int far : FAR) {
        due.refusedQuietly("" + far, x, Check.ARGUMENT, () -> x.addShape(1, 1, 1, far, 1));
      }
      for (int rule = 0; rule < 3; rule++) {
        due.equal("the shape with " + rule, x.addShape(1, 1, 1, rule, 1), rule);
        due.equal("the rule " + rule, x.shape(rule, 3), rule);
      }
    });
    s.of(3, "and a stock, the number of copies that can still be placed, from 0 to 99", due -> {
      SheetNester x = new SheetNester();
      due.refusedQuietly("100", x, Check.ARGUMENT, () -> x.addShape(1, 1, 1, 0, 100));
      for (int far : FAR) {
        due.refusedQuietly("" + far, x, Check.ARGUMENT, () -> x.addShape(1, 1, 1, 0, far));
      }
      due.equal("0", x.addShape(1, 1, 1, 0, 0), 0);
      due.equal("99", x.addShape(1, 1, 1, 0, 99), 1);
      due.equal("the stock 0", x.shape(0, 4), 0);
      due.equal("the stock 99", x.shape(1, 4), 99);
    });
    s.of(3, "Throws `IllegalArgumentException` if an argument is out of range, or it is not connected", due -> {
      SheetNester x = Make.busy();
      due.refusedQuietly("columns", x, Check.ARGUMENT, () -> x.addShape(5, 1, 1, 0, 1));
      due.refusedQuietly("rows", x, Check.ARGUMENT, () -> x.addShape(1, 5, 1, 0, 1));
      due.refusedQuietly("covered", x, Check.ARGUMENT, () -> x.addShape(1, 1, 2, 0, 1));
      due.refusedQuietly("rule", x, Check.ARGUMENT, () -> x.addShape(1, 1, 1, 3, 1));
      due.refusedQuietly("stock", x, Check.ARGUMENT, () -> x.addShape(1, 1, 1, 0, 100));
      due.refusedQuietly("not connected", x, Check.ARGUMENT, () -> x.addShape(2, 2, 9, 0, 1));
      due.refusedQuietly("an empty row", x, Check.ARGUMENT, () -> x.addShape(2, 2, 3, 0, 1));
      due.refusedQuietly("an empty column", x, Check.ARGUMENT, () -> x.addShape(2, 2, 5, 0, 1));
    });
  }

  private static void addShapeFull(Sentences s) {
    s.of(3, "There are at most 8 shapes, numbered likewise.", due -> {
      SheetNester x = new SheetNester();
      for (int shape = 0; shape < 8; shape++) {
        due.equal("shape " + shape, x.addShape(1, 1, 1, 0, shape), shape);
      }
      due.refused("a ninth", Check.STATE, () -> x.addShape(1, 1, 1, 0, 8));
      for (int shape = 0; shape < 8; shape++) {
        due.equal("stock of the shape " + shape, x.shape(shape, 4), shape);
      }
      due.refused("there is no ninth", Check.INDEX, () -> x.shape(8, 4));
    });
    s.of(3, "Throws `IllegalStateException` if there are 8 shapes", due -> {
      SheetNester x = Make.busy();
      Make.read(x, "!");
      Make.read(x, "p#:0*0;p#:0*0;p#:0*0;p#:0*0");
      due.equal("seven", x.count(1), 7);
      due.equal("the eighth", x.addShape(2, 2, 15, 0, 1), 7);
      due.refusedQuietly("a ninth", x, Check.STATE, () -> x.addShape(1, 1, 1, 0, 1));
      x.undo();
      due.equal("one undone makes room", x.addShape(3, 3, 511, 2, 99), 7);
      due.refusedQuietly("again", x, Check.STATE, () -> x.addShape(1, 1, 1, 0, 1));
    });
    s.of(3, "If several exceptions apply, the one that is documented first is thrown.", due -> {
      SheetNester x = new SheetNester();
      Make.read(x, "p#:0*0;p#:0*0;p#:0*0;p#:0*0;p#:0*0;p#:0*0;p#:0*0;p#:0*0");
      due.refusedQuietly("eight shapes, and no column", x, Check.ARGUMENT, () -> x.addShape(0, 1, 1, 0, 1));
      due.refusedQuietly("eight shapes, and the rule 3", x, Check.ARGUMENT, () -> x.addShape(1, 1, 1, 3, 1));
      due.refusedQuietly("eight shapes, and the stock 100", x, Check.ARGUMENT, () -> x.addShape(1, 1, 1, 0, 100));
      due.refusedQuietly("eight shapes, and not connected", x, Check.ARGUMENT, () -> x.addShape(2, 2, 6, 0, 1));
      due.refusedQuietly("eight shapes, and nothing covered", x, Check.ARGUMENT, () -> x.addShape(1, 1, 0, 0, 1));
    });
  }

  private static void spoil(Sentences s) {
    s.of(4, "Throws `IndexOutOfBoundsException` if there is no such sheet or cell", due -> {
      SheetNester x = Make.busy();
      due.refusedQuietly("the sheet behind the last", x, Check.INDEX, () -> x.spoil(2, 0));
      x.addSheet(10, 10, 0);
      x.undo();
      due.refusedQuietly("a sheet that was undone", x, Check.INDEX, () -> x.spoil(2, 0));
      due.refusedQuietly("the cell behind the last", x, Check.INDEX, () -> x.spoil(1, 4));
      due.refusedQuietly("a cell that only a greater sheet has", x, Check.INDEX, () -> x.spoil(1, 5));
      due.refusedQuietly("the cell 99", x, Check.INDEX, () -> x.spoil(1, 99));
      due.refusedQuietly("the cell 100", x, Check.INDEX, () -> x.spoil(1, 100));
      for (int far : FAR) {
        due.refusedQuietly("sheet " + far, x, Check.INDEX, () -> x.spoil(far, 0));
        due.refusedQuietly("cell " + far, x, Check.INDEX, () -> x.spoil(1, far));
      }
    });
    s.of(4, "Throws `UnsupportedOperationException` if the cell is not free", due -> {
      SheetNester x = Make.busy();
      due.refusedQuietly("a part covers it", x, Check.UNSUPPORTED, () -> x.spoil(0, 0));
      due.refusedQuietly("it is not usable", x, Check.UNSUPPORTED, () -> x.spoil(0, 5));
      x.spoil(0, 2);
      due.refusedQuietly("it is not usable any more", x, Check.UNSUPPORTED, () -> x.spoil(0, 2));
      x.keep(1, 0);
      due.refusedQuietly("it was kept", x, Check.UNSUPPORTED, () -> x.spoil(1, 0));
      due.equal("a free one", x.spoil(0, 4), 0);
    });
    s.of(4, "Returns the number of free cells of the sheet then.", due -> {
      SheetNester x = Make.sheet("..", "..");
      Make.addDot(x, 1);
      x.place(0, 0, 1, 0, 0);
      due.equal("the last cell", x.spoil(0, 3), 2);
      due.equal("the first cell", x.spoil(0, 0), 1);
      due.equal("the last that is free", x.spoil(0, 2), 0);
      SheetNester y = new SheetNester();
      y.addSheet(2, 2, 0);
      y.addSheet(10, 10, 0);
      due.equal("the cell 99", y.spoil(1, 99), 99);
      due.equal("the cell 0", y.spoil(1, 0), 98);
    });
    s.of(4, "Makes a free cell not usable.", due -> {
      SheetNester x = Make.sheet("...", "...");
      x.spoil(0, 5);
      due.equal("the last", View.cells(x, 0), " -1 -1 -1 -1 -1 -2");
      x.spoil(0, 0);
      due.equal("the first", View.cells(x, 0), " -2 -1 -1 -1 -1 -2");
    });
  }

  private static void sheet(Sentences s) {
    s.of(5, "Throws `IndexOutOfBoundsException` if there is no such sheet", due -> {
      SheetNester x = Make.busy();
      for (int what = 0; what < 10; what++) {
        int about = what;
        due.refusedQuietly("the one behind the last, what " + what, x, Check.INDEX, () -> x.sheet(2, about));
        for (int far : FAR) {
          due.refusedQuietly("sheet " + far + ", what " + what, x, Check.INDEX, () -> x.sheet(far, about));
        }
      }
      due.refusedQuietly("the sheet 6", x, Check.INDEX, () -> x.sheet(6, 0));
      x.addSheet(10, 10, 0);
      x.undo();
      due.refusedQuietly("one that was undone", x, Check.INDEX, () -> x.sheet(2, 0));
    });
    s.of(5, "Throws `IllegalArgumentException` if what is not valid", due -> {
      SheetNester x = Make.busy();
      due.refusedQuietly("10", x, Check.ARGUMENT, () -> x.sheet(0, 10));
      for (int far : FAR) {
        due.refusedQuietly("" + far, x, Check.ARGUMENT, () -> x.sheet(0, far));
      }
      due.equal("9", x.sheet(0, 9), 2);
    });
    s.of(5, "If several exceptions apply, the one that is documented first is thrown.", due -> {
      SheetNester x = Make.busy();
      due.refusedQuietly("no such sheet, nor what", x, Check.INDEX, () -> x.sheet(2, 10));
      due.refusedQuietly("neither is", x, Check.INDEX, () -> x.sheet(-1, -1));
    });
    s.of(5, "0 its columns; 1 its rows; 2 its grain; 3 its free cells; 4 its cells that are not usable; "
        + "5 its cells that parts cover; 6 its parts; 7 its cuts; 8 its common cuts; 9 its remnants", due -> {
      SheetNester x = new SheetNester();
      x.addSheet(2, 10, 2);
      Make.addSheet(x, 1, "##", "##");
      x.addSheet(2, 2, 0);
      Make.addShape(x, 0, 1, "##", "##");
      x.place(0, 2, 0, 0, 0);
      int[] allFree = {2, 10, 2, 20, 0, 0, 0, 0, 0, 1};
      int[] noneUsable = {2, 2, 1, 0, 4, 0, 0, 0, 0, 0};
      int[] allCovered = {2, 2, 0, 0, 0, 4, 1, 0, 0, 0};
      for (int what = 0; what < 10; what++) {
        due.equal("all free, what " + what, x.sheet(0, what), allFree[what]);
        due.equal("none usable, what " + what, x.sheet(1, what), noneUsable[what]);
        due.equal("all covered, what " + what, x.sheet(2, what), allCovered[what]);
      }
    });
    s.of(5, "the largest sets of free cells that are connected by neighbors", due -> {
      due.equal("not by corners", Make.sheet(".#", "#.").sheet(0, 9), 2);
      due.equal("not round the end of a row", Make.sheet("##.", ".##").sheet(0, 9), 2);
      due.equal("not round the ends of all rows", Make.sheet(".##.", ".##.", ".##.").sheet(0, 9), 2);
      due.equal("every other cell", Make.sheet(".#.", "#.#", ".#.").sheet(0, 9), 5);
      due.equal("around a corner", Make.sheet("..", "#.").sheet(0, 9), 1);
      due.equal("down and up again", Make.sheet(".#.", "...").sheet(0, 9), 1);
      due.equal("a long way", Make.sheet("...", "##.", "...", ".##", "...").sheet(0, 9), 1);
    });
  }

  private static SheetNester dots(int columns, int rows, int... cells) {
    SheetNester x = new SheetNester();
    x.addSheet(columns, rows, 0);
    Make.addDot(x, 99);
    for (int cell : cells) {
      x.place(0, 0, cell % columns, cell / columns, 0);
    }
    return x;
  }

  private static void sheetCuts(Sentences s) {
    s.of(5, "the edges of the sheet are no cuts", due -> {
      due.equal("a corner", dots(3, 3, 0).sheet(0, 7), 2);
      due.equal("the opposite corner", dots(3, 3, 8).sheet(0, 7), 2);
      due.equal("the upper edge", dots(3, 3, 1).sheet(0, 7), 3);
      due.equal("the right edge", dots(3, 3, 5).sheet(0, 7), 3);
      due.equal("the lower edge", dots(3, 3, 7).sheet(0, 7), 3);
      due.equal("the left edge", dots(3, 3, 3).sheet(0, 7), 3);
      due.equal("no edge", dots(3, 3, 4).sheet(0, 7), 4);
      SheetNester x = Make.sheet("..", "..");
      Make.addShape(x, 0, 1, "##", "##");
      x.nest(0);
      due.equal("all edges", x.sheet(0, 7), 0);
    });
    s.of(5, "of which at least one belongs to a part, and not both belong to the same one", due -> {
      SheetNester x = Make.sheet("..#", ".##");
      due.equal("no part", x.sheet(0, 7), 0);
      Make.addShape(x, 0, 1, "##", "#.");
      x.place(0, 0, 0, 0, 0);
      due.equal("towards cells that are not usable, not within the part", x.sheet(0, 7), 3);
      due.equal("nor common", x.sheet(0, 8), 0);
      SheetNester y = dots(2, 2, 0, 1, 2, 3);
      due.equal("part 0 among the four", y.sheet(0, 7), 4);
      due.equal("none where there are no parts", new SheetNester().count(4), 0);
    });
    s.of(5, "A common cut is one between two parts.", due -> {
      due.equal("one part alone", dots(3, 3, 4).sheet(0, 8), 0);
      due.equal("part 0 beside part 1", dots(3, 3, 4, 5).sheet(0, 8), 1);
      due.equal("part 1 above part 0", dots(3, 3, 4, 1).sheet(0, 8), 1);
      due.equal("by a corner", dots(3, 3, 4, 8).sheet(0, 8), 0);
      due.equal("round the end of a row", dots(3, 3, 2, 3).sheet(0, 8), 0);
      due.equal("from the last row to the first", dots(3, 3, 1, 7).sheet(0, 8), 0);
      due.equal("all of four", dots(2, 2, 0, 1, 2, 3).sheet(0, 8), 4);
    });
  }

  private static void cell(Sentences s) {
    s.of(6, "Throws `IndexOutOfBoundsException` if there is no such sheet or cell", due -> {
      SheetNester x = Make.busy();
      due.refusedQuietly("the sheet behind the last", x, Check.INDEX, () -> x.cell(2, 0));
      x.addSheet(10, 10, 0);
      x.undo();
      due.refusedQuietly("a sheet that was undone", x, Check.INDEX, () -> x.cell(2, 0));
      due.refusedQuietly("the cell behind the last", x, Check.INDEX, () -> x.cell(0, 6));
      due.refusedQuietly("a cell that only another sheet has", x, Check.INDEX, () -> x.cell(1, 4));
      for (int far : FAR) {
        due.refusedQuietly("sheet " + far, x, Check.INDEX, () -> x.cell(far, 0));
        due.refusedQuietly("cell " + far, x, Check.INDEX, () -> x.cell(0, far));
      }
      due.equal("the last cell of the last sheet", x.cell(1, 3), -1);
      x.addSheet(10, 10, 0);
      due.equal("the cell 99", x.cell(2, 99), -1);
      due.refusedQuietly("the cell 100", x, Check.INDEX, () -> x.cell(2, 100));
    });
    s.of(6, "Returns the part that covers it, -1 if it is free, -2 if it is not usable.", due -> {
      SheetNester x = dots(10, 2, 9, 8, 7, 6, 5, 4, 3, 2, 1, 0, 19, 18, 17, 16, 15, 14, 13);
      x.addSheet(2, 2, 0);
      x.place(0, 1, 0, 0, 0);
      x.place(0, 1, 1, 0, 0);
      x.place(0, 0, 0, 1, 0);
      x.spoil(0, 11);
      due.equal("the parts 0 to 16 and 19, one not usable, one free", View.cells(x, 0),
          " 9 8 7 6 5 4 3 2 1 0 19 -2 -1 16 15 14 13 12 11 10");
      due.equal("the parts 17 and 18", View.cells(x, 1), " 17 18 -1 -1");
    });
  }

  private static void shape(Sentences s) {
    s.of(7, "Throws `IndexOutOfBoundsException` if there is no such shape", due -> {
      SheetNester x = Make.busy();
      for (int what = 0; what < 8; what++) {
        int about = what;
        due.refusedQuietly("the one behind the last, what " + what, x, Check.INDEX, () -> x.shape(3, about));
        for (int far : FAR) {
          due.refusedQuietly("shape " + far + ", what " + what, x, Check.INDEX, () -> x.shape(far, about));
        }
      }
      due.equal("the last one", x.shape(2, 4), 1);
      x.undo();
      due.refusedQuietly("one that was undone", x, Check.INDEX, () -> x.shape(2, 4));
    });
    s.of(7, "Throws `IllegalArgumentException` if what is not valid", due -> {
      SheetNester x = Make.busy();
      due.refusedQuietly("8", x, Check.ARGUMENT, () -> x.shape(0, 8));
      for (int far : FAR) {
        due.refusedQuietly("" + far, x, Check.ARGUMENT, () -> x.shape(0, far));
      }
      due.equal("7", x.shape(0, 7), 4);
    });
    s.of(7, "If several exceptions apply, the one that is documented first is thrown.", due -> {
      SheetNester x = Make.busy();
      due.refusedQuietly("no such shape, nor what", x, Check.INDEX, () -> x.shape(3, 8));
      due.refusedQuietly("neither is", x, Check.INDEX, () -> x.shape(-1, -1));
    });
    s.of(7, "0 its columns; 1 its rows; 2 the places that it covers, as for addShape; 3 its rule; 4 its stock; "
        + "5 the number of places that it covers; 6 the number of its parts on all sheets", due -> {
      SheetNester x = new SheetNester();
      x.addSheet(5, 4, 0);
      x.addSheet(5, 4, 0);
      x.addShape(1, 1, 1, 2, 20);
      x.addShape(4, 4, 0xffff, 1, 99);
      for (int part = 0; part < 20; part++) {
        due.equal("parts of the small one", x.shape(0, 6), part);
        due.equal("stock of the small one", x.shape(0, 4), 20 - part);
        x.place(0, part % 2, part / 2 % 5, part / 10, 0);
      }
      int[] small = {1, 1, 1, 2, 0, 1, 20};
      int[] great = {4, 4, 0xffff, 1, 99, 16, 0};
      for (int what = 0; what < 7; what++) {
        due.equal("the small one, what " + what, x.shape(0, what), small[what]);
        due.equal("the great one, what " + what, x.shape(1, what), great[what]);
      }
    });
    s.of(7, "Turns are alike if they have as many columns and cover the same places.", due -> {
      int[] turns = {1, 2, 1, 2, 2, 4, 4, 1, 4, 2};
      String[] fields = {"#", "##", "##/##", "####", "##./.##", "##/#.", "#./##/##", "####/####/####/####",
          "####/####/####/###.", ".###/####/####/###."};
      for (int i = 0; i < fields.length; i++) {
        SheetNester x = new SheetNester();
        Make.addShape(x, 0, 1, fields[i].split("/"));
        due.equal(fields[i], x.shape(0, 7), turns[i]);
      }
    });
  }

  private static void turned(Sentences s) {
    s.of(8, "Throws `IndexOutOfBoundsException` if there is no such shape", due -> {
      SheetNester x = Make.busy();
      due.refusedQuietly("the one behind the last", x, Check.INDEX, () -> x.turned(3, 0));
      for (int far : FAR) {
        due.refusedQuietly("" + far, x, Check.INDEX, () -> x.turned(far, 0));
      }
      due.equal("the last one", x.turned(2, 3), 1);
      x.undo();
      due.refusedQuietly("one that was undone", x, Check.INDEX, () -> x.turned(2, 3));
    });
    s.of(8, "Throws `IllegalArgumentException` if there is no such turn", due -> {
      SheetNester x = Make.busy();
      due.refusedQuietly("4", x, Check.ARGUMENT, () -> x.turned(0, 4));
      for (int far : FAR) {
        due.refusedQuietly("" + far, x, Check.ARGUMENT, () -> x.turned(0, far));
      }
    });
    s.of(8, "If several exceptions apply, the one that is documented first is thrown.", due -> {
      SheetNester x = Make.busy();
      due.refusedQuietly("no such shape, nor turn", x, Check.INDEX, () -> x.turned(3, 4));
      due.refusedQuietly("neither is", x, Check.INDEX, () -> x.turned(-1, -1));
    });
    s.of(8, "The turns are 0 to 3, for so many quarters.", due -> {
      SheetNester x = new SheetNester();
      Make.addShape(x, 0, 1, "#...", "#...", "#...", "####");
      int[] corner = {0xf111, 0x111f, 0x888f, 0xf888};
      Make.addShape(x, 0, 1, "###", "#..");
      int[] hook = {0b001111, 0b101011, 0b111100, 0b110101};
      for (int turn = 0; turn < 4; turn++) {
        due.equal("four by four, turn " + turn, x.turned(0, turn), corner[turn]);
        due.equal("three by two, turn " + turn, x.turned(1, turn), hook[turn]);
      }
    });
    s.of(8, "its first column, read from below, becomes its first row, and so on", due -> {
      SheetNester x = new SheetNester();
      Make.addShape(x, 0, 1, "#", "#", "#", "#");
      Make.addShape(x, 0, 1, "##", "#.", "#.", "#.");
      for (int turn = 0; turn < 4; turn++) {
        due.equal("four in a line, turn " + turn, x.turned(0, turn), 15);
      }
      due.equal("two columns of four", x.turned(1, 1), Make.covered("####", "...#"));
      due.equal("upside down", x.turned(1, 2), Make.covered(".#", ".#", ".#", "##"));
      due.equal("and lying again", x.turned(1, 3), Make.covered("#...", "####"));
    });
  }

  private static void usedShare(Sentences s) {
    s.of(18, "Throws `ArithmeticException` if there are no usable cells", due -> {
      SheetNester x = new SheetNester();
      due.refusedQuietly("no sheet", x, Check.ARITHMETIC, () -> x.usedShare());
      Make.addDot(x, 1);
      due.refusedQuietly("a shape alone", x, Check.ARITHMETIC, () -> x.usedShare());
      Make.addSheet(x, 0, "##", "##");
      Make.addSheet(x, 0, "###", "###");
      due.refusedQuietly("two sheets that are not usable", x, Check.ARITHMETIC, () -> x.usedShare());
      x.undo();
      due.equal("a single usable cell", x.usedShare(), 0f);
      x.nest(0);
      due.equal("which is covered", x.usedShare(), 1f);
    });
    s.of(18, "the number of cells that parts cover, divided by the number of usable cells", due -> {
      SheetNester x = Make.sheet("..#", "...");
      due.equal("no part", x.usedShare(), 0f);
      Make.addDot(x, 9);
      x.place(0, 0, 0, 0, 0);
      due.equal("one of five", x.usedShare(), 0.2f);
      x.addSheet(10, 10, 0);
      due.equal("one of 105", x.usedShare(), 1f / 105f);
      x.keep(1, 0);
      due.equal("as many when a remnant was kept", x.usedShare(), 1f / 105f);
      x.undo();
      x.undo();
      x.nest(0);
      x.nest(0);
      x.nest(0);
      x.nest(0);
      due.equal("all of five", x.usedShare(), 1f);
    });
  }

  private static void count(Sentences s) {
    s.of(19, "Throws `IllegalArgumentException` if what is not valid", due -> {
      SheetNester x = Make.busy();
      due.refusedQuietly("7", x, Check.ARGUMENT, () -> x.count(7));
      for (int far : FAR) {
        due.refusedQuietly("" + far, x, Check.ARGUMENT, () -> x.count(far));
      }
      due.equal("6", x.count(6), 2);
    });
    s.of(19, "0 sheets; 1 shapes; 2 parts; 3 cells of all sheets; 4 cuts of all sheets", due -> {
      SheetNester x = new SheetNester();
      for (int i = 0; i < 6; i++) {
        due.equal("sheets", x.count(0), i);
        due.equal("cells", x.count(3), 100 * i);
        x.addSheet(10, 10, 0);
      }
      for (int i = 0; i < 8; i++) {
        due.equal("shapes", x.count(1), i);
        Make.addDot(x, 99);
      }
      for (int i = 0; i < 20; i++) {
        due.equal("parts", x.count(2), i);
        due.equal("cuts", x.count(4), 4 * i);
        x.place(i % 8, i % 6, 1 + i / 6 * 2, 1 + i % 4 * 2, 0);
      }
      int[] full = {6, 8, 20, 600, 80, 8, 0};
      for (int what = 0; what < 7; what++) {
        due.equal("full, what " + what, x.count(what), full[what]);
      }
      x.spoil(5, 99);
      due.equal("cells that are not usable count", x.count(3), 600);
    });
    s.of(19, "5 changes that can be undone", due -> {
      SheetNester x = new SheetNester();
      for (int i = 0; i < 20; i++) {
        due.equal("after " + i, x.count(5), i < 8 ? i : 8);
        x.nestAll();
      }
    });
    s.of(19, "6 characters of the input", due -> {
      SheetNester x = new SheetNester();
      for (int i = 0; i < 70; i++) {
        due.equal("after " + i, x.count(6), i);
        x.feed((char) (i * 1000));
      }
      due.equal("the full input", x.count(6), 70);
      due.refused("no more", Check.STATE, () -> x.feed('s'));
      due.equal("still 70", x.count(6), 70);
      x.read();
      due.equal("read", x.count(6), 0);
    });
  }
}
