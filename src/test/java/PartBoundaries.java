/** The boundaries that the promises 9 to 14 name: parts, reasons and nesting. */
final class PartBoundaries {
  private static final int[] FAR = Make.FAR;
  private static final String[] RING = {"###", "#.#", "###"};
  private static final String[] FRAME = {"####", "#..#", "#..#", "####"};

  private PartBoundaries() {}

  static void test(Sentences s) {
    placeRefused(s);
    placeUnchanged(s);
    placeFar(s);
    placeEdges(s);
    placeLimits(s);
    placeGrain(s);
    take(s);
    part(s);
    partWithin(s);
    reason(s);
    reasonOrder(s);
    reasonPlaces(s);
    reasonStays(s);
    nest(s);
    nestChoice(s);
    nestAll(s);
  }

  private static SheetNester dots(int columns, int rows, int... cells) {
    SheetNester x = new SheetNester();
    x.addSheet(columns, rows, 0);
    Make.addDot(x, 99);
    for (int cell : cells) {
      x.place(0, 0, cell % columns, cell / columns, 0);
    }
    return x;
  }

  /** Refused for these reasons, from level 0, and nothing else is changed. */
  private static void blocked(Check due, String what, SheetNester x, String reasons, Check.Call call) {
    String before = View.ofWork(x);
    int changes = x.count(5);
    due.refused(what, Check.UNSUPPORTED, call);
    due.equal(what + ", the reasons", View.reasons(x), reasons);
    due.equal(what + ", what is there", View.ofWork(x), before);
    due.equal(what + ", the changes", x.count(5), changes);
  }

  private static void placeRefused(Sentences s) {
    s.of(9, "Throws `IndexOutOfBoundsException` if there is no such shape or sheet", due -> {
      SheetNester x = Make.busy();
      due.refusedQuietly("the shape behind the last", x, Check.INDEX, () -> x.place(3, 0, 2, 0, 0));
      due.refusedQuietly("the sheet behind the last", x, Check.INDEX, () -> x.place(1, 2, 0, 0, 0));
      for (int far : FAR) {
        due.refusedQuietly("shape " + far, x, Check.INDEX, () -> x.place(far, 0, 2, 0, 0));
        due.refusedQuietly("sheet " + far, x, Check.INDEX, () -> x.place(1, far, 0, 0, 0));
      }
    });
    s.of(9, "Throws `IllegalArgumentException` if there is no such turn", due -> {
      SheetNester x = Make.busy();
      due.refusedQuietly("4", x, Check.ARGUMENT, () -> x.place(1, 0, 2, 0, 4));
      for (int far : FAR) {
        due.refusedQuietly("" + far, x, Check.ARGUMENT, () -> x.place(1, 0, 2, 0, far));
      }
      due.equal("3", x.place(1, 0, 2, 0, 3), 1);
    });
    s.of(9, "Throws `UnsupportedOperationException` if it cannot be placed; the reasons are kept", due -> {
      SheetNester x = Make.busy();
      due.equal("the reasons before", View.reasons(x), " 1 1 5 0 8 0");
      blocked(due, "the cell is not usable", x, " 1 1 5 0 7 5", () -> x.place(1, 0, 2, 1, 0));
      due.equal("the faults stay", View.faults(x), " 1 0 3 5 7 1");
      due.equal("the input stays", x.count(6), 2);
      due.equal("it can be placed elsewhere", x.place(1, 0, 2, 0, 0), 1);
    });
    s.of(9, "If several exceptions apply, the one that is documented first is thrown.", due -> {
      SheetNester x = Make.busy();
      due.refusedQuietly("no such shape, nor turn", x, Check.INDEX, () -> x.place(3, 0, 0, 0, 4));
      due.refusedQuietly("no such sheet, nor turn", x, Check.INDEX, () -> x.place(1, 2, 0, 0, 4));
      due.refusedQuietly("no such sheet, far away", x, Check.INDEX, () -> x.place(1, -1, -9, 99, 0));
      due.refusedQuietly("no such turn, on a part", x, Check.ARGUMENT, () -> x.place(1, 0, 0, 0, 4));
      due.refusedQuietly("no such turn, beyond the sheet", x, Check.ARGUMENT, () -> x.place(1, 0, -1, 0, -1));
      SheetNester y = new SheetNester();
      y.addSheet(2, 2, 0);
      Make.addDot(y, 0);
      due.refusedQuietly("no such turn, no stock", y, Check.ARGUMENT, () -> y.place(0, 0, 0, 0, 4));
    });
  }

  private static void placeUnchanged(Sentences s) {
    s.of(9, "A method that throws an exception leaves the state unchanged unless its documentation says otherwise.",
        due -> {
      SheetNester x = Make.busy();
      x.addSheet(4, 4, 1);
      int along = Make.addShape(x, 1, 1, "##");
      int none = Make.addDot(x, 0);
      refusedOtherwise(due, x, " 1 1 5 0 8 0");
      blocked(due, "no stock", x, " 1 " + none + " 3 0", () -> x.place(none, 2, 0, 0, 0));
      refusedOtherwise(due, x, " 1 " + none + " 3 0");
      blocked(due, "the grain", x, " 1 " + along + " 2 3", () -> x.place(along, 2, 0, 0, 3));
      refusedOtherwise(due, x, " 1 " + along + " 2 3");
      blocked(due, "beyond the sheet", x, " 1 " + along + " 5 1 6 1", () -> x.place(along, 2, 3, 3, 0));
      refusedOtherwise(due, x, " 1 " + along + " 5 1 6 1");
      SheetNester y = new SheetNester();
      refusedOtherwise(due, y, "");
      y.addSheet(2, 2, 0);
      refusedOtherwise(due, y, "");
    });
  }

  /** Calls of place that do not come to see whether the shape can be placed, and so keep no reasons. */
  private static void refusedOtherwise(Check due, SheetNester x, String kept) {
    for (int far : FAR) {
      due.refusedQuietly("shape " + far, x, Check.INDEX, () -> x.place(far, 0, 0, 0, 0));
      due.refusedQuietly("sheet " + far, x, Check.INDEX, () -> x.place(0, far, 0, 0, 0));
    }
    if (x.count(1) > 0) {
      due.refusedQuietly("turn 4", x, Check.ARGUMENT, () -> x.place(0, 0, 0, 0, 4));
      due.refusedQuietly("turn -1", x, Check.ARGUMENT, () -> x.place(0, 0, -1, 0, -1));
    }
    due.equal("the reasons that are kept", View.reasons(x), kept);
  }

  private static void placeFar(Sentences s) {
    s.of(9, "A column or row, however great, never comes back to the sheet.", due -> {
      SheetNester x = new SheetNester();
      for (int columns : new int[] {2, 4, 8}) {
        x.addSheet(columns, 8, 0);
      }
      Make.addDot(x, 9);
      Make.addShape(x, 0, 9, "...#", "...#", "...#", "####");
      for (int sheet = 0; sheet < 3; sheet++) {
        placeFarOn(due, x, sheet);
      }
    });
    s.of(9, "`column`: the column, any int", due -> {
      SheetNester x = dots(10, 10);
      for (int row = 0; row < 10; row++) {
        for (int column : new int[] {-1, -10, -100, Integer.MIN_VALUE, Integer.MIN_VALUE + 5}) {
          int at = row;
          blocked(due, column + ", " + row, x, " 1 0 5 0 6 3", () -> x.place(0, 0, column, at, 0));
        }
        for (int column : new int[] {10, 11, 90, 100, Integer.MAX_VALUE, Integer.MAX_VALUE - 5}) {
          int at = row;
          blocked(due, column + ", " + row, x, " 1 0 5 0 6 1", () -> x.place(0, 0, column, at, 0));
        }
      }
    });
    s.of(9, "`row`: the row, any int", due -> {
      SheetNester x = dots(10, 10);
      for (int column = 0; column < 10; column++) {
        for (int row : new int[] {-1, -10, Integer.MIN_VALUE, Integer.MIN_VALUE + 5}) {
          int at = column;
          blocked(due, column + ", " + row, x, " 1 0 5 0 6 0", () -> x.place(0, 0, at, row, 0));
        }
        for (int row : new int[] {10, 11, 100, Integer.MAX_VALUE, Integer.MAX_VALUE - 5}) {
          int at = column;
          blocked(due, column + ", " + row, x, " 1 0 5 0 6 2", () -> x.place(0, 0, at, row, 0));
        }
      }
    });
  }

  /** Rows and columns whose cells would be cells of the sheet if their ints came round. */
  private static void placeFarOn(Check due, SheetNester x, int sheet) {
    int columns = x.sheet(sheet, 0);
    int round = (int) ((1L << 32) / columns);
    for (int row : new int[] {round, round + 1, round + 7}) {
      String side = row < 0 ? "0" : "2";
      blocked(due, "row " + row + " of " + columns, x, " 1 0 5 0 6 " + side, () -> x.place(0, sheet, 0, row, 0));
    }
    for (int row : new int[] {-round, 1 - round, 7 - round}) {
      String side = row < 0 ? "0" : "2";
      blocked(due, "row " + row + " of " + columns, x, " 1 0 5 0 6 " + side, () -> x.place(0, sheet, 0, row, 0));
    }
    for (int back = 0; back < 9; back++) {
      int far = Integer.MAX_VALUE - back;
      blocked(due, "column " + far, x, " 1 1 5 0 6 1", () -> x.place(1, sheet, far, 0, 0));
      String bottom = columns < 4 ? "1" : "2";
      blocked(due, "row " + far, x, " 1 1 5 0 6 " + bottom, () -> x.place(1, sheet, 0, far, 0));
      blocked(due, "both " + far, x, " 1 1 5 0 6 1", () -> x.place(1, sheet, far, far, 0));
      int low = Integer.MIN_VALUE + back;
      blocked(due, "column " + low, x, " 1 1 5 0 6 3", () -> x.place(1, sheet, low, 0, 0));
      blocked(due, "row " + low, x, " 1 1 5 0 6 0", () -> x.place(1, sheet, 0, low, 0));
      blocked(due, "low row, high column " + far, x, " 1 1 5 0 6 0", () -> x.place(1, sheet, far, low, 0));
    }
  }

  private static void placeEdges(Sentences s) {
    s.of(9, "the first column and the first row of the turned field come to these", due -> {
      for (int turn = 0; turn < 4; turn++) {
        int columns = turn % 2 == 0 ? 3 : 2;
        int rows = turn % 2 == 0 ? 2 : 3;
        for (int corner = 0; corner < 4; corner++) {
          int column = corner % 2 * (5 - columns);
          int row = corner / 2 * (4 - rows);
          placeInCorner(due, column, row, turn);
        }
      }
    });
    s.of(9, "All these cells have to be free.", due -> {
      SheetNester x = Make.sheet("...", ".#.", "...");
      Make.addShape(x, 0, 1, RING);
      due.equal("around a cell that is not usable", x.place(0, 0, 0, 0, 0), 0);
      SheetNester y = dots(3, 3, 4);
      Make.addShape(y, 0, 1, RING);
      due.equal("around a part", y.place(1, 0, 0, 0, 0), 1);
      due.equal("which stays", y.cell(0, 4), 0);
      for (int cell : new int[] {0, 1, 2, 3, 5, 6, 7, 8}) {
        SheetNester z = dots(3, 3, cell);
        Make.addShape(z, 0, 1, RING);
        due.refused("on a part at the cell " + cell, Check.UNSUPPORTED, () -> z.place(1, 0, 0, 0, 0));
        z.take(0);
        z.spoil(0, cell);
        due.refused("where the cell " + cell + " is not usable", Check.UNSUPPORTED, () -> z.place(1, 0, 0, 0, 0));
      }
    });
  }

  private static void placeInCorner(Check due, int column, int row, int turn) {
    SheetNester x = new SheetNester();
    x.addSheet(5, 4, 0);
    Make.addShape(x, 0, 1, "###", "#..");
    String what = "turn " + turn + " at " + column + ", " + row;
    due.refused(what + ", one beyond", Check.UNSUPPORTED, () ->
        x.place(0, 0, column == 0 ? -1 : column + 1, row, turn));
    due.refused(what + ", one above or below", Check.UNSUPPORTED, () ->
        x.place(0, 0, column, row == 0 ? -1 : row + 1, turn));
    due.equal(what, x.place(0, 0, column, row, turn), 0);
    String[][] fields = {{"###", "#.."}, {"##", ".#", ".#"}, {"..#", "###"}, {"#.", "#.", "##"}};
    StringBuilder cells = new StringBuilder();
    for (int r = 0; r < 4; r++) {
      for (int c = 0; c < 5; c++) {
        boolean isInField = r >= row && r < row + fields[turn].length && c >= column
            && c < column + fields[turn][0].length();
        cells.append(isInField && fields[turn][r - row].charAt(c - column) == '#' ? " 0" : " -1");
      }
    }
    due.equal(what + ", the cells", View.cells(x, 0), cells.toString());
  }

  private static void placeLimits(Sentences s) {
    s.of(9, "and the stock decreases by 1", due -> {
      SheetNester x = new SheetNester();
      x.addSheet(5, 5, 0);
      Make.addDot(x, 2);
      x.place(0, 0, 0, 0, 0);
      due.equal("from 2", x.shape(0, 4), 1);
      due.equal("the last copy", x.place(0, 0, 1, 0, 0), 1);
      due.equal("from 1", x.shape(0, 4), 0);
      blocked(due, "from 0", x, " 1 0 3 2", () -> x.place(0, 0, 2, 0, 0));
      x.take(0);
      due.equal("one taken away can be placed again", x.place(0, 0, 2, 0, 0), 1);
    });
    s.of(9, "Parts are numbered from 0 over all sheets in the order in which they were placed", due -> {
      SheetNester x = dots(2, 2);
      x.addSheet(2, 2, 0);
      due.equal("the first, on the second sheet", x.place(0, 1, 1, 1, 0), 0);
      due.equal("the second, on the first sheet", x.place(0, 0, 1, 1, 0), 1);
      due.equal("the third, ahead of both", x.place(0, 0, 0, 0, 0), 2);
      due.equal("on the sheets", View.cells(x, 0) + View.cells(x, 1), " 2 -1 -1 1 -1 -1 -1 0");
    });
    s.of(9, "there are at most 20 on all sheets", due -> {
      SheetNester x = dots(4, 4);
      x.addSheet(4, 4, 0);
      for (int part = 0; part < 20; part++) {
        due.equal("the part " + part, x.place(0, part % 2, part / 2 % 4, part / 8, 0), part);
      }
      blocked(due, "a 21st on the first sheet", x, " 1 0 4 20", () -> x.place(0, 0, 3, 3, 0));
      blocked(due, "a 21st on the second sheet", x, " 1 0 4 20", () -> x.place(0, 1, 3, 3, 0));
      x.take(7);
      due.equal("19 leave room", x.place(0, 1, 3, 3, 0), 19);
      blocked(due, "and then none", x, " 1 0 4 20", () -> x.place(0, 0, 3, 3, 0));
    });
  }

  private static void placeGrain(Sentences s) {
    s.of(9, "A shape may be placed with a turn on a sheet if its rule or the grain of the sheet is 0", due -> {
      for (int turn = 0; turn < 4; turn++) {
        for (int i = 0; i < 3; i++) {
          due.equal("rule 0, grain " + i + ", turn " + turn, placeWith(0, i, turn), "0");
          due.equal("rule " + i + ", grain 0, turn " + turn, placeWith(i, 0, turn), "0");
        }
      }
    });
    s.of(9, "or if the rows of the shape, as it is unturned, lie along the grain with the rule 1, "
        + "or do not with the rule 2", due -> {
      for (int turn = 0; turn < 4; turn++) {
        String refused = " 1 0 2 " + turn;
        boolean isUpright = turn == 0 || turn == 2;
        due.equal("along, rows, turn " + turn, placeWith(1, 1, turn), isUpright ? "0" : refused);
        due.equal("along, columns, turn " + turn, placeWith(1, 2, turn), isUpright ? refused : "0");
        due.equal("across, rows, turn " + turn, placeWith(2, 1, turn), isUpright ? refused : "0");
        due.equal("across, columns, turn " + turn, placeWith(2, 2, turn), isUpright ? "0" : refused);
      }
    });
  }

  /** The number of the part, or the reasons. */
  private static String placeWith(int rule, int grain, int turn) {
    SheetNester x = new SheetNester();
    x.addSheet(2, 2, grain);
    Make.addShape(x, rule, 1, "##");
    try {
      return "" + x.place(0, 0, 0, 0, turn);
    } catch (UnsupportedOperationException e) {
      return View.reasons(x);
    }
  }

  private static void take(Sentences s) {
    s.of(10, "Throws `IndexOutOfBoundsException` if there is no such part", due -> {
      SheetNester x = Make.busy();
      due.refusedQuietly("the one behind the last", x, Check.INDEX, () -> x.take(1));
      due.refusedQuietly("the part 20", x, Check.INDEX, () -> x.take(20));
      for (int far : FAR) {
        due.refusedQuietly("" + far, x, Check.INDEX, () -> x.take(far));
      }
      due.equal("the only one", x.take(0), 0);
      due.refusedQuietly("none is left", x, Check.INDEX, () -> x.take(0));
    });
    s.of(10, "its cells are free again", due -> {
      SheetNester x = Make.sheet("....", "....", "....", "....");
      Make.addShape(x, 0, 9, FRAME);
      Make.addDot(x, 9);
      x.spoil(0, 5);
      x.place(0, 0, 0, 0, 0);
      x.place(1, 0, 2, 2, 0);
      x.take(0);
      due.equal("the others are as they were", View.cells(x, 0),
          " -1 -1 -1 -1 -1 -2 -1 -1 -1 -1 0 -1 -1 -1 -1 -1");
      due.equal("it can be placed there again", x.place(0, 0, 0, 0, 0), 1);
    });
    s.of(10, "the stock increases by 1 (99 at most)", due -> {
      SheetNester x = dots(5, 4);
      for (int part = 0; part < 20; part++) {
        x.place(0, 0, part % 5, part / 5, 0);
      }
      for (int part = 19; part >= 0; part--) {
        due.equal("the stock with the parts " + (part + 1), x.shape(0, 4), 98 - part);
        x.take(part);
      }
      due.equal("the stock at its most", x.shape(0, 4), 99);
      SheetNester y = new SheetNester();
      y.addSheet(2, 2, 0);
      Make.addDot(y, 1);
      Make.addDot(y, 5);
      y.place(0, 0, 0, 0, 0);
      y.take(0);
      due.equal("from 0", y.shape(0, 4), 1);
      due.equal("not that of another shape", y.shape(1, 4), 5);
    });
    s.of(10, "the numbers of the later parts decrease by 1", due -> {
      SheetNester x = dots(3, 2, 0, 1, 2, 3);
      x.addSheet(2, 2, 0);
      x.place(0, 1, 1, 1, 0);
      x.take(2);
      due.equal("one in the middle", View.cells(x, 0) + View.cells(x, 1), " 0 1 -1 2 -1 -1 -1 -1 -1 3");
      x.take(3);
      due.equal("the last one", View.cells(x, 0) + View.cells(x, 1), " 0 1 -1 2 -1 -1 -1 -1 -1 -1");
      x.take(0);
      due.equal("the first one", View.cells(x, 0), " -1 0 -1 1 -1 -1");
      due.equal("the row of the later one", x.part(1, 3), 1);
    });
    s.of(10, "Returns the number of parts that remain.", due -> {
      SheetNester x = dots(10, 2);
      for (int part = 0; part < 20; part++) {
        x.place(0, 0, part % 10, part / 10, 0);
      }
      for (int left = 19; left >= 0; left--) {
        due.equal("of " + (left + 1), x.take(left / 2), left);
      }
    });
  }

  private static void part(Sentences s) {
    s.of(11, "Throws `IndexOutOfBoundsException` if there is no such part", due -> {
      SheetNester x = Make.busy();
      for (int what = 0; what < 8; what++) {
        int about = what;
        due.refusedQuietly("the one behind the last, what " + what, x, Check.INDEX, () -> x.part(1, about));
        for (int far : FAR) {
          due.refusedQuietly("part " + far + ", what " + what, x, Check.INDEX, () -> x.part(far, about));
        }
      }
      x.take(0);
      due.refusedQuietly("one that was taken away", x, Check.INDEX, () -> x.part(0, 0));
    });
    s.of(11, "Throws `IllegalArgumentException` if what is not valid", due -> {
      SheetNester x = Make.busy();
      due.refusedQuietly("8", x, Check.ARGUMENT, () -> x.part(0, 8));
      for (int far : FAR) {
        due.refusedQuietly("" + far, x, Check.ARGUMENT, () -> x.part(0, far));
      }
      due.equal("7", x.part(0, 7), 0);
    });
    s.of(11, "If several exceptions apply, the one that is documented first is thrown.", due -> {
      SheetNester x = Make.busy();
      due.refusedQuietly("no such part, nor what", x, Check.INDEX, () -> x.part(1, 8));
      due.refusedQuietly("neither is", x, Check.INDEX, () -> x.part(-1, -1));
    });
    s.of(11, "0 its shape; 1 its sheet; 2 the column, 3 the row, 4 the turn with which it was placed; "
        + "5 its lowest cell", due -> {
      SheetNester x = dots(10, 10, 0);
      for (int sheet = 1; sheet < 6; sheet++) {
        x.addSheet(10, 10, 0);
      }
      for (int shape = 1; shape < 7; shape++) {
        Make.addDot(x, 1);
      }
      Make.addShape(x, 0, 2, "..#", "###");
      x.place(7, 5, 7, 8, 0);
      x.place(0, 3, 9, 9, 3);
      x.place(7, 5, 0, 0, 2);
      int[][] parts = {{0, 0, 0, 0, 0, 0}, {7, 5, 7, 8, 0, 89}, {0, 3, 9, 9, 3, 99}, {7, 5, 0, 0, 2, 0}};
      for (int part = 0; part < parts.length; part++) {
        for (int what = 0; what < 6; what++) {
          due.equal("part(" + part + ", " + what + ")", x.part(part, what), parts[part][what]);
        }
      }
    });
    s.of(11, "Each common cut of a part counts, also several with the same other part.", due -> {
      SheetNester x = dots(3, 3, 4);
      due.equal("none", x.part(0, 7), 0);
      Make.addShape(x, 0, 1, RING);
      x.place(1, 0, 0, 0, 0);
      due.equal("four with the same one, within", x.part(0, 7), 4);
      due.equal("four with the same one, around", x.part(1, 7), 4);
      SheetNester y = dots(3, 3, 0, 2, 3, 5, 8);
      due.equal("one below", y.part(0, 7), 1);
      due.equal("none round the end of a row", y.part(2, 7), 1);
      due.equal("two of its neighbors", y.part(3, 7), 2);
      due.equal("at the last cell", y.part(4, 7), 1);
    });
  }

  /**
   * Tells whether a dot that stands at D is within the shape that the # show; other dots stand at o, and the
   * cells at x are not usable.
   */
  private static String within(String... rows) {
    SheetNester x = new SheetNester();
    int columns = rows[0].length();
    x.addSheet(columns, rows.length, 0);
    Make.addDot(x, 99);
    String cells = String.join("", rows);
    int dot = cells.indexOf('D');
    x.place(0, 0, dot % columns, dot / columns, 0);
    for (int cell = 0; cell < cells.length(); cell++) {
      if (cells.charAt(cell) == 'o') {
        x.place(0, 0, cell % columns, cell / columns, 0);
      } else if (cells.charAt(cell) == 'x') {
        x.spoil(0, cell);
      }
    }
    int around = placeShown(x, rows);
    int got = x.part(0, 6);
    return got == around ? "within" : got == -1 ? "not" : "within the part " + got;
  }

  private static int placeShown(SheetNester x, String[] rows) {
    int top = rows.length;
    int bottom = -1;
    int left = rows[0].length();
    int right = -1;
    for (int r = 0; r < rows.length; r++) {
      if (rows[r].contains("#")) {
        top = Math.min(top, r);
        bottom = r;
        left = Math.min(left, rows[r].indexOf('#'));
        right = Math.max(right, rows[r].lastIndexOf('#'));
      }
    }
    String[] field = new String[bottom - top + 1];
    for (int r = top; r <= bottom; r++) {
      field[r - top] = rows[r].substring(left, right + 1).replaceAll("[^#]", ".");
    }
    return x.place(Make.addShape(x, 0, 1, field), 0, left, top, 0);
  }

  private static void partWithin(Sentences s) {
    s.of(11, "6 the part within which it lies and that covers the fewest cells, of several the lowest one, "
        + "-1 if there is none", due -> {
      SheetNester x = new SheetNester();
      x.addSheet(5, 5, 0);
      Make.addShape(x, 0, 1, RING);
      Make.addDot(x, 9);
      x.place(0, 0, 1, 1, 0);
      x.place(1, 0, 2, 2, 0);
      x.place(1, 0, 0, 0, 0);
      due.equal("the part 0 around it", x.part(1, 6), 0);
      due.equal("the ring is in none", x.part(0, 6), -1);
      due.equal("nor one outside it", x.part(2, 6), -1);
      due.equal("one around, with a later number", within("###", "#D#", "###"), "within");
    });
    s.of(11, "A part lies within another one of the same sheet", due -> {
      SheetNester x = new SheetNester();
      x.addSheet(3, 3, 0);
      x.addSheet(3, 3, 0);
      Make.addShape(x, 0, 2, RING);
      Make.addDot(x, 9);
      x.place(0, 0, 0, 0, 0);
      x.place(1, 1, 1, 1, 0);
      due.equal("on the other sheet", x.part(1, 6), -1);
      x.place(0, 1, 0, 0, 0);
      due.equal("on its own", x.part(1, 6), 2);
    });
    s.of(11, "from its cells one cannot come, by neighbors, whatever is on them, to a cell at an edge of the sheet "
        + "without a cell of the other part", due -> {
      due.equal("a gap at a corner is no way out", within(".....", ".###.", ".#D#.", ".##..", "....."), "within");
      due.equal("a gap to the right is one", within(".....", ".###.", ".#D..", ".###.", "....."), "not");
      due.equal("a gap to the left", within(".....", ".###.", "..D#.", ".###.", "....."), "not");
      due.equal("a gap upwards", within(".....", ".#.#.", ".#D#.", ".###.", "....."), "not");
      due.equal("a gap downwards", within(".....", ".###.", ".#D#.", ".#.#.", "....."), "not");
      due.equal("a gap with a part in it", within(".....", ".###.", ".#Do.", ".###.", "....."), "not");
      due.equal("a gap with a cell that is not usable", within(".....", ".###.", ".#Dx.", ".###.", "....."), "not");
      due.equal("a gap at the edge", within("###", "#D.", "###"), "not");
      due.equal("beside another part in the hole", within("####", "#Do#", "#ox#", "####"), "within");
      due.equal("in a bent hole", within("####", "#D.#", "##.#", ".###"), "within");
      SheetNester x = dots(3, 3, 4);
      x.place(Make.addShape(x, 0, 1, "###", "#..", "#.."), 0, 0, 0, 0);
      x.place(Make.addShape(x, 0, 1, ".#", "##"), 0, 1, 1, 0);
      due.equal("two parts around, but none alone", x.part(0, 6), -1);
    });
    s.of(11, "a cell at an edge itself is not in a hole", due -> {
      due.equal("away from all edges", within("###", "#D#", "###"), "within");
      due.equal("at the upper edge", within("#D#", "###"), "not");
      due.equal("at the lower edge", within("###", "#D#"), "not");
      due.equal("at the left edge", within("##", "D#", "##"), "not");
      due.equal("at the right edge", within("##", "#D", "##"), "not");
      due.equal("in the first corner", within("D#", "##"), "not");
      due.equal("in the last corner", within("##", "#D"), "not");
    });
  }

  private static void reason(Sentences s) {
    s.of(12, "Throws `NoSuchElementException` if there is no reason of this level", due -> {
      SheetNester x = new SheetNester();
      for (boolean isPlace : new boolean[] {false, true}) {
        for (int level = 0; level < 3; level++) {
          int at = level;
          due.refusedQuietly("none is kept, level " + level, x, Check.ELEMENT, () -> x.reason(at, isPlace));
        }
      }
      SheetNester two = new SheetNester();
      two.addSheet(2, 2, 0);
      Make.addDot(two, 0);
      blocked(due, "no stock", two, " 1 0 3 0", () -> two.place(0, 0, 0, 0, 0));
      SheetNester three = dots(2, 2, 0);
      blocked(due, "covered", three, " 1 0 5 0 8 0", () -> three.place(0, 0, 0, 0, 0));
      for (boolean isPlace : new boolean[] {false, true}) {
        due.refusedQuietly("two levels, level 2", two, Check.ELEMENT, () -> two.reason(2, isPlace));
        due.refusedQuietly("three levels, level 3", three, Check.ELEMENT, () -> three.reason(3, isPlace));
        for (int far : FAR) {
          due.refusedQuietly("three levels, level " + far, three, Check.ELEMENT, () -> three.reason(far, isPlace));
        }
      }
      blocked(due, "two levels where there were three", three, " 1 0 5 0 6 3", () -> three.place(0, 0, -1, 0, 0));
    });
    s.of(12, "The reason of level 0 has the kind 1, and the shape as its place", due -> {
      SheetNester x = dots(2, 2, 0);
      for (int shape = 1; shape < 8; shape++) {
        Make.addDot(x, 1);
      }
      for (int shape = 0; shape < 8; shape++) {
        int of = shape;
        blocked(due, "shape " + shape, x, " 1 " + shape + " 5 0 8 0", () -> x.place(of, 0, 0, 0, 0));
      }
    });
  }

  private static void reasonOrder(Sentences s) {
    s.of(12, "which is the first one of these that applies: kind 2, the grain does not allow the turn, "
        + "with the turn as its place", due -> {
      SheetNester x = fullSheet();
      for (int turn = 0; turn < 4; turn += 2) {
        int with = turn;
        blocked(due, "neither grain nor stock nor number nor place", x, " 1 0 2 " + turn,
            () -> x.place(0, 0, -1, 0, with));
      }
    });
    s.of(12, "kind 3, there is no stock, with the number of parts of this shape that are placed", due -> {
      SheetNester x = fullSheet();
      blocked(due, "neither stock nor number nor place", x, " 1 0 3 12", () -> x.place(0, 0, -1, 0, 1));
      x.take(13);
      blocked(due, "neither stock nor place, with 12 placed", x, " 1 0 3 12", () -> x.place(0, 0, 0, 0, 3));
      x.undo();
      blocked(due, "none placed", x, " 1 2 3 0", () -> x.place(2, 0, 3, 3, 0));
      SheetNester y = new SheetNester();
      y.addSheet(2, 2, 0);
      y.addSheet(2, 2, 0);
      Make.addDot(y, 2);
      y.place(0, 0, 0, 0, 0);
      y.place(0, 1, 0, 0, 0);
      blocked(due, "on all sheets", y, " 1 0 3 2", () -> y.place(0, 1, 1, 1, 0));
    });
    s.of(12, "kind 4, there are 20 parts, with 20", due -> {
      SheetNester x = fullSheet();
      blocked(due, "neither number nor place", x, " 1 1 4 20", () -> x.place(1, 0, 0, 0, 0));
      blocked(due, "a free place", x, " 1 1 4 20", () -> x.place(1, 0, 9, 9, 0));
      x.take(19);
      blocked(due, "19 parts", x, " 1 1 5 0 8 18", () -> x.place(1, 0, 8, 1, 0));
    });
  }

  /** 20 parts; the shape 0 has no stock and may only lie across, the shape 1 has some, the shape 2 never had. */
  private static SheetNester fullSheet() {
    SheetNester x = new SheetNester();
    x.addSheet(10, 10, 1);
    Make.addShape(x, 2, 12, "#");
    Make.addDot(x, 9);
    Make.addDot(x, 0);
    for (int part = 0; part < 20; part++) {
      x.place(part < 12 ? 0 : 1, 0, part % 10, part / 10, 1);
    }
    return x;
  }

  private static void reasonPlaces(Sentences s) {
    s.of(12, "or kind 5, a place that the turned shape covers cannot be on its cell, "
        + "with the lowest number of such a place", due -> {
      SheetNester x = new SheetNester();
      x.addSheet(8, 8, 0);
      Make.addShape(x, 0, 1, "####", "####", "####", "####");
      Make.addDot(x, 99);
      for (int cell = 15; cell >= 0; cell--) {
        x.place(1, 0, 2 + cell % 4, 2 + cell / 4, 0);
        String reasons = " 1 0 5 " + cell + " 8 " + (15 - cell);
        blocked(due, "the place " + cell, x, reasons, () -> x.place(0, 0, 2, 2, 0));
      }
    });
    s.of(12, "Only places that a turned shape covers have numbers.", due -> {
      int[][] cellsOfTurns = {{8, 12, 13, 16, 17}, {6, 11, 12, 17, 18}, {7, 8, 11, 12, 16}, {6, 7, 12, 13, 18}};
      for (int turn = 0; turn < 4; turn++) {
        for (int number = 0; number < 5; number++) {
          SheetNester x = dots(5, 5, cellsOfTurns[turn][number]);
          Make.addShape(x, 0, 1, "..#", ".##", "##.");
          int with = turn;
          blocked(due, "turn " + turn, x, " 1 1 5 " + number + " 8 0", () -> x.place(1, 0, 1, 1, with));
        }
      }
    });
    s.of(12, "kind 6, the cell would be beyond an edge of the sheet, with 0 if it is above it, otherwise 1 if it is "
        + "right of it, otherwise 2 if it is below it, otherwise 3", due -> {
      SheetNester x = dots(3, 2);
      int[][] beyond = {{0, -1, 0}, {2, -1, 0}, {-1, -1, 0}, {3, -1, 0}, {3, 0, 1}, {3, 1, 1}, {3, 2, 1}, {0, 2, 2},
          {2, 2, 2}, {-1, 2, 2}, {-1, 0, 3}, {-1, 1, 3}, {99, -99, 0}, {-99, -99, 0}, {99, 99, 1}, {-99, 99, 2}};
      for (int[] b : beyond) {
        blocked(due, b[0] + ", " + b[1], x, " 1 0 5 0 6 " + b[2], () -> x.place(0, 0, b[0], b[1], 0));
      }
    });
    s.of(12, "kind 7, the cell is not usable, with the cell as its place", due -> {
      SheetNester x = Make.sheet("#..", "..#");
      x.addSheet(10, 10, 0);
      x.spoil(1, 99);
      Make.addDot(x, 1);
      blocked(due, "the first cell", x, " 1 0 5 0 7 0", () -> x.place(0, 0, 0, 0, 0));
      blocked(due, "the last cell", x, " 1 0 5 0 7 5", () -> x.place(0, 0, 2, 1, 0));
      blocked(due, "the cell 99", x, " 1 0 5 0 7 99", () -> x.place(0, 1, 9, 9, 0));
    });
    s.of(12, "or kind 8, a part covers the cell, with the part", due -> {
      SheetNester x = dots(10, 2);
      for (int part = 0; part < 19; part++) {
        int at = part;
        x.place(0, 0, 9 - part % 10, part / 10, 0);
        blocked(due, "the part " + part, x, " 1 0 5 0 8 " + part, () -> x.place(0, 0, 9 - at % 10, at / 10, 0));
      }
    });
  }

  private static void reasonStays(Sentences s) {
    s.of(12, "Reasons stay until the next call of place that is refused", due -> {
      SheetNester x = Make.busy();
      String kept = View.reasons(x);
      due.equal("kept", kept, " 1 1 5 0 8 0");
      x.place(1, 0, 2, 0, 0);
      due.equal("when one is placed", View.reasons(x), kept);
      due.refused("no such sheet", Check.INDEX, () -> x.place(0, 9, 0, 0, 0));
      due.refused("no such turn", Check.ARGUMENT, () -> x.place(0, 0, 0, 0, 9));
      due.equal("when there is no such sheet or turn", View.reasons(x), kept);
      x.take(0);
      x.spoil(0, 0);
      x.addSheet(2, 2, 0);
      Make.addDot(x, 1);
      x.keep(0, 0);
      x.nestAll();
      due.equal("with other changes", View.reasons(x), kept);
      x.undo();
      blocked(due, "the next", x, " 1 1 5 0 6 0", () -> x.place(1, 0, 0, -1, 0));
    });
    s.of(12, "nesting keeps none", due -> {
      SheetNester x = new SheetNester();
      Make.addDot(x, 1);
      due.refused("no sheet", Check.ELEMENT, () -> x.nest(0));
      x.nestAll();
      due.equal("none before, none then", View.reasons(x), "");
      SheetNester y = Make.busy();
      Make.addShape(y, 0, 1, FRAME);
      due.refusedQuietly("too great", y, Check.ELEMENT, () -> y.nest(3));
      y.nest(1);
      y.nestAll();
      due.equal("those of place stay", View.reasons(y), " 1 1 5 0 8 0");
    });
    s.of(12, "Reasons, faults and the input are neither undone nor saved, and stay.", due -> {
      SheetNester x = Make.busy();
      x.saveSnapshot();
      blocked(due, "others than when it was saved", x, " 1 0 5 0 6 3", () -> x.place(0, 0, -1, 0, 0));
      x.undo();
      due.equal("when a change is undone", View.reasons(x), " 1 0 5 0 6 3");
      x.restoreSnapshot();
      due.equal("when the snapshot is restored", View.reasons(x), " 1 0 5 0 6 3");
    });
  }

  private static void nest(Sentences s) {
    s.of(13, "Throws `IndexOutOfBoundsException` if there is no such shape", due -> {
      SheetNester x = Make.busy();
      due.refusedQuietly("the one behind the last", x, Check.INDEX, () -> x.nest(3));
      due.refusedQuietly("the shape 8", x, Check.INDEX, () -> x.nest(8));
      Make.addDot(x, 9);
      x.undo();
      due.refusedQuietly("one that was undone", x, Check.INDEX, () -> x.nest(3));
      for (int far : FAR) {
        due.refusedQuietly("" + far, x, Check.INDEX, () -> x.nest(far));
      }
    });
    s.of(13, "Throws `NoSuchElementException` if it cannot be placed on any sheet in any way", due -> {
      SheetNester none = new SheetNester();
      Make.addDot(none, 1);
      due.refusedQuietly("no sheet", none, Check.ELEMENT, () -> none.nest(0));
      SheetNester stock = new SheetNester();
      stock.addSheet(2, 2, 0);
      Make.addDot(stock, 0);
      due.refusedQuietly("no stock", stock, Check.ELEMENT, () -> stock.nest(0));
      SheetNester parts = fullSheet();
      due.refusedQuietly("20 parts", parts, Check.ELEMENT, () -> parts.nest(1));
      SheetNester small = Make.sheet("..", "..");
      small.addSheet(2, 10, 0);
      Make.addShape(small, 0, 1, RING);
      due.refusedQuietly("sheets too small", small, Check.ELEMENT, () -> small.nest(0));
      SheetNester cells = Make.sheet(".#.", "#.#", ".#.");
      Make.addShape(cells, 0, 1, "##");
      due.refusedQuietly("no two free cells", cells, Check.ELEMENT, () -> cells.nest(0));
      SheetNester grain = new SheetNester();
      grain.addSheet(10, 2, 1);
      grain.addSheet(2, 10, 2);
      Make.addShape(grain, 2, 1, "###");
      due.refusedQuietly("only along the grain", grain, Check.ELEMENT, () -> grain.nest(0));
      grain.addSheet(3, 2, 2);
      due.equal("across it", grain.nest(0), 0);
    });
    s.of(13, "Nests a shape.", due -> {
      SheetNester x = Make.sheet("##########", "########..");
      Make.addShape(x, 0, 3, "##");
      due.equal("the only room, at the last cells", x.nest(0), 0);
      due.equal("where it is", x.part(0, 2) * 10 + x.part(0, 3), 81);
      due.equal("the stock", x.shape(0, 4), 2);
      due.refusedQuietly("no room any more", x, Check.ELEMENT, () -> x.nest(0));
      SheetNester y = dots(3, 3, 4);
      Make.addShape(y, 0, 1, RING);
      due.equal("around a part", y.nest(1), 1);
      SheetNester z = new SheetNester();
      z.addSheet(10, 2, 0);
      Make.addDot(z, 20);
      for (int part = 0; part < 20; part++) {
        due.equal("the part " + part, z.nest(0), part);
      }
      due.refusedQuietly("neither stock nor room", z, Check.ELEMENT, () -> z.nest(0));
    });
  }

  private static void nestedAt(Check due, String what, SheetNester x, int shape, int sheet, int... place) {
    int part = x.nest(shape);
    due.equal(what + ", the sheet", x.part(part, 1), sheet);
    due.equal(what + ", the column", x.part(part, 2), place[0]);
    due.equal(what + ", the row", x.part(part, 3), place[1]);
    due.equal(what + ", the turn", x.part(part, 4), place[2]);
  }

  private static void nestChoice(Sentences s) {
    s.of(13, "take the one on the sheet with the lowest number, of these the one with the most common cuts that it "
        + "would make", due -> {
      SheetNester x = dots(3, 3);
      x.addSheet(3, 3, 0);
      Make.addShape(x, 0, 9, RING);
      x.place(1, 1, 0, 0, 0);
      nestedAt(due, "no cut on the first sheet, four on the second", x, 0, 0, 0, 0, 0);
      x.take(1);
      x.place(1, 0, 0, 0, 0);
      nestedAt(due, "the only cell of the first sheet", x, 0, 0, 1, 1, 0);
      nestedAt(due, "the second sheet when the first is full", x, 0, 1, 1, 1, 0);
      SheetNester y = dots(5, 5, 12, 14);
      nestedAt(due, "two cuts rather than one or none, which come ahead", y, 0, 0, 3, 2, 0);
      nestedAt(due, "one cut rather than none", y, 0, 0, 2, 1, 0);
    });
    s.of(13, "of these the one with the lowest row, then column, then turn", due -> {
      SheetNester x = dots(4, 4, 15);
      nestedAt(due, "the row before the column", x, 0, 0, 3, 2, 0);
      SheetNester y = dots(5, 5, 12);
      nestedAt(due, "above rather than left of it", y, 0, 0, 2, 1, 0);
      y.take(1);
      y.spoil(0, 7);
      nestedAt(due, "left rather than right of it", y, 0, 0, 1, 2, 0);
      SheetNester z = Make.sheet("....", "....");
      Make.addShape(z, 0, 9, "##", "##");
      nestedAt(due, "of the same places, the lowest turn", z, 0, 0, 0, 0, 0);
      SheetNester u = Make.sheet("#.##", "#...");
      Make.addShape(u, 0, 9, "##", "#.");
      nestedAt(due, "the last turn, where no other fits", u, 0, 0, 1, 0, 3);
      SheetNester v = Make.sheet("##.", "##.", "...");
      Make.addShape(v, 0, 9, "##");
      nestedAt(due, "the lower row, though turned", v, 0, 0, 2, 0, 1);
    });
  }

  private static void nestAll(Sentences s) {
    s.of(14, "Returns the number of parts that are placed, possibly 0.", due -> {
      SheetNester x = new SheetNester();
      due.equal("neither sheets nor shapes", x.nestAll(), 0);
      Make.addDot(x, 9);
      due.equal("no sheet", x.nestAll(), 0);
      x.addSheet(2, 2, 0);
      due.equal("all the room", x.nestAll(), 4);
      due.equal("no room any more", x.nestAll(), 0);
      SheetNester y = Make.sheet("..........", "..........", "..........");
      due.equal("no shape", y.nestAll(), 0);
      Make.addDot(y, 3);
      due.equal("all the stock", y.nestAll(), 3);
      due.equal("no stock any more", y.nestAll(), 0);
      Make.addDot(y, 99);
      due.equal("as many as there can be", y.nestAll(), 17);
      due.equal("20 parts", y.nestAll(), 0);
      due.equal("and not more", y.count(2), 20);
    });
    s.of(14, "A call of nestAll that places nothing is a change, too.", due -> {
      SheetNester x = new SheetNester();
      x.addSheet(2, 2, 0);
      due.equal("nothing", x.nestAll(), 0);
      due.equal("two changes", x.count(5), 2);
      due.equal("this one is undone first", x.undo(), 1);
      due.equal("the sheet is still there", x.count(0), 1);
    });
    s.of(14, "as long as it is possible, the shape that covers the most places, of several the lowest one, among those "
        + "that can be nested, is nested", due -> {
      SheetNester x = Make.sheet("....", "....", "....", "....");
      addAll(x);
      due.equal("the greatest one fills the sheet", x.nestAll(), 1);
      due.equal("its shape", x.part(0, 0), 3);
      SheetNester y = Make.sheet("....", ".#..", "....", "....");
      addAll(y);
      due.equal("where it finds no room", y.nestAll(), 2);
      due.equal("the next one that does", y.part(0, 0), 5);
      due.equal("of two as great as each other, the one that does", y.part(1, 0), 2);
      SheetNester z = Make.sheet("...", "...");
      Make.addDot(z, 2);
      Make.addShape(z, 0, 1, "##");
      Make.addShape(z, 0, 9, "#", "#");
      due.equal("of two that can be nested", z.nestAll(), 3);
      due.equal("the lowest", z.part(0, 0), 1);
      due.equal("when its stock has ended, the other one", z.part(1, 0), 2);
      due.equal("as long as it is possible", z.part(2, 0), 2);
    });
  }

  private static void addAll(SheetNester x) {
    Make.addDot(x, 2);
    Make.addShape(x, 0, 1, "###");
    Make.addShape(x, 0, 1, "##", "#.");
    Make.addShape(x, 0, 1, "####", "####", "####", "####");
    Make.addShape(x, 0, 0, "####", "####", "####");
    Make.addShape(x, 0, 9, FRAME);
  }
}
