/** The same few parts at every place of sheets of all sizes, as what holds at one place has to hold at each. */
final class PlacesTest {
  private static final int[] SIDES = {2, 3, 4, 5, 7, 10};
  private static final String[] RING = {"###", "#.#", "###"};
  private static final String[] FRAME = {"####", "#..#", "#..#", "####"};
  private static final String[] BAY = {"###", "#.#"};
  private static final String[] DEEP_BAY = {"###", "#.#", "#.#", "#.#"};
  private static final Check check = new Check("PlacesTest");

  private interface Trial {
    void at(int columns, int rows, int column, int row);
  }

  public static void main(String[] args) {
    everywhere(3, 3, PlacesTest::withinRing);
    everywhere(4, 4, PlacesTest::withinFrame);
    for (int turn = 0; turn < 4; turn++) {
      boolean isUpright = turn % 2 == 0;
      int at = turn;
      everywhere(isUpright ? 3 : 2, isUpright ? 2 : 3, (c, r, column, row) -> inBay(c, r, column, row, at));
      everywhere(isUpright ? 3 : 4, isUpright ? 4 : 3, (c, r, column, row) -> deepInBay(c, r, column, row, at));
    }
    everywhere(1, 1, PlacesTest::cutsOfDot);
    everywhere(1, 1, PlacesTest::noCuts);
    everywhere(2, 1, (c, r, column, row) -> commonCut(c, r, column, row, 1, 0));
    everywhere(1, 2, (c, r, column, row) -> commonCut(c, r, column, row, 0, 1));
    everywhere(3, 2, PlacesTest::remnantOf);
    everywhere(3, 3, PlacesTest::nestInHole);
    for (int columns : SIDES) {
      for (int rows : SIDES) {
        nestAsTried(columns, rows);
      }
    }
    check.end();
  }

  /** All places of a field of this width and height on sheets of all sizes. */
  private static void everywhere(int width, int height, Trial trial) {
    for (int columns : SIDES) {
      for (int rows : SIDES) {
        for (int row = 0; row + height <= rows; row++) {
          for (int column = 0; column + width <= columns; column++) {
            check.about("sheet " + columns + "x" + rows + ", column " + column + ", row " + row + ", ");
            trial.at(columns, rows, column, row);
          }
        }
      }
    }
    check.about("");
  }

  /** A shape as part 0, and a dot, which is shape 1, as part 1. */
  private static SheetNester withDot(int columns, int rows, int column, int row, int turn, int right, int down,
      String... field) {
    SheetNester x = new SheetNester();
    x.addSheet(columns, rows, 0);
    Make.addShape(x, 0, 1, field);
    Make.addDot(x, 2);
    x.place(0, 0, column, row, turn);
    x.place(1, 0, column + right, row + down, 0);
    return x;
  }

  private static void withinRing(int columns, int rows, int column, int row) {
    SheetNester x = withDot(columns, rows, column, row, 0, 1, 1, RING);
    check.equal("promise 11: the dot lies within the ring", x.part(1, 6), 0);
    check.equal("promise 11: the ring within nothing", x.part(0, 6), -1);
    check.equal("promise 11: common cuts of the dot", x.part(1, 7), 4);
    check.equal("promise 11: common cuts of the ring", x.part(0, 7), 4);
    check.equal("promise 5: common cuts of the sheet", x.sheet(0, 8), 4);
    for (int way = 0; way < 2; way++) {
      check.equal("promise 17: first the dot", x.way(0, way, 0), 1);
      check.equal("promise 17: then the ring", x.way(0, way, 1), 0);
      check.equal("promise 17: the length", x.way(0, way, -1), column + 1 + row + 1 + 2);
    }
  }

  private static void withinFrame(int columns, int rows, int column, int row) {
    SheetNester x = withDot(columns, rows, column, row, 0, 2, 1, FRAME);
    x.place(1, 0, column + 1, row + 2, 0);
    for (int dot = 1; dot < 3; dot++) {
      check.equal("promise 11: dot " + dot + " lies within the frame", x.part(dot, 6), 0);
      check.equal("promise 11: two common cuts", x.part(dot, 7), 2);
    }
    for (int way = 0; way < 2; way++) {
      check.equal("promise 17: two dots as near", x.way(0, way, 0), 1);
      check.equal("promise 17: the other one", x.way(0, way, 1), 2);
      check.equal("promise 17: at last the frame", x.way(0, way, 2), 0);
      check.equal("promise 17: the length", x.way(0, way, -1), column + 2 + row + 1 + 2 + 3);
    }
  }

  /** The open side of the bay, and its cell, may be at an edge of the sheet. */
  private static void inBay(int columns, int rows, int column, int row, int turn) {
    int[][] mouths = {{1, 1}, {0, 1}, {1, 0}, {1, 1}};
    SheetNester x = withDot(columns, rows, column, row, turn, mouths[turn][0], mouths[turn][1], BAY);
    check.equal("promise 11: in no hole, turn " + turn, x.part(1, 6), -1);
    check.equal("promise 11: but with three common cuts, turn " + turn, x.part(1, 7), 3);
  }

  /** The way out leads over a cell that may be at an edge of the sheet, or beyond it over a part. */
  private static void deepInBay(int columns, int rows, int column, int row, int turn) {
    int[][] ends = {{1, 1}, {2, 1}, {1, 2}, {1, 1}};
    int[][] ways = {{1, 2}, {1, 1}, {1, 1}, {2, 1}};
    SheetNester x = withDot(columns, rows, column, row, turn, ends[turn][0], ends[turn][1], DEEP_BAY);
    check.equal("promise 11: deep in a bay, turn " + turn, x.part(1, 6), -1);
    x.place(1, 0, column + ways[turn][0], row + ways[turn][1], 0);
    check.equal("promise 11: behind another part, turn " + turn, x.part(1, 6), -1);
  }

  private static int neighbors(int columns, int rows, int column, int row) {
    return (column > 0 ? 1 : 0) + (column < columns - 1 ? 1 : 0) + (row > 0 ? 1 : 0) + (row < rows - 1 ? 1 : 0);
  }

  private static void cutsOfDot(int columns, int rows, int column, int row) {
    SheetNester x = new SheetNester();
    x.addSheet(columns, rows, 0);
    Make.addDot(x, 1);
    x.place(0, 0, column, row, 0);
    int due = neighbors(columns, rows, column, row);
    check.equal("promise 5: a cut to each neighbor", x.sheet(0, 7), due);
    check.equal("promise 5: none of them common", x.sheet(0, 8), 0);
    check.equal("promise 19: cuts of all sheets", x.count(4), due);
    for (int cell = 0; cell < columns * rows; cell++) {
      if (cell != column + columns * row) {
        x.spoil(0, cell);
      }
    }
    check.equal("promise 5: also if they are not usable", x.sheet(0, 7), due);
    check.equal("promise 5: none of them common then", x.sheet(0, 8), 0);
    check.equal("promise 5: nothing is free", x.sheet(0, 3), 0);
  }

  private static void noCuts(int columns, int rows, int column, int row) {
    SheetNester x = new SheetNester();
    x.addSheet(columns, rows, 0);
    x.spoil(0, column + columns * row);
    check.equal("promise 5: no cut around a cell that is not usable", x.sheet(0, 7), 0);
    check.equal("promise 5: nor a common one", x.sheet(0, 8), 0);
    check.equal("promise 19: nor of all sheets", x.count(4), 0);
  }

  private static void commonCut(int columns, int rows, int column, int row, int right, int down) {
    SheetNester x = withDot(columns, rows, column, row, 0, right, down, "#");
    int others = neighbors(columns, rows, column, row) + neighbors(columns, rows, column + right, row + down) - 2;
    check.equal("promise 5: the cuts", x.sheet(0, 7), others + 1);
    check.equal("promise 5: a common one", x.sheet(0, 8), 1);
    check.equal("promise 11: it is of the one part", x.part(0, 7), 1);
    check.equal("promise 11: and of the other", x.part(1, 7), 1);
    for (int way = 0; way < 2; way++) {
      check.equal("promise 17: the nearest", x.way(0, way, 0), 0);
      check.equal("promise 17: the length", x.way(0, way, -1), column + row + 1);
    }
  }

  /** A remnant of three columns and two rows, in a sheet that is else not usable. */
  private static void remnantOf(int columns, int rows, int column, int row) {
    String[] field = {"#.#", "###"};
    SheetNester x = new SheetNester();
    x.addSheet(columns, rows, 1);
    for (int cell = 0; cell < columns * rows; cell++) {
      int c = cell % columns - column;
      int r = cell / columns - row;
      if (c < 0 || c > 2 || r < 0 || r > 1 || field[r].charAt(c) == '.') {
        x.spoil(0, cell);
      }
    }
    int[] due = {5, column + columns * row, 3, 2, 3};
    for (int what = 0; what < due.length; what++) {
      check.equal("promise 15: what " + what, x.remnant(0, 0, what), due[what]);
    }
    check.equal("promise 5: one remnant", x.sheet(0, 9), 1);
    check.equal("promise 16: the new sheet", x.keep(0, 0), 1);
    check.equal("promise 16: its cells", View.cells(x, 1), " -1 -2 -1 -1 -1 -1");
    check.equal("promise 16: its columns", x.sheet(1, 0), 3);
    check.equal("promise 16: what is left of the old one", x.sheet(0, 4), columns * rows);
  }

  /** In the hole of the ring a dot makes four common cuts, and elsewhere one at most. */
  private static void nestInHole(int columns, int rows, int column, int row) {
    SheetNester x = new SheetNester();
    x.addSheet(columns, rows, 0);
    Make.addShape(x, 0, 1, RING);
    Make.addDot(x, 1);
    x.place(0, 0, column, row, 0);
    check.equal("promise 13: nested", x.nest(1), 1);
    check.equal("promise 13: in the hole", x.part(1, 5), column + 1 + columns * (row + 1));
  }

  private static SheetNester crowded(int columns, int rows) {
    SheetNester x = new SheetNester();
    x.addSheet(columns, rows, 1);
    Make.addDot(x, 9);
    Make.addShape(x, 1, 1, "##.", ".##", ".#.");
    Make.addShape(x, 1, 1, "#.", "##", "#.", "#.");
    Make.addShape(x, 2, 1, "#.", "##", "#.", "#.");
    Make.addShape(x, 0, 1, "###", "#..");
    for (int i = 2; i < columns * rows; i += 13) {
      x.place(0, 0, i % columns, i / columns, 0);
    }
    return x;
  }

  /** Nesting is compared with the best of all ways to place the shape, each tried on a nester of its own. */
  private static void nestAsTried(int columns, int rows) {
    for (int shape = 1; shape < 5; shape++) {
      int most = -1;
      String best = "";
      for (int i = 0; i < columns * rows * 4; i++) {
        SheetNester x = crowded(columns, rows);
        int cuts = cutsIfPlaced(x, shape, i / 4 % columns, i / 4 / columns, i % 4);
        if (cuts > most) {
          most = cuts;
          best = View.ofWork(x);
        }
      }
      SheetNester y = crowded(columns, rows);
      int at = shape;
      String what = "promise 13: shape " + shape + " on a sheet " + columns + "x" + rows;
      if (most < 0) {
        check.refused(what, Check.ELEMENT, () -> y.nest(at));
      } else {
        check.equal(what + ", its number", y.nest(shape), y.count(2) - 1);
        check.equal(what + ", all that is seen", View.ofWork(y), best);
      }
    }
  }

  private static int cutsIfPlaced(SheetNester x, int shape, int column, int row, int turn) {
    try {
      return x.part(x.place(shape, 0, column, row, turn), 7);
    } catch (UnsupportedOperationException e) {
      return -1;
    }
  }
}
