/** Promises 1 to 8, 18 and 19: sheets, shapes and accounts. */
final class SheetPromisesTest {
  private static final Class<IllegalArgumentException> ARGUMENT = IllegalArgumentException.class;
  private static final Class<IllegalStateException> STATE = IllegalStateException.class;
  private static final Class<IndexOutOfBoundsException> INDEX = IndexOutOfBoundsException.class;
  private static final Class<UnsupportedOperationException> UNSUPPORTED = UnsupportedOperationException.class;
  private static final int[] ODD = {-1, Integer.MIN_VALUE, Integer.MAX_VALUE};

  private static final Check check = new Check("SheetPromisesTest");

  public static void main(String[] args) {
    promise1();
    promise2();
    promise3();
    promise3Forms();
    promise4();
    promise5();
    promise5Cuts();
    promise6();
    promise7();
    promise8();
    promise18();
    promise19();
    check.end();
  }

  private static void promise1() {
    SheetNester x = new SheetNester();
    for (int what = 0; what < 7; what++) {
      check.equal("1: count(" + what + ") of a new object", x.count(what), 0);
    }
    check.refused("1: no sheet", INDEX, () -> x.sheet(0, 0));
    check.refused("1: no shape", INDEX, () -> x.shape(0, 0));
    check.refused("1: no part", INDEX, () -> x.part(0, 0));
    check.refused("1: no reason", java.util.NoSuchElementException.class, () -> x.reason(0, false));
    check.refused("1: no fault", java.util.NoSuchElementException.class, () -> x.fault(0, false));
    check.refused("1: nothing to undo", STATE, () -> x.undo());
    check.refused("1: no snapshot", STATE, () -> x.restoreSnapshot());
  }

  private static void promise2() {
    SheetNester x = new SheetNester();
    check.equal("2: first", x.addSheet(2, 10, 0), 0);
    check.equal("2: second", x.addSheet(10, 2, 2), 1);
    check.equal("2: columns", x.sheet(0, 0), 2);
    check.equal("2: rows", x.sheet(0, 1), 10);
    check.equal("2: all usable", x.sheet(0, 3), 20);
    check.equal("2: grain", x.sheet(1, 2), 2);
    int[][] wrong = {{1, 5, 0}, {11, 5, 0}, {5, 1, 0}, {5, 11, 0}, {5, 5, -1}, {5, 5, 3}};
    for (int[] w : wrong) {
      check.refused("2: " + w[0] + " " + w[1] + " " + w[2], ARGUMENT, () -> x.addSheet(w[0], w[1], w[2]));
    }
    for (int odd : ODD) {
      check.refused("2: columns " + odd, ARGUMENT, () -> x.addSheet(odd, 5, 0));
      check.refused("2: rows " + odd, ARGUMENT, () -> x.addSheet(5, odd, 0));
      check.refused("2: grain " + odd, ARGUMENT, () -> x.addSheet(5, 5, odd));
    }
    for (int sheet = 2; sheet < 6; sheet++) {
      check.equal("2: sheet " + sheet, x.addSheet(3, 3, 1), sheet);
    }
    check.equal("2: only what succeeds is a change", x.count(5), 6);
    check.refused("2: a seventh", STATE, () -> x.addSheet(3, 3, 1));
    check.refused("2: the argument comes first", ARGUMENT, () -> x.addSheet(1, 3, 1));
    check.equal("2: still six", x.count(0), 6);
    check.equal("2: refused ones are no changes", x.count(5), 6);
  }

  private static void promise3() {
    SheetNester x = new SheetNester();
    check.equal("3: first", x.addShape(1, 1, 1, 0, 0), 0);
    check.equal("3: second", x.addShape(4, 4, 0xffff, 2, 99), 1);
    check.equal("3: covered", x.shape(1, 2), 0xffff);
    check.equal("3: rule", x.shape(1, 3), 2);
    check.equal("3: stock", x.shape(1, 4), 99);
    int[][] wrong = {{0, 1, 1, 0, 0}, {1, 0, 1, 0, 0}, {5, 1, 31, 0, 0}, {1, 5, 31, 0, 0}, {1, 1, 1, -1, 0},
        {1, 1, 1, 3, 0}, {1, 1, 1, 0, -1}, {1, 1, 1, 0, 100}, {1, 1, 0, 0, 0}, {1, 1, 2, 0, 0}, {1, 1, 3, 0, 0},
        {2, 2, 16, 0, 0}, {2, 2, 31, 0, 0}, {4, 4, 0x1ffff, 0, 0}, {1, 1, -1, 0, 0}};
    for (int[] w : wrong) {
      check.refused("3: " + java.util.Arrays.toString(w), ARGUMENT,
          () -> x.addShape(w[0], w[1], w[2], w[3], w[4]));
    }
    for (int odd : ODD) {
      check.refused("3: columns " + odd, ARGUMENT, () -> x.addShape(odd, 1, 1, 0, 1));
      check.refused("3: rows " + odd, ARGUMENT, () -> x.addShape(1, odd, 1, 0, 1));
      check.refused("3: covered " + odd, ARGUMENT, () -> x.addShape(4, 4, odd, 0, 1));
      check.refused("3: rule " + odd, ARGUMENT, () -> x.addShape(1, 1, 1, odd, 1));
      check.refused("3: stock " + odd, ARGUMENT, () -> x.addShape(1, 1, 1, 0, odd));
    }
    for (int shape = 2; shape < 8; shape++) {
      check.equal("3: shape " + shape, x.addShape(1, 1, 1, 0, 1), shape);
    }
    check.refused("3: a ninth", STATE, () -> x.addShape(1, 1, 1, 0, 1));
    check.refused("3: the argument comes first", ARGUMENT, () -> x.addShape(1, 1, 0, 0, 1));
    check.equal("3: still eight", x.count(1), 8);
    check.equal("3: changes", x.count(5), 8);
  }

  /** All the ways to cover fields, against the model's own look at rows of signs. */
  private static void promise3Forms() {
    for (int columns = 1; columns <= 4; columns++) {
      for (int rows = 1; rows <= 4; rows++) {
        int fields = 1 << columns * rows;
        for (int covered = 0; covered < fields; covered += fields > 4096 ? 37 : 1) {
          lookAtForm(columns, rows, covered);
        }
      }
    }
    lookAtForm(2, 2, 9);
    lookAtForm(3, 3, 0b101111101);
    lookAtForm(4, 4, 0xf99f);
    lookAtForm(4, 4, 0xf90f);
  }

  private static void lookAtForm(int columns, int rows, int covered) {
    SheetNester x = new SheetNester();
    String what = "3: " + columns + " by " + rows + " with " + covered;
    if (Model.isSound(Model.fieldOf(columns, rows, covered))) {
      check.equal(what, x.addShape(columns, rows, covered, 0, 1), 0);
      for (int turn = 0; turn < 4; turn++) {
        int due = Model.coveredOf(Model.turn(Model.fieldOf(columns, rows, covered), turn));
        check.equal(what + " turned " + turn, x.turned(0, turn), due);
      }
    } else {
      check.refused(what, ARGUMENT, () -> x.addShape(columns, rows, covered, 0, 1));
    }
  }

  private static void promise4() {
    SheetNester x = new SheetNester();
    x.addSheet(3, 2, 0);
    x.addShape(1, 1, 1, 0, 9);
    x.place(0, 0, 1, 0, 0);
    check.equal("4: the last cell", x.spoil(0, 5), 4);
    check.equal("4: not usable", x.cell(0, 5), -2);
    check.equal("4: a change", x.count(5), 4);
    check.refused("4: again", UNSUPPORTED, () -> x.spoil(0, 5));
    check.refused("4: covered", UNSUPPORTED, () -> x.spoil(0, 1));
    check.refused("4: beyond the sheet", INDEX, () -> x.spoil(0, 6));
    check.refused("4: no such sheet", INDEX, () -> x.spoil(1, 0));
    for (int odd : ODD) {
      check.refused("4: cell " + odd, INDEX, () -> x.spoil(0, odd));
      check.refused("4: sheet " + odd, INDEX, () -> x.spoil(odd, 0));
    }
    check.equal("4: refused ones are no changes", x.count(5), 4);
    check.equal("4: the first cell", x.spoil(0, 0), 3);
  }

  private static void promise5() {
    SheetNester x = new SheetNester();
    x.addSheet(5, 4, 2);
    x.addSheet(2, 3, 1);
    x.addShape(2, 1, 3, 0, 9);
    x.place(0, 0, 0, 0, 0);
    x.place(0, 0, 2, 1, 1);
    x.place(0, 1, 0, 0, 0);
    x.spoil(0, 19);
    int[] due = {5, 4, 2, 15, 1, 4, 2, 9, 0, 1};
    for (int what = 0; what < due.length; what++) {
      check.equal("5: sheet(0, " + what + ")", x.sheet(0, what), due[what]);
    }
    check.equal("5: parts of the other sheet", x.sheet(1, 6), 1);
    check.equal("5: cuts of the other sheet", x.sheet(1, 7), 2);
    check.refused("5: what 10", ARGUMENT, () -> x.sheet(0, 10));
    check.refused("5: no such sheet", INDEX, () -> x.sheet(2, 0));
    check.refused("5: the sheet comes first", INDEX, () -> x.sheet(2, 10));
    for (int odd : ODD) {
      check.refused("5: what " + odd, ARGUMENT, () -> x.sheet(0, odd));
      check.refused("5: sheet " + odd, INDEX, () -> x.sheet(odd, 0));
    }
  }

  private static void promise5Cuts() {
    SheetNester x = new SheetNester();
    x.addSheet(2, 2, 0);
    x.addShape(1, 1, 1, 0, 9);
    x.addShape(2, 1, 3, 0, 9);
    check.equal("5: no part, no cut", x.sheet(0, 7), 0);
    x.place(0, 0, 0, 0, 0);
    x.place(0, 0, 1, 0, 0);
    x.place(0, 0, 0, 1, 0);
    check.equal("5: common ones of the part 0", x.sheet(0, 8), 2);
    check.equal("5: among four", x.sheet(0, 7), 4);
    x.undo();
    x.undo();
    x.undo();
    x.spoil(0, 3);
    check.equal("5: neither where cells are not usable", x.sheet(0, 7), 0);
    x.place(0, 0, 1, 0, 0);
    check.equal("5: towards a free cell and one that is not usable", x.sheet(0, 7), 2);
    check.equal("5: no common ones yet", x.sheet(0, 8), 0);
    x.place(0, 0, 0, 0, 0);
    check.equal("5: the edges are no cuts", x.sheet(0, 7), 3);
    check.equal("5: a common one", x.sheet(0, 8), 1);
    x.addSheet(4, 2, 0);
    x.place(1, 1, 0, 0, 0);
    x.place(1, 1, 2, 0, 0);
    x.place(1, 1, 1, 1, 0);
    check.equal("5: none within a part", x.sheet(1, 7), 7);
    check.equal("5: common ones, several with a part", x.sheet(1, 8), 3);
    x.addSheet(3, 3, 0);
    x.spoil(2, 1);
    x.spoil(2, 4);
    check.equal("5: one remnant around", x.sheet(2, 9), 1);
    x.spoil(2, 7);
    check.equal("5: two remnants", x.sheet(2, 9), 2);
  }

  private static void promise6() {
    SheetNester x = new SheetNester();
    x.addSheet(3, 2, 0);
    x.addSheet(2, 2, 0);
    x.addShape(2, 2, 7, 0, 9);
    x.addShape(1, 1, 1, 0, 9);
    x.place(1, 1, 1, 1, 0);
    x.place(0, 0, 1, 0, 0);
    x.spoil(0, 3);
    int[] due = {-1, 1, 1, -2, 1, -1};
    for (int cell = 0; cell < due.length; cell++) {
      check.equal("6: cell(0, " + cell + ")", x.cell(0, cell), due[cell]);
    }
    check.equal("6: on the other sheet", x.cell(1, 3), 0);
    check.refused("6: beyond the sheet", INDEX, () -> x.cell(1, 4));
    check.refused("6: no such sheet", INDEX, () -> x.cell(2, 0));
    for (int odd : ODD) {
      check.refused("6: cell " + odd, INDEX, () -> x.cell(0, odd));
      check.refused("6: sheet " + odd, INDEX, () -> x.cell(odd, 0));
    }
  }

  private static void promise7() {
    SheetNester x = new SheetNester();
    x.addSheet(9, 9, 0);
    x.addSheet(9, 9, 0);
    x.addShape(3, 2, 0b001111, 2, 5);
    x.place(0, 0, 0, 0, 0);
    x.place(0, 1, 0, 0, 0);
    int[] due = {3, 2, 15, 2, 3, 4, 2, 4};
    for (int what = 0; what < due.length; what++) {
      check.equal("7: shape(0, " + what + ")", x.shape(0, what), due[what]);
    }
    int[][] forms = {{1, 1, 1, 1}, {2, 1, 3, 2}, {2, 2, 15, 1}, {3, 2, 0b110011, 2}, {3, 3, 0b111101111, 1},
        {3, 3, 0b010111010, 1}, {4, 2, 0b11110110, 4}};
    for (int[] form : forms) {
      int shape = x.addShape(form[0], form[1], form[2], 0, 1);
      check.equal("7: turns of the shape " + shape, x.shape(shape, 7), form[3]);
    }
    check.refused("7: what 8", ARGUMENT, () -> x.shape(0, 8));
    check.refused("7: no such shape", INDEX, () -> x.shape(8, 0));
    check.refused("7: the shape comes first", INDEX, () -> x.shape(8, 8));
    for (int odd : ODD) {
      check.refused("7: what " + odd, ARGUMENT, () -> x.shape(0, odd));
      check.refused("7: shape " + odd, INDEX, () -> x.shape(odd, 0));
    }
  }

  private static void promise8() {
    SheetNester x = new SheetNester();
    x.addShape(3, 2, 0b001111, 0, 1);
    int[] due = {0b001111, 0b101011, 0b111100, 0b110101};
    for (int turn = 0; turn < 4; turn++) {
      check.equal("8: turned(0, " + turn + ")", x.turned(0, turn), due[turn]);
    }
    check.refused("8: turn 4", ARGUMENT, () -> x.turned(0, 4));
    check.refused("8: no such shape", INDEX, () -> x.turned(1, 0));
    check.refused("8: the shape comes first", INDEX, () -> x.turned(1, 4));
    for (int odd : ODD) {
      check.refused("8: turn " + odd, ARGUMENT, () -> x.turned(0, odd));
      check.refused("8: shape " + odd, INDEX, () -> x.turned(odd, 0));
    }
  }

  private static void promise18() {
    SheetNester x = new SheetNester();
    check.refused("18: no sheets", ArithmeticException.class, () -> x.usedShare());
    x.addSheet(2, 2, 0);
    x.addSheet(3, 3, 0);
    check.equal("18: nothing covered", x.usedShare(), 0f);
    x.addShape(2, 2, 7, 0, 9);
    x.addShape(1, 1, 1, 0, 9);
    x.place(0, 0, 0, 0, 0);
    x.place(1, 1, 0, 0, 0);
    check.equal("18: four of thirteen", x.usedShare(), 4f / 13f);
    x.spoil(1, 8);
    check.equal("18: four of twelve", x.usedShare(), 4f / 12f);
    SheetNester y = new SheetNester();
    y.addSheet(2, 2, 0);
    for (int cell = 0; cell < 4; cell++) {
      y.spoil(0, cell);
    }
    check.refused("18: no usable cells", ArithmeticException.class, () -> y.usedShare());
    y.undo();
    check.equal("18: a usable cell alone", y.usedShare(), 0f);
    y.addShape(1, 1, 1, 0, 1);
    y.nest(0);
    check.equal("18: all is covered", y.usedShare(), 1f);
  }

  private static void promise19() {
    SheetNester x = new SheetNester();
    x.addSheet(2, 2, 0);
    x.addSheet(3, 4, 0);
    x.addShape(2, 1, 3, 0, 9);
    x.spoil(1, 11);
    x.place(0, 0, 0, 0, 0);
    x.place(0, 1, 0, 0, 0);
    x.place(0, 1, 0, 1, 0);
    x.feed('s');
    x.feed('\u1234');
    int[] due = {2, 1, 3, 16, 8, 7, 2};
    for (int what = 0; what < due.length; what++) {
      check.equal("19: count(" + what + ")", x.count(what), due[what]);
    }
    check.refused("19: what 7", ARGUMENT, () -> x.count(7));
    for (int odd : ODD) {
      check.refused("19: what " + odd, ARGUMENT, () -> x.count(odd));
    }
    x.spoil(0, 2);
    x.spoil(0, 3);
    check.equal("19: eight changes at most", x.count(5), 8);
  }
}
