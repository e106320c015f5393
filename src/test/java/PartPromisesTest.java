import java.util.NoSuchElementException;

/** Promises 9 to 14: parts, reasons and nesting. */
final class PartPromisesTest {
  private static final Class<IllegalArgumentException> ARGUMENT = IllegalArgumentException.class;
  private static final Class<IndexOutOfBoundsException> INDEX = IndexOutOfBoundsException.class;
  private static final Class<UnsupportedOperationException> UNSUPPORTED = UnsupportedOperationException.class;
  private static final Class<NoSuchElementException> ELEMENT = NoSuchElementException.class;
  private static final int[] ODD = {-1, Integer.MIN_VALUE, Integer.MAX_VALUE};
  private static final int RING = 0b111101111;

  private static final Check check = new Check("PartPromisesTest");

  public static void main(String[] args) {
    promise9();
    promise9Grain();
    promise9Far();
    promise10();
    promise10Sheets();
    promise11();
    promise11Within();
    promise11Edges();
    promise12();
    promise12Order();
    promise12Numbers();
    promise13();
    promise13Choice();
    promise14();
    promise14Order();
    check.end();
  }

  private static void row(String what, SheetNester x, int sheet, int... due) {
    for (int cell = 0; cell < due.length; cell++) {
      check.equal(what + ", cell " + cell, x.cell(sheet, cell), due[cell]);
    }
  }

  private static void reasons(String what, SheetNester x, int... due) {
    for (int level = 0; level < 3; level++) {
      int at = level;
      if (2 * level < due.length) {
        check.equal(what + ", kind of level " + level, x.reason(level, false), due[2 * level]);
        check.equal(what + ", place of level " + level, x.reason(level, true), due[2 * level + 1]);
      } else {
        check.refused(what + ", no level " + level, ELEMENT, () -> x.reason(at, false));
      }
    }
  }

  private static void promise9() {
    SheetNester x = new SheetNester();
    x.addSheet(4, 3, 0);
    x.addSheet(2, 2, 0);
    x.addShape(3, 2, 0b001111, 0, 3);
    check.equal("9: the first part", x.place(0, 0, 1, 0, 1), 0);
    row("9: turned once", x, 0, -1, 0, 0, -1, -1, -1, 0, -1, -1, -1, 0, -1);
    check.equal("9: the stock", x.shape(0, 4), 2);
    check.equal("9: the second part", x.place(0, 0, 0, 0, 3), 1);
    row("9: turned thrice", x, 0, 1, 0, 0, -1, 1, -1, 0, -1, 1, 1, 0, -1);
    check.refused("9: not on one that is covered", UNSUPPORTED, () -> x.place(0, 0, 0, 0, 0));
    check.refused("9: not beyond the edge", UNSUPPORTED, () -> x.place(0, 1, 0, 0, 0));
    check.equal("9: still two", x.count(2), 2);
    check.equal("9: changes", x.count(5), 5);
    check.refused("9: no such shape", INDEX, () -> x.place(1, 0, 0, 0, 0));
    check.refused("9: no such sheet", INDEX, () -> x.place(0, 2, 0, 0, 0));
    check.refused("9: no such turn", ARGUMENT, () -> x.place(0, 0, 0, 0, 4));
    check.refused("9: the sheet comes first", INDEX, () -> x.place(0, 2, 0, 0, 4));
    for (int odd : ODD) {
      check.refused("9: shape " + odd, INDEX, () -> x.place(odd, 0, 0, 0, 0));
      check.refused("9: sheet " + odd, INDEX, () -> x.place(0, odd, 0, 0, 0));
      check.refused("9: turn " + odd, ARGUMENT, () -> x.place(0, 0, 0, 0, odd));
    }
  }

  private static void promise9Grain() {
    for (int grain = 0; grain < 3; grain++) {
      for (int rule = 0; rule < 3; rule++) {
        for (int turn = 0; turn < 4; turn++) {
          SheetNester x = new SheetNester();
          x.addSheet(4, 4, grain);
          x.addShape(2, 1, 3, rule, 1);
          boolean isAlong = grain == (turn == 0 || turn == 2 ? 1 : 2);
          boolean isAllowed = grain == 0 || rule == 0 || (rule == 1 ? isAlong : !isAlong);
          String what = "9: grain " + grain + ", rule " + rule + ", turn " + turn;
          int at = turn;
          if (isAllowed) {
            check.equal(what, x.place(0, 0, 1, 1, turn), 0);
          } else {
            check.refused(what, UNSUPPORTED, () -> x.place(0, 0, 1, 1, at));
            reasons(what, x, 1, 0, 2, turn);
          }
        }
      }
    }
  }

  private static void promise9Far() {
    SheetNester x = new SheetNester();
    x.addSheet(4, 4, 0);
    x.addShape(4, 4, 0xffff, 0, 1);
    int max = Integer.MAX_VALUE;
    int min = Integer.MIN_VALUE;
    int[][] far = {{max, 0, 1}, {0, max, 2}, {max, max, 1}, {min, 0, 3}, {0, min, 0}, {min, min, 0}, {max, min, 0},
        {min, max, 2}, {max - 3, 0, 1}, {0, max - 3, 2}, {-1, 0, 3}, {0, -1, 0}, {-1, -1, 0}};
    for (int[] f : far) {
      String what = "9: at " + f[0] + ", " + f[1];
      check.refused(what, UNSUPPORTED, () -> x.place(0, 0, f[0], f[1], 0));
      reasons(what, x, 1, 0, 5, 0, 6, f[2]);
    }
    check.refused("9: one to the right", UNSUPPORTED, () -> x.place(0, 0, 1, 0, 0));
    reasons("9: one to the right", x, 1, 0, 5, 3, 6, 1);
    check.refused("9: one below", UNSUPPORTED, () -> x.place(0, 0, 0, 1, 0));
    reasons("9: one below", x, 1, 0, 5, 12, 6, 2);
    check.equal("9: a whole sheet", x.place(0, 0, 0, 0, 3), 0);
  }

  private static void promise10() {
    SheetNester x = new SheetNester();
    x.addSheet(3, 2, 0);
    x.addSheet(3, 2, 0);
    x.addShape(1, 1, 1, 0, 99);
    x.place(0, 0, 0, 0, 0);
    x.place(0, 1, 1, 0, 0);
    x.place(0, 0, 2, 1, 0);
    x.spoil(0, 1);
    check.equal("10: the stock before", x.shape(0, 4), 96);
    check.equal("10: two remain", x.take(0), 2);
    row("10: later ones have lower numbers", x, 0, -1, -2, -1, -1, -1, 1);
    row("10: on the other sheet, too", x, 1, -1, 0, -1, -1, -1, -1);
    check.equal("10: the stock behind", x.shape(0, 4), 97);
    check.equal("10: the row that moved up", x.part(1, 3), 1);
    check.equal("10: a change", x.count(5), 8);
    check.refused("10: no such part", INDEX, () -> x.take(2));
    for (int odd : ODD) {
      check.refused("10: part " + odd, INDEX, () -> x.take(odd));
    }
    check.equal("10: the last one first", x.take(1), 1);
    check.equal("10: then none", x.take(0), 0);
    check.equal("10: all is free again", x.sheet(0, 3) + x.sheet(1, 3), 11);
    check.equal("10: the whole stock", x.shape(0, 4), 99);
  }

  /** A part's number may be that of the columns, rows or grain of a sheet, which stay as they are. */
  private static void promise10Sheets() {
    SheetNester x = new SheetNester();
    for (int sheet = 0; sheet < 6; sheet++) {
      x.addSheet(sheet % 2 == 0 ? 10 : 2, 10 - sheet, sheet % 3);
    }
    x.addShape(1, 1, 1, 0, 20);
    for (int part = 0; part < 20; part++) {
      x.place(0, part % 6, 0, part / 6, 0);
    }
    for (int left = 19; left >= 0; left--) {
      check.equal("10: " + left + " remain", x.take(left % 3 == 0 ? 0 : left), left);
      for (int sheet = 0; sheet < 6; sheet++) {
        check.equal("10: columns of sheet " + sheet, x.sheet(sheet, 0), sheet % 2 == 0 ? 10 : 2);
        check.equal("10: rows of sheet " + sheet, x.sheet(sheet, 1), 10 - sheet);
        check.equal("10: grain of sheet " + sheet, x.sheet(sheet, 2), sheet % 3);
      }
    }
    check.equal("10: all is free again", x.sheet(0, 3) + x.sheet(1, 3), 118);
  }

  private static void promise11() {
    SheetNester x = new SheetNester();
    x.addSheet(6, 6, 0);
    x.addSheet(6, 6, 0);
    x.addShape(2, 1, 3, 0, 9);
    x.addShape(2, 2, 0b1110, 0, 9);
    x.place(0, 0, 0, 0, 0);
    x.place(1, 1, 3, 2, 0);
    x.place(0, 1, 3, 1, 0);
    x.place(0, 1, 5, 2, 1);
    int[] due = {1, 1, 3, 2, 0, 16, -1, 3};
    for (int what = 0; what < due.length; what++) {
      check.equal("11: part(1, " + what + ")", x.part(1, what), due[what]);
    }
    check.equal("11: the turn", x.part(3, 4), 1);
    check.equal("11: common cuts", x.part(2, 7), 1);
    check.equal("11: two with the same part", x.part(3, 7), 2);
    check.equal("11: none", x.part(0, 7), 0);
    check.refused("11: what 8", ARGUMENT, () -> x.part(0, 8));
    check.refused("11: no such part", INDEX, () -> x.part(4, 0));
    check.refused("11: the part comes first", INDEX, () -> x.part(4, 8));
    for (int odd : ODD) {
      check.refused("11: what " + odd, ARGUMENT, () -> x.part(0, odd));
      check.refused("11: part " + odd, INDEX, () -> x.part(odd, 0));
    }
  }

  private static void promise11Within() {
    SheetNester x = new SheetNester();
    x.addSheet(5, 5, 0);
    x.addSheet(5, 5, 0);
    x.addShape(4, 4, 0xf99f, 0, 9);
    x.addShape(2, 1, 3, 0, 9);
    x.addShape(4, 4, 0x799f, 0, 9);
    x.addShape(4, 4, 0xd99f, 0, 9);
    x.place(1, 0, 1, 1, 0);
    x.place(0, 0, 0, 0, 0);
    x.place(1, 0, 1, 2, 0);
    x.place(1, 1, 1, 1, 0);
    check.equal("11: within the ring", x.part(0, 6), 1);
    check.equal("11: the ring itself", x.part(1, 6), -1);
    check.equal("11: beside another one in it", x.part(2, 6), 1);
    check.equal("11: not on another sheet", x.part(3, 6), -1);
    x.place(2, 1, 0, 0, 0);
    check.equal("11: a corner is no way out", x.part(3, 6), 4);
    x.take(4);
    x.place(3, 1, 0, 0, 0);
    check.equal("11: a gap is one, even at the edge", x.part(3, 6), -1);
    x.addShape(3, 2, 0b111101, 0, 1);
    x.addShape(1, 1, 1, 0, 1);
    x.addSheet(3, 2, 0);
    x.place(4, 2, 0, 0, 0);
    x.place(5, 2, 1, 0, 0);
    check.equal("11: not at the edge of the sheet", x.part(6, 6), -1);
    SheetNester y = new SheetNester();
    y.addSheet(4, 4, 0);
    y.addShape(4, 4, 0xf99f, 0, 1);
    y.addShape(1, 1, 1, 0, 1);
    y.place(0, 0, 0, 0, 0);
    y.place(1, 0, 1, 2, 0);
    check.equal("11: the ring may be part 0 and at all edges", y.part(1, 6), 0);
    check.equal("11: common cuts of part 0", y.part(0, 7), 2);
  }

  /** A cell at an edge, with a part on all its other sides, at each of the edges. */
  private static void promise11Edges() {
    int[][] corners = {{1, 0}, {3, 1}, {1, 3}, {0, 1}};
    int[][] bays = {{2, 0}, {4, 2}, {2, 4}, {0, 2}};
    for (int turn = 0; turn < 4; turn++) {
      SheetNester x = new SheetNester();
      x.addSheet(5, 5, 0);
      x.addShape(3, 2, 0b111101, 0, 1);
      x.addShape(1, 1, 1, 0, 1);
      x.place(0, 0, corners[turn][0], corners[turn][1], turn);
      x.place(1, 0, bays[turn][0], bays[turn][1], 0);
      check.equal("11: not in a bay with the turn " + turn, x.part(1, 6), -1);
      check.equal("11: though there are three common cuts", x.part(1, 7), 3);
    }
  }

  private static void promise12() {
    SheetNester x = new SheetNester();
    check.refused("12: nothing yet", ELEMENT, () -> x.reason(0, true));
    x.addSheet(3, 3, 0);
    x.addShape(1, 1, 1, 0, 99);
    x.addShape(3, 2, 0b111110, 0, 99);
    x.spoil(0, 4);
    x.place(0, 0, 2, 1, 0);
    check.refused("12: not usable", UNSUPPORTED, () -> x.place(1, 0, 0, 0, 0));
    reasons("12: not usable", x, 1, 1, 5, 3, 7, 4);
    for (int level : new int[] {-1, 3, Integer.MIN_VALUE, Integer.MAX_VALUE}) {
      check.refused("12: level " + level, ELEMENT, () -> x.reason(level, false));
    }
    check.refused("12: covered", UNSUPPORTED, () -> x.place(0, 0, 2, 1, 1));
    reasons("12: covered", x, 1, 0, 5, 0, 8, 0);
    check.refused("12: wrong turn", ARGUMENT, () -> x.place(0, 0, 0, 1, 4));
    check.refused("12: wrong sheet", INDEX, () -> x.place(0, 1, 0, 1, 0));
    check.equal("12: a success", x.place(0, 0, 0, 1, 0), 1);
    x.take(0);
    x.undo();
    x.undo();
    x.saveSnapshot();
    x.restoreSnapshot();
    check.refused("12: nesting keeps none", ELEMENT, () -> x.nest(1));
    x.nestAll();
    reasons("12: they stay", x, 1, 0, 5, 0, 8, 0);
    check.refused("12: left of it, though others are covered", UNSUPPORTED, () -> x.place(1, 0, -1, 0, 1));
    reasons("12: left of it", x, 1, 1, 5, 0, 6, 3);
  }

  private static void promise12Order() {
    SheetNester x = new SheetNester();
    x.addSheet(10, 10, 1);
    x.addShape(1, 1, 1, 2, 12);
    x.addShape(1, 1, 1, 0, 9);
    x.addShape(1, 1, 1, 1, 0);
    for (int part = 0; part < 20; part++) {
      x.place(part < 12 ? 0 : 1, 0, part % 10, part / 10, 1);
    }
    check.refused("12: the grain", UNSUPPORTED, () -> x.place(0, 0, 0, 0, 2));
    reasons("12: first the grain", x, 1, 0, 2, 2);
    check.refused("12: the stock", UNSUPPORTED, () -> x.place(0, 0, 0, 0, 3));
    reasons("12: then the stock", x, 1, 0, 3, 12);
    check.refused("12: the parts", UNSUPPORTED, () -> x.place(1, 0, 0, 0, 0));
    reasons("12: then the parts", x, 1, 1, 4, 20);
    check.refused("12: no stock at all", UNSUPPORTED, () -> x.place(2, 0, 0, 9, 0));
    reasons("12: no stock at all", x, 1, 2, 3, 0);
    x.take(19);
    check.refused("12: the place", UNSUPPORTED, () -> x.place(1, 0, 0, 1, 0));
    reasons("12: last the place", x, 1, 1, 5, 0, 8, 10);
  }

  /** A shape, a sheet and a turn whose numbers differ, so that none can be told for another. */
  private static void promise12Numbers() {
    SheetNester x = new SheetNester();
    x.addSheet(5, 5, 0);
    x.addSheet(5, 5, 2);
    for (int shape = 0; shape < 4; shape++) {
      x.addShape(2, 1, 3, shape == 3 ? 2 : 0, shape == 2 ? 1 : 9);
    }
    check.refused("12: the grain", UNSUPPORTED, () -> x.place(3, 1, 0, 0, 1));
    reasons("12: shape 3 with the turn 1", x, 1, 3, 2, 1);
    check.equal("12: allowed on the other sheet", x.place(3, 0, 0, 0, 1), 0);
    check.equal("12: and with another turn", x.place(3, 1, 0, 0, 2), 1);
    check.equal("12: the stock of shape 2", x.place(2, 1, 0, 1, 1), 2);
    check.refused("12: no stock", UNSUPPORTED, () -> x.place(2, 0, 3, 3, 0));
    reasons("12: one part of shape 2", x, 1, 2, 3, 1);
    check.refused("12: beyond the sheet", UNSUPPORTED, () -> x.place(1, 1, 4, 1, 2));
    reasons("12: right of the sheet", x, 1, 1, 5, 1, 6, 1);
    check.refused("12: covered", UNSUPPORTED, () -> x.place(1, 1, 0, 1, 3));
    reasons("12: shape 1 on part 2", x, 1, 1, 5, 0, 8, 2);
    x.spoil(1, 24);
    check.refused("12: not usable", UNSUPPORTED, () -> x.place(0, 1, 3, 4, 0));
    reasons("12: shape 0 on cell 24", x, 1, 0, 5, 1, 7, 24);
  }

  private static void promise13() {
    SheetNester x = new SheetNester();
    x.addShape(3, 1, 7, 0, 3);
    check.refused("13: no sheet", ELEMENT, () -> x.nest(0));
    x.addSheet(2, 2, 0);
    check.refused("13: too small", ELEMENT, () -> x.nest(0));
    x.addSheet(4, 3, 0);
    check.equal("13: on the second sheet", x.nest(0), 0);
    check.equal("13: sheet", x.part(0, 1), 1);
    check.equal("13: a change", x.count(5), 4);
    row("13: first row, first column, unturned", x, 1, 0, 0, 0, -1);
    check.equal("13: the second", x.nest(0), 1);
    row("13: with three common cuts", x, 1, 0, 0, 0, -1, 1, 1, 1, -1);
    check.equal("13: the third", x.nest(0), 2);
    row("13: again three", x, 1, 0, 0, 0, -1, 1, 1, 1, -1, 2, 2, 2, -1);
    check.refused("13: no stock", ELEMENT, () -> x.nest(0));
    check.equal("13: refused ones are no changes", x.count(5), 6);
    check.refused("13: no such shape", INDEX, () -> x.nest(1));
    for (int odd : ODD) {
      check.refused("13: shape " + odd, INDEX, () -> x.nest(odd));
    }
    x.addShape(1, 1, 1, 0, 99);
    x.addSheet(10, 10, 0);
    for (int part = 3; part < 20; part++) {
      check.equal("13: small ones", x.nest(1), part);
    }
    check.equal("13: the first sheet first", x.part(3, 1), 0);
    check.equal("13: the last one on the last", x.part(19, 1), 2);
    check.refused("13: twenty parts", ELEMENT, () -> x.nest(1));
  }

  private static void promise13Choice() {
    SheetNester x = new SheetNester();
    x.addSheet(4, 4, 1);
    x.addShape(2, 1, 3, 2, 9);
    x.addShape(1, 1, 1, 0, 9);
    check.equal("13: turned for the grain", x.nest(0), 0);
    check.equal("13: its turn", x.part(0, 4), 1);
    x.take(0);
    x.place(1, 0, 3, 3, 0);
    check.equal("13: beside the other one", x.nest(1), 1);
    check.equal("13: the lowest row first", x.part(1, 5), 11);
    x.take(1);
    x.place(1, 0, 2, 2, 0);
    check.equal("13: in the corner", x.nest(1), 2);
    check.equal("13: two cuts, and the lower row", x.part(2, 5), 11);
    check.equal("13: then the column", x.nest(1), 3);
    check.equal("13: cell 14", x.part(3, 5), 14);
    x.spoil(0, 6);
    x.addSheet(3, 3, 0);
    x.addShape(4, 4, 0xffff, 0, 1);
    check.refused("13: nowhere", ELEMENT, () -> x.nest(2));
    x.addShape(3, 3, RING, 0, 2);
    check.equal("13: a free sheet", x.nest(3), 4);
    check.equal("13: the number of the sheet", x.part(4, 1), 1);
  }

  private static void promise14() {
    SheetNester x = new SheetNester();
    check.equal("14: nothing", x.nestAll(), 0);
    check.equal("14: a change all the same", x.count(5), 1);
    x.addSheet(4, 3, 0);
    x.addShape(1, 1, 1, 0, 2);
    x.addShape(3, 3, RING, 0, 9);
    x.addShape(2, 1, 3, 0, 1);
    check.equal("14: four parts", x.nestAll(), 4);
    int[] due = {1, 2, 0, 0};
    for (int part = 0; part < due.length; part++) {
      check.equal("14: shape of part " + part, x.part(part, 0), due[part]);
    }
    row("14: all of them", x, 0, 0, 0, 0, 1, 0, 2, 0, 1, 0, 0, 0, 3);
    check.equal("14: one change", x.count(5), 6);
    check.equal("14: undone at once", x.undo(), 5);
    check.equal("14: none remains", x.count(2), 0);
    x.addSheet(10, 10, 0);
    x.addShape(1, 1, 1, 0, 99);
    check.equal("14: twenty at most", x.nestAll(), 20);
    check.equal("14: no more", x.nestAll(), 0);
  }

  private static void promise14Order() {
    SheetNester x = new SheetNester();
    x.addSheet(4, 2, 0);
    x.addShape(2, 2, 15, 0, 1);
    x.addShape(2, 1, 3, 0, 2);
    x.addShape(4, 1, 15, 0, 2);
    check.equal("14: of several, the lowest one", x.nestAll(), 3);
    check.equal("14: first the square", x.part(0, 0), 0);
    check.equal("14: the long one finds no room", x.part(1, 0), 1);
    check.equal("14: nor again", x.shape(2, 4), 2);
    check.equal("14: all is covered", x.sheet(0, 3), 0);
  }
}
