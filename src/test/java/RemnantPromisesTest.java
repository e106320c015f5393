import java.util.NoSuchElementException;

/** Promises 15 to 17: remnants and ways. */
final class RemnantPromisesTest {
  private static final Class<IllegalArgumentException> ARGUMENT = IllegalArgumentException.class;
  private static final Class<IllegalStateException> STATE = IllegalStateException.class;
  private static final Class<IndexOutOfBoundsException> INDEX = IndexOutOfBoundsException.class;
  private static final Class<UnsupportedOperationException> UNSUPPORTED = UnsupportedOperationException.class;
  private static final Class<NoSuchElementException> ELEMENT = NoSuchElementException.class;
  private static final int[] ODD = {-2, Integer.MIN_VALUE, Integer.MAX_VALUE};

  private static final Check check = new Check("RemnantPromisesTest");

  public static void main(String[] args) {
    promise15();
    promise15Rectangles();
    promise16();
    promise16Small();
    promise17();
    promise17Within();
    promise17Shortest();
    promise17Many();
    check.end();
  }

  /** A sheet with the cells free that the rows show with dots. */
  private static SheetNester sheetOf(String... rows) {
    SheetNester x = new SheetNester();
    x.addSheet(rows[0].length(), rows.length, 2);
    String cells = String.join("", rows);
    for (int cell = 0; cell < cells.length(); cell++) {
      if (cells.charAt(cell) == '#') {
        x.spoil(0, cell);
      }
    }
    return x;
  }

  private static void remnant(SheetNester x, int remnant, int... due) {
    for (int what = 0; what < due.length; what++) {
      check.equal("15: remnant(0, " + remnant + ", " + what + ")", x.remnant(0, remnant, what), due[what]);
    }
  }

  private static void promise15() {
    SheetNester x = sheetOf(
        "#..#.",
        ".#..#",
        ".##..",
        "...##");
    remnant(x, 0, 6, 1, 4, 3, 2);
    remnant(x, 1, 1, 4, 1, 1, 1);
    remnant(x, 2, 5, 5, 3, 3, 3);
    check.refused("15: no such remnant", INDEX, () -> x.remnant(0, 3, 0));
    check.refused("15: no such sheet", INDEX, () -> x.remnant(1, 0, 0));
    check.refused("15: what 5", ARGUMENT, () -> x.remnant(0, 0, 5));
    check.refused("15: what -1", ARGUMENT, () -> x.remnant(0, 0, -1));
    check.refused("15: remnant -1", INDEX, () -> x.remnant(0, -1, 0));
    check.refused("15: the remnant comes first", INDEX, () -> x.remnant(0, 3, 5));
    for (int odd : ODD) {
      check.refused("15: sheet " + odd, INDEX, () -> x.remnant(odd, 0, 0));
      check.refused("15: remnant " + odd, INDEX, () -> x.remnant(0, odd, 0));
      check.refused("15: what " + odd, ARGUMENT, () -> x.remnant(0, 0, odd));
    }
    SheetNester y = sheetOf("##", "##");
    check.refused("15: none at all", INDEX, () -> y.remnant(0, 0, 0));
  }

  private static void promise15Rectangles() {
    remnant(sheetOf(".....", ".....", "....."), 0, 15, 0, 5, 3, 15);
    remnant(sheetOf("#....", ".....", "...#.", "...#."), 0, 17, 1, 5, 4, 9);
    remnant(sheetOf("..#..", ".....", "..#.."), 0, 13, 0, 5, 3, 6);
    remnant(sheetOf("..##", ".#..", "...."), 0, 9, 0, 4, 3, 4);
    SheetNester x = sheetOf("....", "....");
    x.addShape(2, 1, 3, 0, 9);
    x.place(0, 0, 1, 0, 1);
    remnant(x, 0, 2, 0, 1, 2, 2);
    remnant(x, 1, 4, 2, 2, 2, 4);
  }

  private static void promise16() {
    SheetNester x = sheetOf(
        "#..#.",
        ".#..#",
        ".##..",
        "...##");
    int changes = x.count(5);
    check.equal("16: the new sheet", x.keep(0, 2), 1);
    check.equal("16: its columns", x.sheet(1, 0), 3);
    check.equal("16: its rows", x.sheet(1, 1), 3);
    check.equal("16: its grain", x.sheet(1, 2), 2);
    int[] due = {-1, -2, -2, -1, -2, -2, -1, -1, -1};
    for (int cell = 0; cell < due.length; cell++) {
      check.equal("16: cell " + cell, x.cell(1, cell), due[cell]);
    }
    int[] left = {-2, -1, -1, -2, -1, -2, -2, -1, -1, -2, -2, -2, -2, -1, -1, -2, -2, -2, -2, -2};
    for (int cell = 0; cell < left.length; cell++) {
      check.equal("16: what is left, cell " + cell, x.cell(0, cell), left[cell]);
    }
    check.equal("16: eight changes", changes, 8);
    check.equal("16: undone", x.undo(), 7);
    check.equal("16: no new sheet", x.count(0), 1);
    check.equal("16: free as before", x.cell(0, 5), -1);
    x.keep(0, 0);
    check.equal("16: others than the remnant are not usable", x.sheet(1, 3), 6);
    check.equal("16: of twelve", x.sheet(1, 4), 6);
    check.refused("16: no such remnant", INDEX, () -> x.keep(0, 2));
    check.refused("16: no such sheet", INDEX, () -> x.keep(2, 0));
    for (int odd : new int[] {-1, Integer.MIN_VALUE, Integer.MAX_VALUE}) {
      check.refused("16: sheet " + odd, INDEX, () -> x.keep(odd, 0));
      check.refused("16: remnant " + odd, INDEX, () -> x.keep(0, odd));
    }
    for (int sheet = 2; sheet < 6; sheet++) {
      x.addSheet(2, 2, 0);
    }
    check.refused("16: six sheets", STATE, () -> x.keep(0, 0));
    check.refused("16: the remnant comes first", INDEX, () -> x.keep(0, 2));
    check.equal("16: still free", x.cell(0, 4), -1);
  }

  private static void promise16Small() {
    SheetNester x = sheetOf(
        "###.#",
        "#.##.",
        "#####",
        "##..#");
    check.equal("16: a cell alone", x.keep(0, 0), 1);
    check.equal("16: a column in a row", x.keep(0, 2), 2);
    int[] alone = {-1, -2, -2, -2};
    int[] inRow = {-1, -1, -2, -2};
    for (int cell = 0; cell < 4; cell++) {
      check.equal("16: alone, cell " + cell, x.cell(1, cell), alone[cell]);
      check.equal("16: in a row, cell " + cell, x.cell(2, cell), inRow[cell]);
    }
    check.equal("16: two columns", x.sheet(1, 0), 2);
    check.equal("16: two rows", x.sheet(2, 1), 2);
    SheetNester y = sheetOf("#.#", "#.#", "#.#");
    y.keep(0, 0);
    int[] inColumn = {-1, -2, -1, -2, -1, -2};
    for (int cell = 0; cell < inColumn.length; cell++) {
      check.equal("16: in a column, cell " + cell, y.cell(1, cell), inColumn[cell]);
    }
    y.addShape(1, 3, 7, 0, 1);
    check.equal("16: a part on it", y.nest(0), 0);
    check.equal("16: is on the new sheet", y.part(0, 1), 1);
  }

  private static SheetNester dots(int columns, int rows, int... places) {
    SheetNester x = new SheetNester();
    x.addSheet(2, 2, 0);
    x.addSheet(columns, rows, 0);
    x.addShape(1, 1, 1, 0, 99);
    x.place(0, 0, 1, 1, 0);
    for (int place : places) {
      x.place(0, 1, place % columns, place / columns, 0);
    }
    return x;
  }

  private static void way(String what, SheetNester x, int way, int length, int... due) {
    check.equal("17: " + what + ", the length", x.way(1, way, -1), length);
    for (int i = 0; i < due.length; i++) {
      check.equal("17: " + what + ", " + i, x.way(1, way, i), due[i]);
    }
    check.refused("17: " + what + ", behind the end", ELEMENT, () -> x.way(1, way, due.length));
  }

  private static void promise17() {
    SheetNester x = dots(10, 2, 9, 4, 3, 15);
    way("the nearest", x, 0, 11, 3, 2, 4, 1);
    way("the shortest", x, 1, 11, 3, 2, 4, 1);
    SheetNester y = dots(5, 5);
    way("no parts", y, 0, 0);
    way("no parts", y, 1, 0);
    SheetNester z = dots(5, 5, 1, 5, 0);
    way("of several the lowest", z, 0, 3, 3, 1, 2);
    way("of several the first", z, 1, 3, 1, 3, 2);
    check.equal("17: the other sheet", z.way(0, 1, 0), 0);
    check.equal("17: its length", z.way(0, 0, -1), 2);
    check.refused("17: no such sheet", INDEX, () -> z.way(2, 0, 0));
    check.refused("17: no such way", ARGUMENT, () -> z.way(1, 2, 0));
    check.refused("17: nor this", ARGUMENT, () -> z.way(1, -1, 0));
    check.refused("17: the sheet comes first", INDEX, () -> z.way(2, 2, 9));
    check.refused("17: the way comes before i", ARGUMENT, () -> z.way(1, 2, 9));
    for (int odd : ODD) {
      check.refused("17: sheet " + odd, INDEX, () -> z.way(odd, 0, 0));
      check.refused("17: way " + odd, ARGUMENT, () -> z.way(1, odd, 0));
      check.refused("17: i " + odd, ELEMENT, () -> z.way(1, 0, odd));
    }
  }

  private static void promise17Within() {
    SheetNester x = new SheetNester();
    x.addSheet(2, 2, 0);
    x.addSheet(6, 4, 0);
    x.addShape(4, 4, 0xf99f, 0, 1);
    x.addShape(1, 1, 1, 0, 9);
    x.place(0, 1, 0, 0, 0);
    x.place(1, 1, 2, 2, 0);
    x.place(1, 1, 5, 0, 0);
    x.place(1, 1, 1, 1, 0);
    way("the ones within it first", x, 0, 13, 3, 1, 0, 2);
    way("and of several such the first", x, 1, 13, 1, 3, 0, 2);
    x.take(1);
    way("one alone", x, 1, 9, 2, 0, 1);
    SheetNester y = new SheetNester();
    y.addSheet(5, 5, 0);
    y.addShape(4, 4, 0xf99f, 0, 1);
    y.addShape(1, 1, 1, 0, 9);
    y.place(1, 0, 2, 2, 0);
    y.place(0, 0, 0, 0, 0);
    for (int way = 0; way < 2; way++) {
      check.equal("17: the lowest number within, way " + way, y.way(0, way, 0), 0);
      check.equal("17: then the ring, way " + way, y.way(0, way, 1), 1);
      check.equal("17: there and back, way " + way, y.way(0, way, -1), 8);
    }
  }

  private static void promise17Shortest() {
    SheetNester x = dots(10, 2, 2, 13, 9, 10, 5);
    way("the nearest", x, 0, 13, 4, 1, 2, 5, 3);
    way("as short as any", x, 1, 13, 4, 1, 2, 5, 3);
    SheetNester y = dots(10, 10, 3, 40, 9);
    way("the nearest goes astray", y, 0, 22, 1, 3, 2);
    way("the shortest begins farther away", y, 1, 17, 2, 1, 3);
  }

  private static void promise17Many() {
    int[] nine = {99, 90, 9, 0, 55, 44, 54, 45, 11};
    SheetNester x = dots(10, 10, nine);
    check.equal("17: nine parts", x.sheet(1, 6), 9);
    way("nine in a row", dots(10, 2, 5, 3, 9, 1, 7, 2, 8, 4, 6), 1, 9, 4, 6, 2, 8, 1, 9, 5, 7, 3);
    x.place(0, 1, 7, 7, 0);
    check.refused("17: ten have no shortest way", UNSUPPORTED, () -> x.way(1, 1, 0));
    check.refused("17: which comes before i", UNSUPPORTED, () -> x.way(1, 1, 99));
    check.equal("17: but a nearest one", x.way(1, 0, 0), 4);
    for (int part = 11; part < 20; part++) {
      x.place(0, 1, part - 11, 3, 0);
    }
    check.equal("17: with all parts", x.count(2), 20);
    boolean[] isSeen = new boolean[20];
    for (int i = 0; i < 19; i++) {
      isSeen[x.way(1, 0, i)] = true;
    }
    int seen = 0;
    for (boolean is : isSeen) {
      seen += is ? 1 : 0;
    }
    check.equal("17: each one once", seen, 19);
    check.refused("17: and no more", ELEMENT, () -> x.way(1, 0, 19));
  }
}
