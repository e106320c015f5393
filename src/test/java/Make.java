/** Nesters, shapes and texts for the tests of boundaries. */
final class Make {
  /** Numbers that are never one of a sheet, shape, part, cell, turn or what. */
  static final int[] FAR = {-1, -2, Integer.MIN_VALUE, Integer.MIN_VALUE + 1, Integer.MAX_VALUE, Integer.MAX_VALUE - 1};

  private Make() {}

  /** A nester with a sheet without grain, whose cells shown as # are not usable. */
  static SheetNester sheet(String... rows) {
    SheetNester x = new SheetNester();
    addSheet(x, 0, rows);
    return x;
  }

  static int addSheet(SheetNester x, int grain, String... rows) {
    int sheet = x.addSheet(rows[0].length(), rows.length, grain);
    String cells = String.join("", rows);
    for (int cell = 0; cell < cells.length(); cell++) {
      if (cells.charAt(cell) == '#') {
        x.spoil(sheet, cell);
      }
    }
    return sheet;
  }

  /** The places of a shape that is shown in rows of # and dots. */
  static int covered(String... rows) {
    int covered = 0;
    for (int r = 0; r < rows.length; r++) {
      for (int c = 0; c < rows[r].length(); c++) {
        if (rows[r].charAt(c) == '#') {
          covered |= 1 << (c + rows[0].length() * r);
        }
      }
    }
    return covered;
  }

  static int addShape(SheetNester x, int rule, int stock, String... rows) {
    return x.addShape(rows[0].length(), rows.length, covered(rows), rule, stock);
  }

  /** A shape of one place, which can be put anywhere. */
  static int addDot(SheetNester x, int stock) {
    return x.addShape(1, 1, 1, 0, stock);
  }

  static void feed(SheetNester x, String text) {
    for (int i = 0; i < text.length(); i++) {
      x.feed(text.charAt(i));
    }
  }

  static int read(SheetNester x, String text) {
    feed(x, text);
    return x.read();
  }

  /** Two sheets, three shapes, a part, three changes, reasons and faults that are kept, and two signs in the input. */
  static SheetNester busy() {
    SheetNester x = new SheetNester();
    read(x, "s3x2;d0:5;p##/#.:1*5;p#:0*2");
    x.place(0, 0, 0, 0, 0);
    try {
      x.place(1, 0, 0, 0, 0);
    } catch (UnsupportedOperationException e) {
      // The reasons are what is wanted.
    }
    read(x, "s2x2;p#:0*1");
    read(x, "d0:5");
    feed(x, "s2");
    return x;
  }
}
