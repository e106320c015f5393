/** The boundaries that the promises 15 to 17 name: remnants and ways. */
final class RemnantBoundaries {
  private static final int[] FAR = Make.FAR;
  private static final String[] FRAME = {"####", "#..#", "#..#", "####"};
  private static final String[] PATCHES = {"#..#.", ".#..#", ".##..", "...##"};

  private RemnantBoundaries() {}

  static void test(Sentences s) {
    remnantRefused(s);
    remnantNumbers(s);
    keepRefused(s);
    keepSize(s);
    keepCells(s);
    wayRefused(s);
    wayMany(s);
    wayLength(s);
    wayOrder(s);
  }

  private static void remnantRefused(Sentences s) {
    s.of(15, "Throws `IndexOutOfBoundsException` if there is no such sheet or remnant", due -> {
      SheetNester x = Make.busy();
      due.equal("the last remnant", x.remnant(0, 1, 1), 4);
      for (int what = 0; what < 5; what++) {
        int about = what;
        due.refusedQuietly("the sheet behind the last, " + what, x, Check.INDEX, () -> x.remnant(2, 0, about));
        due.refusedQuietly("the remnant behind the last, " + what, x, Check.INDEX, () -> x.remnant(0, 2, about));
        for (int far : FAR) {
          due.refusedQuietly("sheet " + far, x, Check.INDEX, () -> x.remnant(far, 0, about));
          due.refusedQuietly("remnant " + far, x, Check.INDEX, () -> x.remnant(0, far, about));
        }
      }
      x.addSheet(10, 10, 0);
      x.undo();
      due.refusedQuietly("a sheet that was undone", x, Check.INDEX, () -> x.remnant(2, 0, 0));
      SheetNester none = Make.sheet("##", "##");
      due.refusedQuietly("no usable cell", none, Check.INDEX, () -> none.remnant(0, 0, 0));
      SheetNester full = Make.sheet("..", "..");
      Make.addShape(full, 0, 1, "##", "##");
      full.nest(0);
      due.refusedQuietly("all is covered", full, Check.INDEX, () -> full.remnant(0, 0, 0));
      due.refusedQuietly("all is covered, remnant -1", full, Check.INDEX, () -> full.remnant(0, -1, 0));
    });
    s.of(15, "Throws `IllegalArgumentException` if what is not valid", due -> {
      SheetNester x = Make.busy();
      due.refusedQuietly("5", x, Check.ARGUMENT, () -> x.remnant(0, 0, 5));
      for (int far : FAR) {
        due.refusedQuietly("" + far, x, Check.ARGUMENT, () -> x.remnant(0, 0, far));
      }
      due.equal("4", x.remnant(0, 0, 4), 1);
    });
    s.of(15, "If several exceptions apply, the one that is documented first is thrown.", due -> {
      SheetNester x = Make.busy();
      due.refusedQuietly("no such sheet, nor what", x, Check.INDEX, () -> x.remnant(2, 0, 5));
      due.refusedQuietly("no such remnant, nor what", x, Check.INDEX, () -> x.remnant(0, 2, 5));
      due.refusedQuietly("neither is", x, Check.INDEX, () -> x.remnant(-1, -1, -1));
    });
  }

  private static void remnants(Check due, String what, SheetNester x, int[]... numbers) {
    due.equal(what + ", how many", x.sheet(0, 9), numbers.length);
    for (int remnant = 0; remnant < numbers.length; remnant++) {
      for (int about = 0; about < 5; about++) {
        String name = what + ", remnant(0, " + remnant + ", " + about + ")";
        due.equal(name, x.remnant(0, remnant, about), numbers[remnant][about]);
      }
    }
  }

  private static void remnantNumbers(Sentences s) {
    s.of(15, "numbered from 0 in ascending order of their lowest cells", due -> {
      remnants(due, "three", Make.sheet(PATCHES),
          new int[] {6, 1, 4, 3, 2}, new int[] {1, 4, 1, 1, 1}, new int[] {5, 5, 3, 3, 3});
      remnants(due, "the later one begins farther left", Make.sheet("#.#", "##.", "..."),
          new int[] {1, 1, 1, 1, 1}, new int[] {4, 5, 3, 2, 3});
    });
    s.of(15, "connected by neighbors", due -> {
      int[] one = {1, 0, 1, 1, 1};
      remnants(due, "corners", Make.sheet(".#", "#."), one, new int[] {1, 3, 1, 1, 1});
      remnants(due, "round the end of a row", Make.sheet("##.", ".##"),
          new int[] {1, 2, 1, 1, 1}, new int[] {1, 3, 1, 1, 1});
      remnants(due, "round the ends of all rows", Make.sheet(".#.", ".#.", ".#."),
          new int[] {3, 0, 1, 3, 3}, new int[] {3, 2, 1, 3, 3});
      remnants(due, "down and up again", Make.sheet(".#.", "..."), new int[] {5, 0, 3, 2, 3});
      remnants(due, "a long way", Make.sheet("...", "##.", "...", ".##", "..."), new int[] {11, 0, 3, 5, 3});
    });
    s.of(15, "0 the number of its cells; 1 its lowest cell; 2 the columns, 3 the rows that it reaches over", due -> {
      String free = "..........";
      remnants(due, "the greatest sheet", Make.sheet(free, free, free, free, free, free, free, free, free, free),
          new int[] {100, 0, 10, 10, 100});
      remnants(due, "the smallest sheet", Make.sheet("..", ".."), new int[] {4, 0, 2, 2, 4});
      remnants(due, "the last cell alone", Make.sheet("##", "#."), new int[] {1, 3, 1, 1, 1});
      remnants(due, "the first cell alone", Make.sheet(".#", "##"), new int[] {1, 0, 1, 1, 1});
      remnants(due, "reaching over all edges", Make.sheet("#.#", "...", "#.#"), new int[] {5, 1, 3, 3, 3});
    });
    s.of(15, "4 the number of cells of the greatest rectangle within it", due -> {
      due.equal("a line along a row", Make.sheet("..........", "##########").remnant(0, 0, 4), 10);
      due.equal("a line along the last column", Make.sheet("#.", "#.", "#.", "#.").remnant(0, 0, 4), 4);
      due.equal("in the last corner", Make.sheet("#...", "..##", "##..", "##..").remnant(0, 1, 4), 4);
      due.equal("broad rather than square", Make.sheet("....", "....", "..##", "..##").remnant(0, 0, 4), 8);
      due.equal("a corner alone is missing", Make.sheet("...", "...", "..#").remnant(0, 0, 4), 6);
      due.equal("a hole", Make.sheet("...", ".#.", "...").remnant(0, 0, 4), 3);
      due.equal("not beyond the end of a row", Make.sheet("#..", "..#").remnant(0, 0, 4), 2);
      SheetNester x = Make.sheet("....", "....");
      Make.addDot(x, 1);
      x.place(0, 0, 0, 0, 0);
      due.equal("not on a part", x.remnant(0, 0, 4), 6);
    });
  }

  private static void keepRefused(Sentences s) {
    s.of(16, "Throws `IndexOutOfBoundsException` if there is no such sheet or remnant", due -> {
      SheetNester x = Make.busy();
      due.refusedQuietly("the sheet behind the last", x, Check.INDEX, () -> x.keep(2, 0));
      due.refusedQuietly("the remnant behind the last", x, Check.INDEX, () -> x.keep(0, 2));
      for (int far : FAR) {
        due.refusedQuietly("sheet " + far, x, Check.INDEX, () -> x.keep(far, 0));
        due.refusedQuietly("remnant " + far, x, Check.INDEX, () -> x.keep(0, far));
      }
      x.addSheet(10, 10, 0);
      x.undo();
      due.refusedQuietly("a sheet that was undone", x, Check.INDEX, () -> x.keep(2, 0));
      due.equal("the last one", x.keep(0, 1), 2);
      due.equal("the only one", x.keep(1, 0), 3);
      due.refusedQuietly("no free cell is left", x, Check.INDEX, () -> x.keep(1, 0));
    });
    s.of(16, "Throws `IllegalStateException` if there are 6 sheets", due -> {
      SheetNester x = Make.busy();
      for (int sheet = 2; sheet < 6; sheet++) {
        due.equal("the new sheet", x.keep(sheet - 1, 0), sheet);
      }
      due.refusedQuietly("a seventh", x, Check.STATE, () -> x.keep(5, 0));
      x.undo();
      due.equal("one undone makes room", x.keep(0, 0), 5);
      due.refusedQuietly("again", x, Check.STATE, () -> x.keep(0, 0));
    });
    s.of(16, "If several exceptions apply, the one that is documented first is thrown.", due -> {
      SheetNester x = new SheetNester();
      Make.read(x, "s2x2;s2x2;s2x2;s2x2;s2x2;s2x2");
      due.refusedQuietly("six sheets, and no such remnant", x, Check.INDEX, () -> x.keep(0, 1));
      due.refusedQuietly("six sheets, and no such sheet", x, Check.INDEX, () -> x.keep(6, 0));
      due.refusedQuietly("six sheets, and the remnant -1", x, Check.INDEX, () -> x.keep(0, -1));
    });
  }

  private static void kept(Check due, String what, SheetNester x, int remnant, int columns, int rows, String cells) {
    int sheet = x.keep(0, remnant);
    due.equal(what + ", the columns", x.sheet(sheet, 0), columns);
    due.equal(what + ", the rows", x.sheet(sheet, 1), rows);
    due.equal(what + ", the cells", View.cells(x, sheet), cells);
  }

  private static void keepSize(Sentences s) {
    s.of(16, "as many columns and rows as it reaches over, but at least 2 of each, beginning with its first column and "
        + "its first row", due -> {
      kept(due, "the whole of the smallest", Make.sheet("..", ".."), 0, 2, 2, " -1 -1 -1 -1");
      String[] free = {"..........", "..........", "..........", "..........", "..........",
          "..........", "..........", "..........", "..........", ".........."};
      kept(due, "the whole of the greatest", Make.sheet(free), 0, 10, 10, " -1".repeat(100));
      kept(due, "in the last corner", Make.sheet("####", "####", "##..", "##.#"), 0, 2, 2, " -1 -1 -1 -2");
      kept(due, "one that begins right of its first row", Make.sheet("##.", "#..", "..#"), 0, 3, 3,
          " -2 -2 -1 -2 -1 -1 -1 -1 -2");
    });
    s.of(16, "If there are fewer than 2 columns or rows, the new sheet has a column behind it, or a row below it, that is "
        + "not usable.", due -> {
      kept(due, "a cell at the first corner", Make.sheet(".#", "##"), 0, 2, 2, " -1 -2 -2 -2");
      kept(due, "a cell at the last corner", Make.sheet("##", "#."), 0, 2, 2, " -1 -2 -2 -2");
      kept(due, "a cell inside", Make.sheet("###", "#.#", "###"), 0, 2, 2, " -1 -2 -2 -2");
      kept(due, "a row", Make.sheet("###", "...", "###"), 0, 3, 2, " -1 -1 -1 -2 -2 -2");
      kept(due, "the last row", Make.sheet("###", "..."), 0, 3, 2, " -1 -1 -1 -2 -2 -2");
      kept(due, "a column", Make.sheet("#.#", "#.#", "#.#"), 0, 2, 3, " -1 -2 -1 -2 -1 -2");
      kept(due, "the last column", Make.sheet("#.", "#.", "#."), 0, 2, 3, " -1 -2 -1 -2 -1 -2");
      kept(due, "a column above another remnant", Make.sheet(".#.", ".#.", "..#"), 1, 2, 2, " -1 -2 -1 -2");
    });
    s.of(16, "it becomes a new sheet, the last one, with the same grain", due -> {
      for (int grain = 0; grain < 3; grain++) {
        SheetNester x = new SheetNester();
        x.addSheet(2, 2, 2 - grain);
        x.addSheet(3, 2, grain);
        x.addSheet(2, 2, (grain + 1) % 3);
        due.equal("the number", x.keep(1, 0), 3);
        due.equal("the grain " + grain, x.sheet(3, 2), grain);
        due.equal("the columns", x.sheet(3, 0), 3);
      }
    });
  }

  private static void keepCells(Sentences s) {
    s.of(16, "A new sheet has only the cells of its remnant as usable ones, and only these are lost for the old "
        + "one.", due -> {
      SheetNester x = Make.sheet(PATCHES);
      Make.addDot(x, 1);
      x.place(0, 0, 4, 0, 0);
      kept(due, "with a part in its field", x, 0, 4, 3, " -1 -1 -2 -2 -2 -1 -1 -2 -2 -2 -1 -1");
      due.equal("the old one", View.cells(x, 0), " -2 -2 -2 -2 0 -1 -2 -2 -2 -2 -1 -2 -2 -2 -2 -1 -1 -1 -2 -2");
      SheetNester y = Make.sheet(PATCHES);
      kept(due, "with another remnant in its field", y, 2, 3, 3, " -1 -2 -2 -1 -2 -2 -1 -1 -1");
      due.equal("what is left", View.cells(y, 0), " -2 -1 -1 -2 -1 -2 -2 -1 -1 -2 -2 -2 -2 -1 -1 -2 -2 -2 -2 -2");
    });
    s.of(16, "in its old sheet, they are not usable any more", due -> {
      SheetNester x = Make.sheet("..", "..");
      x.keep(0, 0);
      due.equal("the whole sheet", View.cells(x, 0), " -2 -2 -2 -2");
      due.equal("no remnant is left", x.sheet(0, 9), 0);
      SheetNester y = Make.sheet(".#.", "##.", "...");
      y.keep(0, 0);
      due.equal("the first cell", View.cells(y, 0), " -2 -2 -1 -2 -2 -1 -1 -1 -1");
      y.keep(0, 0);
      due.equal("up to the last cell", View.cells(y, 0), " -2".repeat(9));
    });
  }

  /** Dots on the sheet 1; on the sheet 0 there is a part 0. */
  private static SheetNester dots(int columns, int rows, int... cells) {
    SheetNester x = new SheetNester();
    x.addSheet(10, 2, 0);
    x.addSheet(columns, rows, 0);
    Make.addDot(x, 99);
    x.place(0, 0, 1, 1, 0);
    for (int cell : cells) {
      x.place(0, 1, cell % columns, cell / columns, 0);
    }
    return x;
  }

  private static void way(Check due, String what, SheetNester x, int way, int length, int... order) {
    due.equal(what + ", the length", x.way(1, way, -1), length);
    for (int i = 0; i < order.length; i++) {
      due.equal(what + ", the place " + i, x.way(1, way, i), order[i]);
    }
    due.refusedQuietly(what + ", behind the end", x, Check.ELEMENT, () -> x.way(1, way, order.length));
  }

  private static void wayRefused(Sentences s) {
    s.of(17, "Throws `IndexOutOfBoundsException` if there is no such sheet", due -> {
      SheetNester x = Make.busy();
      for (int way = 0; way < 2; way++) {
        int which = way;
        due.refusedQuietly("the one behind the last", x, Check.INDEX, () -> x.way(2, which, -1));
        for (int far : FAR) {
          due.refusedQuietly("" + far, x, Check.INDEX, () -> x.way(far, which, -1));
        }
      }
    });
    s.of(17, "Throws `IllegalArgumentException` if there is no such way", due -> {
      SheetNester x = Make.busy();
      due.refusedQuietly("2", x, Check.ARGUMENT, () -> x.way(0, 2, 0));
      for (int far : FAR) {
        due.refusedQuietly("" + far, x, Check.ARGUMENT, () -> x.way(0, far, -1));
      }
      due.equal("1", x.way(0, 1, 0), 0);
    });
    s.of(17, "Throws `NoSuchElementException` if i is neither -1 nor such a place", due -> {
      SheetNester x = dots(5, 5, 7, 11);
      SheetNester none = dots(5, 5);
      for (int way = 0; way < 2; way++) {
        int which = way;
        due.equal("the first, way " + way, x.way(1, way, 0), 1);
        due.equal("the last, way " + way, x.way(1, way, 1), 2);
        due.refusedQuietly("2, way " + way, x, Check.ELEMENT, () -> x.way(1, which, 2));
        due.refusedQuietly("-2, way " + way, x, Check.ELEMENT, () -> x.way(1, which, -2));
        due.refusedQuietly("least, way " + way, x, Check.ELEMENT, () -> x.way(1, which, Integer.MIN_VALUE));
        due.refusedQuietly("greatest, way " + way, x, Check.ELEMENT, () -> x.way(1, which, Integer.MAX_VALUE));
        due.refusedQuietly("no parts, way " + way, none, Check.ELEMENT, () -> none.way(1, which, 0));
      }
    });
    s.of(17, "If several exceptions apply, the one that is documented first is thrown.", due -> {
      SheetNester x = dots(10, 2, 0, 1, 2, 3, 4, 5, 6, 7, 8, 9);
      due.refusedQuietly("no such sheet, way nor place", x, Check.INDEX, () -> x.way(2, 2, 99));
      due.refusedQuietly("no such way nor place", x, Check.ARGUMENT, () -> x.way(1, 2, 99));
      due.refusedQuietly("no such way, -2", x, Check.ARGUMENT, () -> x.way(0, -1, -2));
      due.refusedQuietly("ten parts, and no such place", x, Check.UNSUPPORTED, () -> x.way(1, 1, 10));
      due.refusedQuietly("ten parts, and -2", x, Check.UNSUPPORTED, () -> x.way(1, 1, -2));
    });
  }

  private static void wayMany(Sentences s) {
    s.of(17, "Throws `UnsupportedOperationException` if the way is 1 and the sheet has more than 9 parts", due -> {
      SheetNester x = dots(10, 2, 5, 3, 9, 1, 7, 2, 8, 4, 6);
      way(due, "nine parts", x, 1, 9, 4, 6, 2, 8, 1, 9, 5, 7, 3);
      for (int column = 0; column < 9; column++) {
        x.place(0, 0, column, 0, 0);
      }
      due.equal("ten on the other sheet", x.sheet(0, 6), 10);
      way(due, "nine parts of nineteen", x, 1, 9, 4, 6, 2, 8, 1, 9, 5, 7, 3);
      due.refusedQuietly("ten parts, the length", x, Check.UNSUPPORTED, () -> x.way(0, 1, -1));
      due.refusedQuietly("ten parts, a place", x, Check.UNSUPPORTED, () -> x.way(0, 1, 0));
      due.equal("ten parts, the way 0", x.way(0, 0, 9), 18);
      x.place(0, 1, 0, 0, 0);
      due.refusedQuietly("a tenth part", x, Check.UNSUPPORTED, () -> x.way(1, 1, -1));
      x.take(0);
      due.equal("nine where there were ten", x.way(0, 1, -1), 8);
    });
    s.of(17, "Way 0 goes, each time, to the nearest part", due -> {
      SheetNester x = dots(10, 2);
      for (int column = 9; column >= 0; column--) {
        x.place(0, 1, column, 1, 0);
      }
      for (int column = 1; column < 10; column++) {
        x.place(0, 1, column, 0, 0);
      }
      due.equal("all parts but one", x.sheet(1, 6), 19);
      way(due, "along one row and back along the other", x, 0, 19,
          10, 9, 8, 7, 6, 5, 4, 3, 2, 1, 19, 18, 17, 16, 15, 14, 13, 12, 11);
    });
  }

  private static void wayLength(Sentences s) {
    s.of(17, "A way through a sheet begins at cell 0 and goes to all parts of the sheet", due -> {
      for (int way = 0; way < 2; way++) {
        way(due, "no parts, way " + way, dots(5, 5), way, 0);
        way(due, "at the cell 0, way " + way, dots(5, 5, 0), way, 0, 1);
        way(due, "beside it, way " + way, dots(5, 5, 1), way, 1, 1);
        way(due, "at the cell 99, way " + way, dots(10, 10, 99), way, 18, 1);
      }
    });
    s.of(17, "A part is pierced at its lowest cell.", due -> {
      for (int way = 0; way < 2; way++) {
        SheetNester x = dots(5, 5);
        x.place(Make.addShape(x, 0, 2, "..#", "###"), 1, 0, 0, 0);
        way(due, "not at its first column, way " + way, x, way, 2, 1);
        x.place(1, 1, 2, 2, 2);
        way(due, "at its first column, way " + way, x, way, 4, 1, 2);
        x.take(1);
        way(due, "the later one alone, way " + way, x, way, 4, 1);
      }
    });
    s.of(17, "Ways are not closed: the length ends at the last part.", due -> {
      for (int way = 0; way < 2; way++) {
        way(due, "out along a row, way " + way, dots(10, 2, 9, 0), way, 9, 2, 1);
        way(due, "out to a corner, way " + way, dots(10, 10, 99, 11), way, 18, 2, 1);
      }
    });
    s.of(17, "The distance of two cells is the number of columns plus the number of rows between them.", due -> {
      way(due, "a row beyond the end of the other", dots(5, 5, 4, 5), 1, 6, 2, 1);
      way(due, "from the lower left to the upper right", dots(10, 10, 90, 9), 1, 27, 1, 2);
    });
  }

  private static void wayOrder(Sentences s) {
    s.of(17, "of several the one with the lowest number", due -> {
      way(due, "right before below", dots(3, 3, 1, 3), 0, 3, 1, 2);
      way(due, "below before right", dots(3, 3, 3, 1), 0, 3, 1, 2);
      way(due, "as far to the one as to the other", dots(5, 5, 10, 2, 0), 0, 6, 3, 1, 2);
    });
    s.of(17, "of several the one that comes first as a row of numbers of parts", due -> {
      way(due, "two orders", dots(3, 3, 3, 1), 1, 3, 1, 2);
      way(due, "not the one that begins nearest", dots(5, 5, 1, 5, 0), 1, 3, 1, 3, 2);
      way(due, "the nearest way is not the shortest", dots(10, 10, 3, 40, 9), 1, 17, 2, 1, 3);
      way(due, "which the nearest is not", dots(10, 10, 3, 40, 9), 0, 22, 1, 3, 2);
    });
    s.of(17, "A part must be pierced before each one within which it lies.", due -> {
      SheetNester x = new SheetNester();
      x.addSheet(2, 2, 0);
      x.addSheet(6, 4, 0);
      Make.addShape(x, 0, 1, FRAME);
      Make.addDot(x, 9);
      x.place(0, 1, 0, 0, 0);
      x.place(1, 1, 2, 2, 0);
      x.place(1, 1, 5, 0, 0);
      x.place(1, 1, 1, 1, 0);
      way(due, "two within one, the nearest", x, 0, 13, 3, 1, 0, 2);
      way(due, "two within one, the shortest", x, 1, 13, 1, 3, 0, 2);
      x.take(3);
      x.take(1);
      way(due, "none within it, the nearest", x, 0, 5, 0, 1);
      way(due, "none within it, the shortest", x, 1, 5, 0, 1);
    });
  }
}
