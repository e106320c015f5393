/** The boundaries that the promises 20 to 22 name: the input, texts and faults. */
final class TextBoundaries {
  private static final int[] FAR = Make.FAR;
  /** 13 items in 70 characters, for a nester without sheets. */
  private static final String LONGEST =
      "s10x10;d0:10;d0:11;d0:12;d0:13;d0:0;d0:1;d0:2;d0:3;d0:4;d0:5;d0:6;d0:7";

  private TextBoundaries() {}

  static void test(Sentences s) {
    feed(s);
    read(s);
    readNumbers(s);
    readAllOrNone(s);
    fault(s);
    faultPosition(s);
    faultItem(s);
    faultNumbers(s);
    faultRows(s);
    faultTooMany(s);
    faultCells(s);
    faultOrder(s);
  }

  /** Refused for these faults, from level 0, and nothing else but the input is changed. */
  private static void fails(Check due, SheetNester x, String text, String faults) {
    String before = View.ofWork(x) + View.reasons(x);
    int changes = x.count(5);
    due.equal(text, Make.read(x, text), -1);
    due.equal(text + ", the faults", View.faults(x), faults);
    due.equal(text + ", what is there", View.ofWork(x) + View.reasons(x), before);
    due.equal(text + ", the changes", x.count(5), changes);
    due.equal(text + ", the input", x.count(6), 0);
  }

  private static void feed(Sentences s) {
    s.of(20, "The input holds at most 70 characters.", due -> {
      SheetNester x = new SheetNester();
      due.equal("the length of the text", LONGEST.length(), 70);
      Make.feed(x, LONGEST.substring(0, 69));
      due.equal("the last one that it holds", x.feed('7'), 70);
      due.refused("a 71st", Check.STATE, () -> x.feed('9'));
      due.equal("what was read has none but the 70", x.read(), 13);
      due.equal("the last cell", x.cell(0, 7), -2);
    });
    s.of(20, "Throws `IllegalStateException` if the input has 70 characters", due -> {
      SheetNester x = Make.busy();
      Make.feed(x, "x".repeat(68));
      for (char sign : new char[] {'x', ';', (char) 0, '\uffff'}) {
        due.refusedQuietly("the character " + (int) sign, x, Check.STATE, () -> x.feed(sign));
      }
      x.read();
      due.equal("room again when it was read", x.feed('s'), 1);
    });
    s.of(20, "Appends a character to the input.", due -> {
      SheetNester x = new SheetNester();
      int fed = 0;
      for (int sign = 0; sign <= 0xffff; sign += 0xfff) {
        fed++;
        due.equal("the character " + sign, x.feed((char) sign), fed);
      }
      due.equal("none of them begins a text", x.read(), -1);
      due.equal("the first is at fault", View.faults(x), " 1 0 2 0");
      Make.feed(x, "s2x");
      due.equal("behind the others", x.feed('3'), 4);
      due.equal("which are a text", x.read(), 1);
      due.equal("in their order", x.sheet(0, 1), 3);
    });
    s.of(20, "Returns the length of the input.", due -> {
      SheetNester x = Make.busy();
      for (int length = 3; length <= 70; length++) {
        due.equal("the length", x.feed(';'), length);
      }
      due.equal("feeding is no change", x.count(5), 3);
    });
  }

  private static void read(Sentences s) {
    s.of(21, "Returns the number of items, or -1 if there is a fault.", due -> {
      SheetNester x = new SheetNester();
      due.equal("no character", x.read(), -1);
      due.equal("an item", Make.read(x, "s9x2"), 1);
      due.equal("two items", Make.read(x, "s9x2;p#:0*0"), 2);
      due.equal("as many as there can be", Make.read(x,
          "d0:0;d0:1;d0:2;d0:3;d0:4;d0:5;d0:6;d1:0;d1:1;d1:2;d1:3;d1:4;d1:5;d1:6"), 14);
      due.equal("a semicolon behind them", Make.read(x, "d0:7;d0:8;"), -1);
      due.equal("a semicolon ahead of them", Make.read(x, ";d0:7;d0:8"), -1);
      due.equal("a cell twice", Make.read(x, "d0:7;d0:7"), -1);
      due.equal("as before", Make.read(x, "d0:7;d0:8"), 2);
    });
    s.of(21, "The input is empty afterwards.", due -> {
      SheetNester x = new SheetNester();
      Make.feed(x, "s2x2");
      x.read();
      due.equal("after a text", x.count(6), 0);
      due.equal("there is none to be read again", x.read(), -1);
      due.equal("after none", x.count(6), 0);
      Make.feed(x, "s2x2;!");
      x.read();
      due.equal("after a text at fault", x.count(6), 0);
      Make.feed(x, "s2x2;d9:0");
      x.read();
      due.equal("after an item that cannot be carried out", x.count(6), 0);
      Make.feed(x, "!".repeat(70));
      x.read();
      due.equal("after 70 characters", x.count(6), 0);
      due.equal("the next text begins anew", Make.read(x, "s3x3"), 1);
    });
    s.of(21, "Faults that were kept are replaced, also by none.", due -> {
      SheetNester x = Make.busy();
      due.equal("kept", View.faults(x), " 1 0 3 5 7 1");
      fails(due, x, "!", " 1 0 2 2");
      fails(due, x, "s1x1", " 1 0 3 5 4 0");
      fails(due, x, "", " 1 0 2 0");
      due.equal("a text without fault", Make.read(x, "s2x2"), 1);
      due.equal("none is kept", View.faults(x), "");
    });
  }

  private static void readNumbers(Sentences s) {
    s.of(21, "number: digit [ digit ]", due -> {
      SheetNester x = new SheetNester();
      due.equal("sheets", Make.read(x, "s2x02;s02x2;s10x10;s09x9"), 4);
      int[][] sides = {{2, 2}, {2, 2}, {10, 10}, {9, 9}};
      for (int sheet = 0; sheet < sides.length; sheet++) {
        due.equal("columns of " + sheet, x.sheet(sheet, 0), sides[sheet][0]);
        due.equal("rows of " + sheet, x.sheet(sheet, 1), sides[sheet][1]);
      }
      due.equal("shapes", Make.read(x, "p#:0*0;p#:1*00;p#:2*9;p#:0*09;p#:0*90;p#:0*99"), 6);
      int[] stocks = {0, 0, 9, 9, 90, 99};
      for (int shape = 0; shape < stocks.length; shape++) {
        due.equal("stock of " + shape, x.shape(shape, 4), stocks[shape]);
      }
      due.equal("cells", Make.read(x, "d0:0;d1:00;d2:99;d2:09;d3:80"), 5);
      due.equal("the cell 99", x.cell(2, 99), -2);
      due.equal("the cell 9", x.cell(2, 9), -2);
      due.equal("the cell 80", x.cell(3, 80), -2);
      due.equal("no other one", x.sheet(0, 4) + x.sheet(1, 4) + x.sheet(2, 4) + x.sheet(3, 4), 5);
    });
    s.of(21, "Every digit can stand where the grammar has one.", due -> {
      for (int digit = 0; digit < 10; digit++) {
        SheetNester x = new SheetNester();
        x.addSheet(10, 10, 0);
        boolean isSide = digit >= 2;
        boolean isRule = digit <= 2;
        due.equal("columns " + digit, Make.read(x, "s" + digit + "x2"), isSide ? 1 : -1);
        due.equal("faults of these columns", View.faults(x), isSide ? "" : " 1 0 3 1 4 0");
        due.equal("rows " + digit, Make.read(x, "s2x" + digit), isSide ? 1 : -1);
        due.equal("rule " + digit, Make.read(x, "p#:" + digit + "*1"), isRule ? 1 : -1);
        due.equal("faults of this rule", View.faults(x), isRule ? "" : " 1 0 3 " + x.count(0) + " 4 0");
        due.equal("stock " + digit, Make.read(x, "p#:0*" + digit), 1);
        due.equal("the stock", x.shape(x.count(1) - 1, 4), digit);
        due.equal("cell " + digit, Make.read(x, "d0:" + digit), 1);
        due.equal("not usable", x.cell(0, digit), -2);
        due.equal("sheet " + digit, Make.read(x, "d" + digit + ":99"), digit == 0 ? 1 : -1);
        due.equal("faults of this sheet", View.faults(x).endsWith(" 7 0")
            || View.faults(x).endsWith(" 7 1"), digit > 0);
      }
    });
    s.of(21, "a sheet with columns and rows, with the grain 1 for \"-\" and 2 for \"|\", otherwise 0", due -> {
      SheetNester x = new SheetNester();
      due.equal("three", Make.read(x, "s2x3;s3x2-;s4x10|"), 3);
      int[][] sheets = {{2, 3, 0}, {3, 2, 1}, {4, 10, 2}};
      for (int sheet = 0; sheet < 3; sheet++) {
        for (int what = 0; what < 3; what++) {
          due.equal("sheet(" + sheet + ", " + what + ")", x.sheet(sheet, what), sheets[sheet][what]);
        }
        due.equal("all its cells are usable", x.sheet(sheet, 4), 0);
      }
    });
    s.of(21, "a shape by its rows, where # is covered, with its rule and its stock", due -> {
      SheetNester x = new SheetNester();
      due.equal("least and greatest", Make.read(x, "p#:0*0;p####/####/####/####:2*99;p.#/##:1*07"), 3);
      int[][] shapes = {{1, 1, 1, 0, 0}, {4, 4, 0xffff, 2, 99}, {2, 2, 14, 1, 7}};
      for (int shape = 0; shape < 3; shape++) {
        for (int what = 0; what < 5; what++) {
          due.equal("shape(" + shape + ", " + what + ")", x.shape(shape, what), shapes[shape][what]);
        }
      }
    });
    s.of(21, "and make a free cell of a sheet not usable", due -> {
      SheetNester x = new SheetNester();
      due.equal("the first and the last of a new sheet", Make.read(x, "s2x3;d0:0;d0:5"), 3);
      due.equal("its cells", View.cells(x, 0), " -2 -1 -1 -1 -1 -2");
      due.equal("of the last sheet", Make.read(x, "s2x2;s2x2;s2x2;s2x2;s10x10;d5:99;d5:0"), 7);
      due.equal("98 are left", x.sheet(5, 3), 98);
    });
  }

  private static void readAllOrNone(Sentences s) {
    s.of(21, "carries its items out, all of them or none", due -> {
      SheetNester x = Make.busy();
      Make.read(x, "!");
      fails(due, x, "s2x2;p#:0*1;d0:2;d1:3;d0:5", " 1 4 3 7 7 1");
      fails(due, x, "d0:2;d1:3;s2x2;!", " 1 3 2 15");
      fails(due, x, "s2x2;s2x2;s2x2;s2x2;s2x2", " 1 4 3 9 6 0");
      due.equal("all of them", Make.read(x, "s2x2;p#:0*1;d0:2;d1:3"), 4);
      due.equal("are one change", x.count(5), 4);
      due.equal("cells", View.cells(x, 0) + View.cells(x, 1), " 0 0 -2 0 -1 -2 -1 -1 -1 -2");
      due.equal("undone at once", x.undo(), 3);
      due.equal("sheets then", x.count(0), 2);
      due.equal("cells then", View.cells(x, 0) + View.cells(x, 1), " 0 0 -1 0 -1 -2 -1 -1 -1 -1");
    });
  }

  private static void fault(Sentences s) {
    s.of(22, "Throws `NoSuchElementException` if there is no fault of this level", due -> {
      SheetNester none = new SheetNester();
      SheetNester two = new SheetNester();
      SheetNester three = Make.busy();
      two.read();
      due.equal("two levels", View.faults(two), " 1 0 2 0");
      due.equal("three levels", View.faults(three), " 1 0 3 5 7 1");
      for (boolean isPlace : new boolean[] {false, true}) {
        due.refusedQuietly("nothing was read", none, Check.ELEMENT, () -> none.fault(0, isPlace));
        due.refusedQuietly("two levels, level 2", two, Check.ELEMENT, () -> two.fault(2, isPlace));
        due.refusedQuietly("three levels, level 3", three, Check.ELEMENT, () -> three.fault(3, isPlace));
        for (int far : FAR) {
          due.refusedQuietly("none, level " + far, none, Check.ELEMENT, () -> none.fault(far, isPlace));
          due.refusedQuietly("three levels, level " + far, three, Check.ELEMENT, () -> three.fault(far, isPlace));
        }
      }
      Make.read(three, "!");
      due.equal("two levels where there were three", View.faults(three), " 1 0 2 2");
      Make.read(three, "s2x2");
      due.refusedQuietly("the text was without fault", three, Check.ELEMENT, () -> three.fault(0, false));
    });
    s.of(22, "Returns a number of the faults of the latest call of read.", due -> {
      SheetNester x = Make.busy();
      x.feed('!');
      due.refused("no place", Check.UNSUPPORTED, () -> x.place(1, 0, 0, 0, 0));
      x.take(0);
      due.equal("other calls leave them", View.faults(x), " 1 0 3 5 7 1");
      x.read();
      due.equal("the latest", View.faults(x), " 1 0 2 2");
    });
    s.of(22, "Reasons, faults and the input are neither undone nor saved, and stay.", due -> {
      SheetNester x = Make.busy();
      x.saveSnapshot();
      Make.read(x, "");
      Make.feed(x, "s3");
      due.equal("others than when it was saved", View.faults(x), " 1 0 2 2");
      x.undo();
      x.restoreSnapshot();
      due.equal("they stay", View.faults(x), " 1 0 2 2");
      due.equal("so does the input", x.count(6), 2);
      due.equal("as it was", Make.read(x, "x4"), 1);
      due.equal("a row of four", x.sheet(2, 1), 4);
    });
  }

  private static void faultPosition(Sentences s) {
    s.of(22, "The fault position of a text is the offset of the first character that cannot continue such a text", due -> {
      String[] texts = {"!", "S2x2", " s2x2", "s!", "sx2", "s-", "s2!", "s2-", "s2;", "s222", "s2x!", "s2xx", "s2x-",
          "s2x222", "s2x2 ", "s2x2-|", "s2x2--", "s2x22x", "p!", "p/", "p:", "p0", "p#!", "p#0", "p#;", "p#//", "p#/:",
          "p#/#*", "p#:!", "p#:#", "p#:*", "p#:00", "p#:0:", "p#:0*!", "p#:0*#", "p#:0*111", "p#:0*1 ", "d!", "d:",
          "d00", "d0!", "d0*", "d0:!", "d0::", "d0:111", "d0:1 ", "s2x2,s2x2", "s2x2\u0000", "\u0000", "\u0173",
          "s\u0132x2", "s2x2\u012d"};
      int[] places = {0, 0, 0, 1, 1, 1, 2, 2, 2, 3, 3, 3, 3, 5, 4, 5, 5, 5, 1, 1, 1, 1, 2, 2, 2, 3, 3, 4, 3, 3, 3, 4,
          4, 5, 5, 7, 6, 1, 1, 2, 2, 2, 3, 3, 5, 4, 4, 4, 0, 0, 1, 4};
      due.equal("as many places as texts", places.length, texts.length);
      SheetNester x = new SheetNester();
      x.addSheet(4, 4, 0);
      for (int i = 0; i < texts.length; i++) {
        fails(due, x, texts[i], " 1 0 2 " + places[i]);
      }
    });
    s.of(22, "or the length of the text if it ends too early", due -> {
      SheetNester x = new SheetNester();
      x.addSheet(4, 4, 0);
      String[] texts = {"", "s", "s2", "s22", "s2x", "s22x", "p", "p#", "p.", "p#/", "p#/.", "p#:", "p#:0", "p#:0*",
          "d", "d0", "d0:"};
      for (String text : texts) {
        fails(due, x, text, " 1 0 2 " + text.length());
        fails(due, x, "d0:0;" + text, " 1 1 2 " + (5 + text.length()));
      }
      String full = "p" + "#".repeat(69);
      fails(due, x, full, " 1 0 2 70");
      fails(due, x, "d0:0;".repeat(14), " 1 14 2 70");
    });
    s.of(22, "which is the number of semicolons ahead of the fault position if the text is at fault", due -> {
      SheetNester x = new SheetNester();
      x.addSheet(4, 4, 0);
      fails(due, x, ";", " 1 0 2 0");
      fails(due, x, ";;;", " 1 0 2 0");
      fails(due, x, "d0:0;", " 1 1 2 5");
      fails(due, x, "d0:0;;", " 1 1 2 5");
      fails(due, x, "d0:0!;d0:1", " 1 0 2 4");
      fails(due, x, "d0:0;!;d0:1;", " 1 1 2 5");
      fails(due, x, "d0:0;d0:1;d0:2;d0:;", " 1 3 2 18");
      fails(due, x, "d0:0;d0:1;d0:2;d0:3;d0:4;d0:5;d0:6;d0:7;d0:8;d0:9;d0:10;d0:11;d0:12!", " 1 12 2 67");
      fails(due, x, "s1x1;d9:9;!", " 1 2 2 10");
    });
  }

  private static void faultItem(Sentences s) {
    s.of(22, "The sheets and shapes of items that are ahead in the text count for the place of a fault of kind 3", due -> {
      SheetNester x = new SheetNester();
      fails(due, x, "d0:0", " 1 0 3 0 7 0");
      fails(due, x, "s2x2;d0:4", " 1 1 3 1 7 1");
      fails(due, x, "s2x2;p#:0*1;d0:0;d0:4", " 1 3 3 2 7 1");
      fails(due, x, "p#:0*1;p#:0*1;p#:0*1;d0:4;s2x2", " 1 3 3 3 7 0");
      Make.read(x, "s2x2;p#:0*1");
      fails(due, x, "d1:0", " 1 0 3 2 7 0");
      fails(due, x, "s2x2;s2x2;p#:0*1;s2x1;p#:0*1", " 1 3 3 5 4 1");
    });
    s.of(22, "and the number of the item as its place, counted from 0", due -> {
      SheetNester x = new SheetNester();
      x.addSheet(2, 2, 0);
      fails(due, x, "d9:0;s2x2", " 1 0 3 1 7 0");
      fails(due, x, "d0:0;d9:0;d9:0", " 1 1 3 1 7 0");
      fails(due, x, "d0:0;d0:1;d0:2;d0:3;s2x2;d1:0;d1:1;d1:2;d1:3;p#:0*1;d0:0", " 1 10 3 3 7 1");
    });
  }

  private static void faultNumbers(Sentences s) {
    s.of(22, "kind 4, a number is out of range", due -> {
      SheetNester x = new SheetNester();
      for (String side : new String[] {"0", "00", "1", "01", "11", "12", "20", "99"}) {
        fails(due, x, "s" + side + "x2", " 1 0 3 0 4 0");
        fails(due, x, "s2x" + side, " 1 0 3 0 4 1");
      }
      for (int rule = 3; rule < 10; rule++) {
        fails(due, x, "p#:" + rule + "*1", " 1 0 3 0 4 0");
      }
      due.equal("all in range", Make.read(x, "s2x10-;s10x2|;p#:0*0;p#:2*99"), 4);
    });
    s.of(22, "the place of these is the number of the number in the item that is at fault, from 0, for the kinds 4 and 7, "
        + "otherwise 0", due -> {
      SheetNester x = new SheetNester();
      x.addSheet(2, 2, 0);
      fails(due, x, "s1x2", " 1 0 3 1 4 0");
      fails(due, x, "s2x1", " 1 0 3 1 4 1");
      fails(due, x, "p#:3*1", " 1 0 3 1 4 0");
      fails(due, x, "d1:0", " 1 0 3 1 7 0");
      fails(due, x, "d0:4", " 1 0 3 1 7 1");
      fails(due, x, "s2x2;p#./.#:2*3", " 1 1 3 2 5 0");
      fails(due, x, "s2x2;s2x2;s2x2;s2x2;s2x2;s2x2", " 1 5 3 6 6 0");
    });
  }

  private static void faultRows(Sentences s) {
    String kind = "kind 5, the rows of the shape do not have the same length";
    s.of(22, kind, due -> rowsFail(due, "#/##", "##/#", "##/##/#", "#/#/##", "###/####", "####/###", ".#/#", "#/#./#"));
    s.of(22, "are too long or too many", due -> {
      rowsFail(due, "#####", "#####/#####", "##########", "#".repeat(60), "#/#/#/#/#", "##/##/##/##/##",
          "####/####/####/####/####", "#/#/#/#/#/#/#/#/#/#/#/#/#/#/#/#/#/#/#/#/#/#/#/#/#/#/#/#/#/#");
      SheetNester x = new SheetNester();
      due.equal("four and four", Make.read(x, "p####:0*1;p#/#/#/#:0*1;p####/####/####/####:0*1"), 3);
    });
    s.of(22, "or it is not connected or has an empty row or column", due -> {
      rowsFail(due, "#./.#", ".#/#.", "##./..#", "#.#/##.", ".#./#.#/.#.", "#..#/#..#/#..#/.##.", "...#/###.");
      rowsFail(due, ".", "....", "#./#.", ".#/.#", "##/..", "../##", "#.#", "#/./#", "#/.", "./#", "###/.../###",
          "####/####/####/....", "###./###./###./###.");
      SheetNester x = new SheetNester();
      due.equal("connected around a corner", Make.read(x, "p#../#../###:0*1;p.#./###/.#.:0*1"), 2);
    });
  }

  private static void rowsFail(Check due, String... rows) {
    SheetNester x = new SheetNester();
    for (String row : rows) {
      fails(due, x, "p" + row + ":0*1", " 1 0 3 0 5 0");
    }
  }

  private static void faultTooMany(Sentences s) {
    s.of(22, "kind 6, there are too many sheets or shapes", due -> {
      SheetNester x = new SheetNester();
      fails(due, x, "s2x2;s2x2;s2x2;s2x2;s2x2;s2x2;s2x2", " 1 6 3 6 6 0");
      fails(due, x, "p#:0*1;p#:0*1;p#:0*1;p#:0*1;p#:0*1;p#:0*1;p#:0*1;p#:0*1;p#:0*1", " 1 8 3 8 6 0");
      due.equal("six", Make.read(x, "s2x2;s2x2;s2x2;s2x2;s2x2;s2x2"), 6);
      fails(due, x, "s10x10|", " 1 0 3 6 6 0");
      due.equal("eight", Make.read(x, "p#:0*1;p#:0*1;p#:0*1;p#:0*1;p#:0*1;p#:0*1;p#:0*1;p#:0*1"), 8);
      fails(due, x, "p#:0*1", " 1 0 3 14 6 0");
      fails(due, x, "d5:0;s2x2", " 1 1 3 14 6 0");
    });
  }

  private static void faultCells(Sentences s) {
    s.of(22, "or kind 7, there is no such sheet, or no such free cell", due -> {
      SheetNester x = new SheetNester();
      for (int sheet = 0; sheet < 10; sheet++) {
        fails(due, x, "d" + sheet + ":0", " 1 0 3 0 7 0");
      }
      x.addSheet(10, 10, 0);
      x.undo();
      x.addSheet(3, 2, 0);
      x.addSheet(10, 10, 0);
      for (int cell : new int[] {6, 7, 9, 10, 99}) {
        fails(due, x, "d0:" + cell, " 1 0 3 2 7 1");
      }
      fails(due, x, "d2:0", " 1 0 3 2 7 0");
      fails(due, x, "d9:99", " 1 0 3 2 7 0");
      due.equal("the last cells of both", Make.read(x, "d0:5;d0:04;d1:99"), 3);
    });
    s.of(22, "a cell that is not free, whyever, is the number 1 of its item", due -> {
      SheetNester x = Make.busy();
      Make.read(x, "!");
      fails(due, x, "d0:0", " 1 0 3 5 7 1");
      fails(due, x, "d0:5", " 1 0 3 5 7 1");
      fails(due, x, "d0:6", " 1 0 3 5 7 1");
      fails(due, x, "d0:2;d0:2", " 1 1 3 5 7 1");
      x.keep(1, 0);
      fails(due, x, "d1:3", " 1 0 3 6 7 1");
    });
  }

  private static void faultOrder(Sentences s) {
    s.of(22, "Of several, the kind with the lowest number counts, and the lowest place.", due -> {
      SheetNester x = new SheetNester();
      Make.read(x, "s2x2;s2x2;s2x2;s2x2;s2x2;s2x2");
      Make.read(x, "p#:0*1;p#:0*1;p#:0*1;p#:0*1;p#:0*1;p#:0*1;p#:0*1;p#:0*1");
      fails(due, x, "s1x1", " 1 0 3 14 4 0");
      fails(due, x, "s11x0", " 1 0 3 14 4 0");
      fails(due, x, "s2x1", " 1 0 3 14 4 1");
      fails(due, x, "s2x2", " 1 0 3 14 6 0");
      fails(due, x, "p.:3*1", " 1 0 3 14 4 0");
      fails(due, x, "p#/##:9*1", " 1 0 3 14 4 0");
      fails(due, x, "p#:3*1", " 1 0 3 14 4 0");
      fails(due, x, "p.:2*1", " 1 0 3 14 5 0");
      fails(due, x, "p#:2*1", " 1 0 3 14 6 0");
      fails(due, x, "d6:99", " 1 0 3 14 7 0");
      fails(due, x, "d5:99", " 1 0 3 14 7 1");
    });
    s.of(22, "kind 2, the text is at fault, with the fault position", due -> {
      SheetNester x = new SheetNester();
      fails(due, x, "s1x1;p.:9*9;d9:9;s2x2!", " 1 3 2 21");
      fails(due, x, "d0:0;", " 1 1 2 5");
    });
  }
}
