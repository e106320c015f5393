import java.util.NoSuchElementException;

/** Promises 20 to 22: the input, texts and faults. */
final class TextPromisesTest {
  private static final Class<NoSuchElementException> ELEMENT = NoSuchElementException.class;
  private static final Check check = new Check("TextPromisesTest");

  public static void main(String[] args) {
    promise20();
    promise21();
    promise21Rows();
    promise21AllOrNone();
    promise22Text();
    promise22Items();
    promise22Many();
    promise22();
    check.end();
  }

  private static void feed(SheetNester x, String text) {
    for (int i = 0; i < text.length(); i++) {
      x.feed(text.charAt(i));
    }
  }

  private static int read(SheetNester x, String text) {
    feed(x, text);
    return x.read();
  }

  /** The faults are told as kinds and places, from level 0. */
  private static void faults(String what, SheetNester x, int... due) {
    for (int level = 0; level < 4; level++) {
      int at = level;
      if (2 * level < due.length) {
        check.equal(what + ", kind of level " + level, x.fault(level, false), due[2 * level]);
        check.equal(what + ", place of level " + level, x.fault(level, true), due[2 * level + 1]);
      } else {
        check.refused(what + ", no level " + level, ELEMENT, () -> x.fault(at, true));
      }
    }
  }

  private static void fails(SheetNester x, String text, int... due) {
    int sheets = x.count(0);
    int shapes = x.count(1);
    int changes = x.count(5);
    check.equal("22: " + text, read(x, text), -1);
    faults("22: " + text, x, due);
    check.equal("22: sheets behind " + text, x.count(0), sheets);
    check.equal("22: shapes behind " + text, x.count(1), shapes);
    check.equal("22: changes behind " + text, x.count(5), changes);
    check.equal("22: input behind " + text, x.count(6), 0);
  }

  private static void promise20() {
    SheetNester x = new SheetNester();
    char[] any = {'s', (char) 0, (char) 255, '\u1234', '\uffff'};
    for (int i = 0; i < 70; i++) {
      char sign = any[i % any.length];
      check.equal("20: sign " + i, x.feed(sign), i + 1);
    }
    check.refused("20: a 71st", IllegalStateException.class, () -> x.feed('s'));
    check.equal("20: still seventy", x.count(6), 70);
    check.equal("20: feeding is no change", x.count(5), 0);
    check.equal("20: nonsense", x.read(), -1);
    faults("20: nonsense", x, 1, 0, 2, 1);
    check.equal("20: empty then", x.feed('d'), 1);
  }

  private static void promise21() {
    SheetNester x = new SheetNester();
    check.equal("21: three sheets", read(x, "s2x10;s10x02-;s03x4|"), 3);
    int[][] due = {{2, 10, 0}, {10, 2, 1}, {3, 4, 2}};
    for (int sheet = 0; sheet < 3; sheet++) {
      for (int what = 0; what < 3; what++) {
        check.equal("21: sheet(" + sheet + ", " + what + ")", x.sheet(sheet, what), due[sheet][what]);
      }
    }
    check.equal("21: one change", x.count(5), 1);
    check.equal("21: the input is empty", x.count(6), 0);
    check.refused("21: no fault", ELEMENT, () -> x.fault(0, false));
    check.equal("21: cells", read(x, "d2:11;d2:05;d2:0;d0:9"), 4);
    check.equal("21: the last one", x.cell(2, 11), -2);
    check.equal("21: the sixth", x.cell(2, 5), -2);
    check.equal("21: the first", x.cell(2, 0), -2);
    check.equal("21: another sheet", x.cell(0, 9), -2);
    check.equal("21: the others are free", x.sheet(2, 3), 9);
    check.equal("21: a cell of a sheet in the same text", read(x, "s2x2;d3:3"), 2);
    check.equal("21: which is not usable", x.cell(3, 3), -2);
    check.equal("21: three changes", x.count(5), 3);
    check.equal("21: undone as one", x.undo(), 2);
    check.equal("21: without the sheet", x.count(0), 3);
    String longest = "d0:00;d0:01;d0:02;d0:03;d0:04;d0:05;d0:06;d0:07;d0:08;d0:10;d0:11;d0:1";
    check.equal("21: seventy signs", longest.length(), 70);
    check.equal("21: but a cell twice", read(x, longest), -1);
    check.equal("21: else", read(x, longest.replace("10;d0:11;d0:1", "10;d0:11;d0:12").substring(0, 65)), 11);
  }

  private static void promise21Rows() {
    SheetNester x = new SheetNester();
    check.equal("21: shapes", read(x, "p#:0*0;p####/#..#/#.##/##..:1*99;p.##/##.:2*7;p#/#/#/#:0*05"), 4);
    int[][] due = {{1, 1, 1, 0, 0}, {4, 4, 0b0011_1101_1001_1111, 1, 99}, {3, 2, 0b011110, 2, 7}, {1, 4, 15, 0, 5}};
    for (int shape = 0; shape < 4; shape++) {
      for (int what = 0; what < 5; what++) {
        check.equal("21: shape(" + shape + ", " + what + ")", x.shape(shape, what), due[shape][what]);
      }
    }
  }

  private static void promise21AllOrNone() {
    SheetNester x = new SheetNester();
    read(x, "s4x4;p#:0*9");
    x.place(0, 0, 1, 1, 0);
    for (int i = 0; i < 8; i++) {
      x.nestAll();
    }
    x.undo();
    fails(x, "d0:15;s3x3;p##:0*1;d0:5", 1, 3, 3, 4, 7, 1);
    check.equal("21: not even the first item", x.cell(0, 15), -1);
    check.equal("21: what could be undone still can", x.undo(), 6);
    SheetNester y = new SheetNester();
    read(y, "s4x4");
    fails(y, "d0:15;d0:15", 1, 1, 3, 1, 7, 1);
    check.equal("21: the cell is still free", y.cell(0, 15), -1);
    fails(y, "d0:15;", 1, 1, 2, 6);
    check.equal("21: free as before", y.cell(0, 15), -1);
  }

  private static void promise22Text() {
    SheetNester x = new SheetNester();
    x.addSheet(2, 2, 0);
    Object[][] texts = {{"", 0, 0}, {";", 0, 0}, {"q", 0, 0}, {"S2x2", 0, 0}, {" s2x2", 0, 0}, {"s", 0, 1},
        {"sx", 0, 1}, {"s2", 0, 2}, {"s22", 0, 3}, {"s222", 0, 3}, {"s2-", 0, 2}, {"s2x", 0, 3}, {"s2xx", 0, 3},
        {"s2x222", 0, 5}, {"s2x2--", 0, 5}, {"s2x2|-", 0, 5}, {"s2x2 ", 0, 4}, {"s2x2;", 1, 5}, {"s2x2;;", 1, 5},
        {"s2x2;s2x2;p", 2, 11}, {"p", 0, 1}, {"p/", 0, 1}, {"p:", 0, 1}, {"p#", 0, 2}, {"p#/", 0, 3},
        {"p#//", 0, 3}, {"p#/:", 0, 3}, {"p#.", 0, 3}, {"p#x", 0, 2}, {"p#:", 0, 3}, {"p#:*", 0, 3}, {"p#:1", 0, 4},
        {"p#:11", 0, 4}, {"p#:1*", 0, 5}, {"p#:1*#", 0, 5}, {"p#:1*123", 0, 7}, {"d", 0, 1}, {"d:", 0, 1},
        {"d0", 0, 2}, {"d00", 0, 2}, {"d0:", 0, 3}, {"d0:;", 0, 3}, {"d0:123", 0, 5}, {"s2x2s2x2", 0, 4},
        {"s99x1;q", 1, 6}, {"d0:0;d0:0:", 1, 9}, {"s2x2\u0173", 0, 4}, {"s2x2\u0000", 0, 4}, {"\u0000", 0, 0},
        {"s2x/", 0, 3}, {"s2x:", 0, 3}};
    for (Object[] text : texts) {
      fails(x, (String) text[0], 1, (int) text[1], 2, (int) text[2]);
    }
  }

  private static void promise22Items() {
    SheetNester x = new SheetNester();
    read(x, "s4x4;p#:0*9;d0:3");
    x.place(0, 0, 1, 0, 0);
    Object[][] items = {{"s1x5", 4, 0}, {"s0x5", 4, 0}, {"s11x5", 4, 0}, {"s99x5", 4, 0}, {"s5x1", 4, 1},
        {"s5x11", 4, 1}, {"s1x1", 4, 0}, {"s5x00|", 4, 1}, {"p#:3*1", 4, 0}, {"p#:9*99", 4, 0}, {"p.:3*0", 4, 0},
        {"p.:0*0", 5, 0}, {"p#./#.:0*0", 5, 0}, {"p##/..:2*0", 5, 0}, {"p#/##:0*0", 5, 0}, {"p##/#:0*0", 5, 0},
        {"p#####:0*0", 5, 0}, {"p#/#/#/#/#:0*0", 5, 0}, {"p#./.#:0*0", 5, 0}, {"p#.#:0*0", 5, 0},
        {"p####/#####:0*0", 5, 0}, {"p###/.../###:0*0", 5, 0}, {"d1:0", 7, 0}, {"d9:99", 7, 0}, {"d0:16", 7, 1},
        {"d0:99", 7, 1}, {"d0:3", 7, 1}, {"d0:1", 7, 1}};
    for (Object[] item : items) {
      fails(x, (String) item[0], 1, 0, 3, 2, (int) item[1], (int) item[2]);
    }
    fails(x, "s2x2;p##:1*1;d0:0;p###:2*1;d1:4", 1, 4, 3, 5, 7, 1);
    fails(x, "d0:0;s2x2;d2:0;s1x1", 1, 2, 3, 3, 7, 0);
    fails(x, "s1x1;p#:9*9", 1, 0, 3, 2, 4, 0);
  }

  private static void promise22Many() {
    SheetNester x = new SheetNester();
    check.equal("22: six sheets", read(x, "s2x2;s2x2;s2x2;s2x2;s2x2;s2x2"), 6);
    check.equal("22: seven shapes", read(x, "p#:0*1;p#:0*1;p#:0*1;p#:0*1;p#:0*1;p#:0*1;p#:0*1"), 7);
    fails(x, "s2x2", 1, 0, 3, 13, 6, 0);
    fails(x, "s2x1", 1, 0, 3, 13, 4, 1);
    fails(x, "p#:0*1;p#:0*1", 1, 1, 3, 14, 6, 0);
    fails(x, "p#:0*1;p.:0*1", 1, 1, 3, 14, 5, 0);
    fails(x, "p#:0*1;p.:4*1", 1, 1, 3, 14, 4, 0);
    check.equal("22: the eighth", read(x, "p#:0*1"), 1);
  }

  private static void promise22() {
    SheetNester x = new SheetNester();
    check.refused("22: nothing read", ELEMENT, () -> x.fault(0, true));
    fails(x, "d0:0", 1, 0, 3, 0, 7, 0);
    for (int level : new int[] {-1, 3, Integer.MIN_VALUE, Integer.MAX_VALUE}) {
      check.refused("22: level " + level, ELEMENT, () -> x.fault(level, false));
    }
    feed(x, "s2x2");
    x.addSheet(2, 2, 0);
    x.undo();
    x.saveSnapshot();
    x.restoreSnapshot();
    faults("22: they stay", x, 1, 0, 3, 0, 7, 0);
    check.equal("22: the input stays", x.count(6), 4);
    fails(x, ";", 1, 1, 2, 5);
    check.equal("22: a text without fault", read(x, "s2x2"), 1);
    check.refused("22: replaced by none", ELEMENT, () -> x.fault(0, false));
  }
}
