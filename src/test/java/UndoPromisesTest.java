/** Promises 23 to 25: undo and snapshots. */
final class UndoPromisesTest {
  private static final Class<IllegalStateException> STATE = IllegalStateException.class;
  private static final Check check = new Check("UndoPromisesTest");

  public static void main(String[] args) {
    promise23();
    promise23Each();
    promise23Eight();
    promise23Gone();
    promise23Smaller();
    promise24();
    promise25();
    check.end();
  }

  private static int read(SheetNester x, String text) {
    for (int i = 0; i < text.length(); i++) {
      x.feed(text.charAt(i));
    }
    return x.read();
  }

  private static SheetNester start() {
    SheetNester x = new SheetNester();
    read(x, "s5x4;s3x3-;p##/#.:0*5;p#:1*3");
    x.place(0, 0, 1, 1, 0);
    return x;
  }

  private static void promise23() {
    SheetNester x = new SheetNester();
    check.refused("23: nothing yet", STATE, () -> x.undo());
    x.addSheet(2, 2, 0);
    x.addSheet(3, 3, 0);
    check.equal("23: one remains", x.undo(), 1);
    check.equal("23: one sheet", x.count(0), 1);
    check.equal("23: none remains", x.undo(), 0);
    check.equal("23: no sheet", x.count(0), 0);
    check.refused("23: nothing any more", STATE, () -> x.undo());
  }

  private static void undone(String what, SheetNester x, Check.Call call) {
    String before = View.ofWork(x);
    int changes = x.count(5);
    call.answer();
    check.equal("23: " + what + " is a change", x.count(5), changes + 1);
    check.equal("23: undo of " + what, x.undo(), changes);
    check.equal("23: the state before " + what, View.ofWork(x), before);
  }

  private static void promise23Each() {
    SheetNester x = start();
    undone("addSheet", x, () -> x.addSheet(2, 2, 1));
    undone("addShape", x, () -> x.addShape(1, 1, 1, 0, 0));
    undone("spoil", x, () -> x.spoil(0, 0));
    undone("place", x, () -> x.place(1, 1, 0, 0, 0));
    undone("take", x, () -> x.take(0));
    undone("keep", x, () -> x.keep(0, 0));
    undone("nest", x, () -> x.nest(1));
    undone("nestAll", x, () -> x.nestAll());
    undone("read", x, () -> read(x, "d0:0;s2x2;p#:0*1"));
    String before = View.ofWork(x);
    check.refused("23: no change", UnsupportedOperationException.class, () -> x.place(0, 0, 1, 1, 0));
    check.equal("23: a text at fault is none", read(x, "d0:0;q"), -1);
    check.equal("23: nor one with an item at fault", read(x, "d0:0;d0:0"), -1);
    x.saveSnapshot();
    x.feed('s');
    check.equal("23: none of these", x.count(5), 2);
    check.equal("23: the state is as it was", View.ofWork(x), before);
  }

  private static void promise23Eight() {
    SheetNester x = new SheetNester();
    x.addSheet(10, 10, 0);
    String[] states = new String[13];
    for (int i = 0; i < 12; i++) {
      states[i] = View.ofWork(x);
      x.spoil(0, i);
    }
    check.equal("23: the latest eight", x.count(5), 8);
    for (int i = 11; i >= 7; i--) {
      check.equal("23: back to " + i, x.undo(), i - 4);
      check.equal("23: the state " + i, View.ofWork(x), states[i]);
    }
    x.spoil(0, 50);
    check.equal("23: four of them", x.count(5), 4);
    x.undo();
    for (int i = 6; i >= 4; i--) {
      check.equal("23: back to " + i, x.undo(), i - 4);
      check.equal("23: the state " + i, View.ofWork(x), states[i]);
    }
    check.refused("23: what was forgotten stays so", STATE, () -> x.undo());
    check.equal("23: four cells are not usable", x.sheet(0, 4), 4);
  }

  /** What is undone is not there any more, whatever call asks for it. */
  private static void promise23Gone() {
    SheetNester x = new SheetNester();
    x.addSheet(10, 10, 0);
    Make.addDot(x, 9);
    x.place(0, 0, 9, 9, 0);
    x.undo();
    check.refused("23: no part to take", Check.INDEX, () -> x.take(0));
    check.refused("23: no part", Check.INDEX, () -> x.part(0, 0));
    x.undo();
    check.refused("23: no shape", Check.INDEX, () -> x.shape(0, 0));
    check.refused("23: none to turn", Check.INDEX, () -> x.turned(0, 0));
    check.refused("23: none to place", Check.INDEX, () -> x.place(0, 0, 0, 0, 0));
    check.refused("23: none to nest", Check.INDEX, () -> x.nest(0));
    x.undo();
    Make.addDot(x, 9);
    check.refused("23: no sheet", Check.INDEX, () -> x.sheet(0, 0));
    check.refused("23: no cell", Check.INDEX, () -> x.cell(0, 0));
    check.refused("23: none to spoil", Check.INDEX, () -> x.spoil(0, 0));
    check.refused("23: none to place on", Check.INDEX, () -> x.place(0, 0, 0, 0, 0));
    check.refused("23: none to nest on", Check.ELEMENT, () -> x.nest(0));
    check.refused("23: no remnant", Check.INDEX, () -> x.remnant(0, 0, 0));
    check.refused("23: none to keep", Check.INDEX, () -> x.keep(0, 0));
    check.refused("23: no way", Check.INDEX, () -> x.way(0, 0, -1));
    check.refused("23: no usable cells", Check.ARITHMETIC, () -> x.usedShare());
    check.equal("23: no cells", x.count(3), 0);
    check.equal("23: nor for a text", read(x, "d0:0"), -1);
    check.equal("23: its faults", View.faults(x), " 1 0 3 1 7 0");
  }

  /** A sheet, shape or part in the place of a greater one that was undone has nothing of it. */
  private static void promise23Smaller() {
    SheetNester x = new SheetNester();
    x.addSheet(10, 10, 2);
    x.addShape(4, 4, 0xffff, 2, 99);
    x.place(0, 0, 6, 6, 2);
    for (int i = 0; i < 3; i++) {
      x.undo();
    }
    SheetNester fresh = new SheetNester();
    for (SheetNester y : new SheetNester[] {x, fresh}) {
      y.addSheet(3, 2, 0);
      Make.addDot(y, 3);
      y.place(0, 0, 0, 1, 0);
    }
    check.equal("23: as on a new object", View.of(x), View.of(fresh));
    for (int cell = 6; cell < 100; cell++) {
      int beyond = cell;
      check.refused("23: no cell " + cell, Check.INDEX, () -> x.cell(0, beyond));
      check.refused("23: nor to spoil " + cell, Check.INDEX, () -> x.spoil(0, beyond));
      check.equal("23: nor for a text " + cell, read(x, "d0:" + cell), -1);
      check.equal("23: its faults " + cell, View.faults(x), " 1 0 3 2 7 1");
    }
    check.equal("23: five free cells", x.remnant(0, 0, 0), 5);
    check.equal("23: no second remnant", x.sheet(0, 9), 1);
  }

  private static void promise24() {
    SheetNester x = start();
    check.equal("24: one part", x.saveSnapshot(), 1);
    check.equal("24: no change", x.count(5), 2);
    String saved = View.ofWork(x);
    check.equal("24: changes can be undone as before", x.undo(), 1);
    check.equal("24: to none", x.saveSnapshot(), 0);
    String second = View.ofWork(x);
    x.nestAll();
    check.equal("24: in place of the earlier one", x.restoreSnapshot(), 0);
    check.equal("24: the second", View.ofWork(x), second);
    check.equal("24: not the first", View.ofWork(x).equals(saved), false);
  }

  private static void promise25() {
    SheetNester x = start();
    check.refused("25: none yet", STATE, () -> x.restoreSnapshot());
    check.equal("25: changes stay then", x.count(5), 2);
    x.saveSnapshot();
    String saved = View.ofWork(x);
    x.keep(0, 0);
    x.nestAll();
    x.take(0);
    check.equal("25: one part", x.restoreSnapshot(), 1);
    check.equal("25: the state", View.ofWork(x), saved);
    check.equal("25: nothing can be undone", x.count(5), 0);
    check.refused("25: nothing", STATE, () -> x.undo());
    x.spoil(0, 0);
    x.nest(0);
    check.equal("25: it is kept", x.restoreSnapshot(), 1);
    check.equal("25: as it was", View.ofWork(x), saved);
    x.spoil(0, 0);
    check.equal("25: new changes can be undone", x.undo(), 0);
    check.equal("25: to the snapshot", View.ofWork(x), saved);
  }
}
