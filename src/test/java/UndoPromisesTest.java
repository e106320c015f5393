/** Promises 23 to 25: undo and snapshots. */
final class UndoPromisesTest {
  private static final Class<IllegalStateException> STATE = IllegalStateException.class;
  private static final Check check = new Check("UndoPromisesTest");

  public static void main(String[] args) {
    promise23();
    promise23Each();
    promise23Eight();
    promise24();
    promise25();
    check.end();
  }

  private static int read(SheetNester x, String text) {
    for (int i = 0; i < text.length(); i++) {
      x.feed(text.charAt(i));
    }
    return x.read();
  }

  private static SheetNester start() {
    SheetNester x = new SheetNester();
    read(x, "s5x4;s3x3-;p##/#.:0*5;p#:1*3");
    x.place(0, 0, 1, 1, 0);
    return x;
  }

  private static void promise23() {
    SheetNester x = new SheetNester();
    check.refused("23: nothing yet", STATE, () -> x.undo());
    x.addSheet(2, 2, 0);
    x.addSheet(3, 3, 0);
    check.equal("23: one remains", x.undo(), 1);
    check.equal("23: one sheet", x.count(0), 1);
    check.equal("23: none remains", x.undo(), 0);
    check.equal("23: no sheet", x.count(0), 0);
    check.refused("23: nothing any more", STATE, () -> x.undo());
  }

  private static void undone(String what, SheetNester x, Check.Call call) {
    String before = View.ofWork(x);
    int changes = x.count(5);
    call.answer();
    check.equal("23: " + what + " is a change", x.count(5), changes + 1);
    check.equal("23: undo of " + what, x.undo(), changes);
    check.equal("23: the state before " + what, View.ofWork(x), before);
  }

  private static void promise23Each() {
    SheetNester x = start();
    undone("addSheet", x, () -> x.addSheet(2, 2, 1));
    undone("addShape", x, () -> x.addShape(1, 1, 1, 0, 0));
    undone("spoil", x, () -> x.spoil(0, 0));
    undone("place", x, () -> x.place(1, 1, 0, 0, 0));
    undone("take", x, () -> x.take(0));
    undone("keep", x, () -> x.keep(0, 0));
    undone("nest", x, () -> x.nest(1));
    undone("nestAll", x, () -> x.nestAll());
    undone("read", x, () -> read(x, "d0:0;s2x2;p#:0*1"));
    String before = View.ofWork(x);
    check.refused("23: no change", UnsupportedOperationException.class, () -> x.place(0, 0, 1, 1, 0));
    check.equal("23: a text at fault is none", read(x, "d0:0;q"), -1);
    check.equal("23: nor one with an item at fault", read(x, "d0:0;d0:0"), -1);
    x.saveSnapshot();
    x.feed('s');
    check.equal("23: none of these", x.count(5), 2);
    check.equal("23: the state is as it was", View.ofWork(x), before);
  }

  private static void promise23Eight() {
    SheetNester x = new SheetNester();
    x.addSheet(10, 10, 0);
    String[] states = new String[13];
    for (int i = 0; i < 12; i++) {
      states[i] = View.ofWork(x);
      x.spoil(0, i);
    }
    check.equal("23: the latest eight", x.count(5), 8);
    for (int i = 11; i >= 7; i--) {
      check.equal("23: back to " + i, x.undo(), i - 4);
      check.equal("23: the state " + i, View.ofWork(x), states[i]);
    }
    x.spoil(0, 50);
    check.equal("23: four of them", x.count(5), 4);
    x.undo();
    for (int i = 6; i >= 4; i--) {
      check.equal("23: back to " + i, x.undo(), i - 4);
      check.equal("23: the state " + i, View.ofWork(x), states[i]);
    }
    check.refused("23: what was forgotten stays so", STATE, () -> x.undo());
    check.equal("23: four cells are not usable", x.sheet(0, 4), 4);
  }

  private static void promise24() {
    SheetNester x = start();
    check.equal("24: one part", x.saveSnapshot(), 1);
    check.equal("24: no change", x.count(5), 2);
    String saved = View.ofWork(x);
    check.equal("24: changes can be undone as before", x.undo(), 1);
    check.equal("24: to none", x.saveSnapshot(), 0);
    String second = View.ofWork(x);
    x.nestAll();
    check.equal("24: in place of the earlier one", x.restoreSnapshot(), 0);
    check.equal("24: the second", View.ofWork(x), second);
    check.equal("24: not the first", View.ofWork(x).equals(saved), false);
  }

  private static void promise25() {
    SheetNester x = start();
    check.refused("25: none yet", STATE, () -> x.restoreSnapshot());
    check.equal("25: changes stay then", x.count(5), 2);
    x.saveSnapshot();
    String saved = View.ofWork(x);
    x.keep(0, 0);
    x.nestAll();
    x.take(0);
    check.equal("25: one part", x.restoreSnapshot(), 1);
    check.equal("25: the state", View.ofWork(x), saved);
    check.equal("25: nothing can be undone", x.count(5), 0);
    check.refused("25: nothing", STATE, () -> x.undo());
    x.spoil(0, 0);
    x.nest(0);
    check.equal("25: it is kept", x.restoreSnapshot(), 1);
    check.equal("25: as it was", View.ofWork(x), saved);
    x.spoil(0, 0);
    check.equal("25: new changes can be undone", x.undo(), 0);
    check.equal("25: to the snapshot", View.ofWork(x), saved);
  }
}
