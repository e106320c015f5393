import java.util.ArrayList;
import java.util.List;

/** The boundaries that the promises 23 to 25 name: undo and snapshots. */
final class UndoBoundaries {
  private UndoBoundaries() {}

  static void test(Sentences s) {
    undoRefused(s);
    undoEight(s);
    undoChanges(s);
    undoNoChanges(s);
    undoLeaves(s);
    saveSnapshot(s);
    restoreRefused(s);
    restoreSnapshot(s);
  }

  private static void undoRefused(Sentences s) {
    s.of(23, "Throws `IllegalStateException` if there is none", due -> {
      SheetNester x = new SheetNester();
      due.refusedQuietly("a new object", x, Check.STATE, () -> x.undo());
      x.addSheet(2, 2, 0);
      x.undo();
      due.refusedQuietly("the only one was undone", x, Check.STATE, () -> x.undo());
      SheetNester y = Make.busy();
      y.saveSnapshot();
      y.restoreSnapshot();
      due.refusedQuietly("a snapshot was restored", y, Check.STATE, () -> y.undo());
      due.equal("what is there stays", y.count(2), 1);
    });
    s.of(23, "Returns the number of changes that can still be undone.", due -> {
      SheetNester x = new SheetNester();
      for (int i = 0; i < 8; i++) {
        x.nestAll();
      }
      for (int left = 7; left >= 0; left--) {
        due.equal("what is left", x.undo(), left);
        due.equal("as it is counted", x.count(5), left);
      }
    });
  }

  private static void undoEight(Sentences s) {
    s.of(23, "The latest 8 can be undone.", due -> {
      for (int changes = 7; changes <= 30; changes++) {
        SheetNester x = new SheetNester();
        x.addSheet(6, 5, 0);
        List<String> views = new ArrayList<>();
        for (int change = 1; change < changes; change++) {
          views.add(View.ofWork(x));
          x.spoil(0, change);
        }
        int known = Math.min(8, changes);
        due.equal(changes + " changes", x.count(5), known);
        for (int left = known - 1; left >= 0; left--) {
          due.equal(changes + " changes, what is left", x.undo(), left);
          int before = changes - known + left - 1;
          due.equal(changes + " changes, to the one before", View.ofWork(x), before < 0 ? "" : views.get(before));
        }
        due.refusedQuietly(changes + " changes, a ninth", x, Check.STATE, () -> x.undo());
      }
    });
    s.of(23, "What was forgotten when there were more than 8 changes stays forgotten.", due -> {
      SheetNester x = new SheetNester();
      for (int sheet = 0; sheet < 6; sheet++) {
        x.addSheet(2, 2, 0);
      }
      for (int shape = 0; shape < 3; shape++) {
        Make.addDot(x, 1);
      }
      for (int left = 7; left >= 0; left--) {
        x.undo();
      }
      due.refusedQuietly("the first of nine", x, Check.STATE, () -> x.undo());
      due.equal("its sheet", x.count(0), 1);
      x.addSheet(3, 3, 0);
      due.equal("a new change alone is undone", x.undo(), 0);
      due.refusedQuietly("and again no other", x, Check.STATE, () -> x.undo());
      due.equal("its sheet stays", x.count(0), 1);
    });
  }

  private static void changes(Check due, String what, SheetNester x, Check.Call call) {
    String before = View.ofWork(x);
    int changes = x.count(5);
    call.answer();
    due.equal(what + " is a change", x.count(5), changes + 1);
    due.equal(what + " can be undone", x.undo(), changes);
    due.equal(what + ", what is there then", View.ofWork(x), before);
  }

  private static void undoChanges(Sentences s) {
    s.of(23, "The changes are the successful calls of addSheet, addShape, spoil, place, take, keep, nest, nestAll and "
        + "read", due -> {
      SheetNester x = Make.busy();
      Make.read(x, "!");
      changes(due, "addSheet", x, () -> x.addSheet(10, 10, 2));
      changes(due, "addShape", x, () -> x.addShape(4, 4, 0xffff, 2, 99));
      changes(due, "spoil", x, () -> x.spoil(1, 3));
      changes(due, "place", x, () -> x.place(0, 1, 0, 0, 2));
      changes(due, "take", x, () -> x.take(0));
      changes(due, "keep", x, () -> x.keep(1, 0));
      changes(due, "nest", x, () -> x.nest(2));
      changes(due, "nestAll", x, () -> x.nestAll());
      changes(due, "read", x, () -> Make.read(x, "s2x2;p#:0*1;d0:2;d1:0"));
    });
    s.of(23, "Undoes the latest change that can be undone.", due -> {
      SheetNester x = Make.sheet("...", "...");
      Make.addDot(x, 9);
      x.place(0, 0, 0, 0, 0);
      x.place(0, 0, 1, 0, 0);
      x.take(0);
      x.undo();
      due.equal("the numbers of parts come back", View.cells(x, 0), " 0 1 -1 -1 -1 -1");
      due.equal("the stock, too", x.shape(0, 4), 7);
      due.equal("and their number", x.count(2), 2);
      due.equal("and their columns", x.part(0, 2) * 10 + x.part(1, 2), 1);
      x.keep(0, 0);
      x.addSheet(3, 3, 1);
      x.undo();
      due.equal("the latest alone", x.count(0), 2);
      x.undo();
      due.equal("the cells of a remnant come back", View.cells(x, 0), " 0 1 -1 -1 -1 -1");
    });
  }

  private static void undoNoChanges(Sentences s) {
    s.of(23, "where read is successful if it finds no fault", due -> {
      SheetNester x = Make.busy();
      String before = View.ofWork(x);
      due.equal("a text at fault", Make.read(x, "!"), -1);
      due.equal("an item that cannot be carried out", Make.read(x, "s2x2;d0:5"), -1);
      due.equal("no text", x.read(), -1);
      due.equal("as many changes as before", x.count(5), 3);
      due.equal("all as before", View.ofWork(x), before);
      x.undo();
      due.equal("the one before them is undone", x.count(0), 1);
      SheetNester y = new SheetNester();
      y.addSheet(3, 3, 0);
      for (int cell = 0; cell < 8; cell++) {
        y.spoil(0, cell);
      }
      for (int i = 0; i < 8; i++) {
        Make.read(y, "d0:8;s2x2;d0:0");
        Make.read(y, "d0:8;");
      }
      for (int left = 7; left >= 0; left--) {
        due.equal("they push nothing out", y.undo(), left);
        due.equal("back to the cell " + left, y.sheet(0, 4), left);
      }
    });
    s.of(23, "A method that throws an exception leaves the state unchanged unless its documentation says otherwise.",
        due -> {
      SheetNester x = fullOfAll();
      List<String> views = new ArrayList<>();
      for (int i = 0; i < 8; i++) {
        views.add(View.ofWork(x));
        x.spoil(0, 90 + i);
      }
      refuseAll(due, x);
      for (int i = 7; i >= 0; i--) {
        due.equal("what is left", x.undo(), i);
        due.equal("to before the cell " + (90 + i), View.ofWork(x), views.get(i));
      }
      due.refusedQuietly("no ninth", x, Check.STATE, () -> x.undo());
    });
  }

  /** Six sheets, eight shapes, 20 parts, and 70 characters in the input. */
  private static SheetNester fullOfAll() {
    SheetNester x = new SheetNester();
    x.addSheet(10, 10, 0);
    Make.read(x, "s2x2;s2x2;s2x2;s2x2;s2x2");
    Make.read(x, "p#:0*50;p#:0*1;p#:0*1;p#:0*1;p#:0*1;p#:0*1;p#:0*1;p#:0*1");
    for (int part = 0; part < 20; part++) {
      x.place(0, 0, part % 10, part / 10, 0);
    }
    Make.feed(x, "x".repeat(70));
    return x;
  }

  private static void refuseAll(Check due, SheetNester x) {
    due.refused("place, for its reasons", Check.UNSUPPORTED, () -> x.place(0, 0, 5, 5, 0));
    due.refusedQuietly("addSheet", x, Check.STATE, () -> x.addSheet(2, 2, 0));
    due.refusedQuietly("addShape", x, Check.STATE, () -> x.addShape(1, 1, 1, 0, 1));
    due.refusedQuietly("spoil", x, Check.UNSUPPORTED, () -> x.spoil(0, 0));
    due.refusedQuietly("sheet", x, Check.INDEX, () -> x.sheet(6, 0));
    due.refusedQuietly("cell", x, Check.INDEX, () -> x.cell(0, 100));
    due.refusedQuietly("shape", x, Check.INDEX, () -> x.shape(8, 0));
    due.refusedQuietly("turned", x, Check.ARGUMENT, () -> x.turned(0, 4));
    due.refusedQuietly("place", x, Check.UNSUPPORTED, () -> x.place(0, 0, 9, 9, 0));
    due.refusedQuietly("take", x, Check.INDEX, () -> x.take(20));
    due.refusedQuietly("part", x, Check.INDEX, () -> x.part(20, 0));
    due.refusedQuietly("reason", x, Check.ELEMENT, () -> x.reason(3, false));
    due.refusedQuietly("nest", x, Check.ELEMENT, () -> x.nest(0));
    due.refusedQuietly("remnant", x, Check.INDEX, () -> x.remnant(0, 1, 0));
    due.refusedQuietly("keep", x, Check.STATE, () -> x.keep(0, 0));
    due.refusedQuietly("way", x, Check.UNSUPPORTED, () -> x.way(0, 1, 0));
    due.refusedQuietly("count", x, Check.ARGUMENT, () -> x.count(7));
    due.refusedQuietly("feed", x, Check.STATE, () -> x.feed('s'));
    due.refusedQuietly("fault", x, Check.ELEMENT, () -> x.fault(0, false));
    due.refusedQuietly("restoreSnapshot", x, Check.STATE, () -> x.restoreSnapshot());
  }

  private static void undoLeaves(Sentences s) {
    s.of(23, "Reasons, faults and the input are neither undone nor saved, and stay.", due -> {
      SheetNester x = Make.busy();
      for (int left = 2; left >= 0; left--) {
        due.equal("what is left", x.undo(), left);
        due.equal("the reasons", View.reasons(x), " 1 1 5 0 8 0");
        due.equal("the faults", View.faults(x), " 1 0 3 5 7 1");
        due.equal("the input", x.count(6), 2);
      }
      due.equal("there is no sheet then", x.count(0), 0);
      due.equal("the input goes on", Make.read(x, "x2"), 1);
    });
  }

  private static void saveSnapshot(Sentences s) {
    s.of(24, "Saves sheets, shapes and parts, in place of an earlier snapshot.", due -> {
      SheetNester x = new SheetNester();
      x.saveSnapshot();
      Make.read(x, "s3x2;p#:0*9;p##:1*2");
      x.place(0, 0, 0, 0, 0);
      x.saveSnapshot();
      String saved = View.ofWork(x);
      x.take(0);
      x.keep(0, 0);
      x.nestAll();
      x.addShape(1, 1, 1, 0, 1);
      x.restoreSnapshot();
      due.equal("the later one", View.ofWork(x), saved);
      SheetNester y = Make.busy();
      y.saveSnapshot();
      for (int i = 0; i < 3; i++) {
        y.undo();
      }
      y.saveSnapshot();
      y.addSheet(2, 2, 0);
      due.equal("an empty one in place of another", y.restoreSnapshot(), 0);
      due.equal("without sheets", y.count(0), 0);
      due.equal("without shapes", y.count(1), 0);
    });
    s.of(24, "Changes can be undone as before.", due -> {
      SheetNester x = Make.busy();
      String before = View.of(x);
      x.saveSnapshot();
      due.equal("saving is no change, and is seen nowhere", View.of(x), before);
      for (int left = 2; left >= 0; left--) {
        due.equal("what is left", x.undo(), left);
        x.saveSnapshot();
        due.equal("as many as before", x.count(5), left);
      }
    });
    s.of(24, "Returns the number of parts.", due -> {
      SheetNester x = new SheetNester();
      due.equal("an empty nester", x.saveSnapshot(), 0);
      x.addSheet(10, 10, 0);
      Make.addDot(x, 99);
      for (int parts = 1; parts <= 20; parts++) {
        x.place(0, 0, parts % 10, parts / 10, 0);
        due.equal("with parts", x.saveSnapshot(), parts);
      }
    });
  }

  private static void restoreRefused(Sentences s) {
    s.of(25, "Throws `IllegalStateException` if there is none", due -> {
      SheetNester x = new SheetNester();
      due.refusedQuietly("a new object", x, Check.STATE, () -> x.restoreSnapshot());
      SheetNester y = Make.busy();
      due.refusedQuietly("none was saved", y, Check.STATE, () -> y.restoreSnapshot());
      due.equal("changes can be undone as before", y.undo(), 2);
      y.saveSnapshot();
      y.undo();
      due.equal("one was saved", y.restoreSnapshot(), 1);
    });
    s.of(25, "Restores the latest snapshot, which is kept.", due -> {
      SheetNester x = Make.busy();
      x.saveSnapshot();
      String saved = View.ofWork(x);
      for (int time = 0; time < 3; time++) {
        x.keep(1, 0);
        x.take(0);
        x.nestAll();
        x.addShape(4, 4, 0xffff, 0, 1);
        due.equal("restored with its part", x.restoreSnapshot(), 1);
        due.equal("as it was", View.ofWork(x), saved);
      }
      due.equal("at once again", x.restoreSnapshot(), 1);
      SheetNester y = new SheetNester();
      y.saveSnapshot();
      Make.read(y, "s9x9;p##/##:0*9");
      y.nestAll();
      due.equal("one of an empty nester", y.restoreSnapshot(), 0);
      due.equal("it is empty", View.ofWork(y), "");
      due.equal("the next sheet is the first", y.addSheet(2, 2, 0), 0);
    });
  }

  private static void restoreSnapshot(Sentences s) {
    s.of(25, "Nothing can be undone then.", due -> {
      SheetNester x = Make.busy();
      x.saveSnapshot();
      x.restoreSnapshot();
      due.equal("no change", x.count(5), 0);
      due.refusedQuietly("none to undo", x, Check.STATE, () -> x.undo());
      for (int i = 1; i <= 10; i++) {
        x.nestAll();
        due.equal("later ones count from anew", x.count(5), Math.min(i, 8));
      }
      x.restoreSnapshot();
      String restored = View.ofWork(x);
      x.spoil(0, 4);
      due.equal("a later one can be undone", x.undo(), 0);
      due.equal("which leads back to the snapshot", View.ofWork(x), restored);
      due.refusedQuietly("but not farther", x, Check.STATE, () -> x.undo());
    });
    s.of(25, "Returns the number of parts.", due -> {
      SheetNester x = new SheetNester();
      x.addSheet(10, 2, 0);
      Make.addDot(x, 20);
      x.saveSnapshot();
      x.nestAll();
      due.equal("none of 20", x.restoreSnapshot(), 0);
      x.nestAll();
      due.equal("all of 20", x.saveSnapshot(), 20);
      x.take(0);
      due.equal("20 again", x.restoreSnapshot(), 20);
    });
    s.of(25, "Reasons, faults and the input are neither undone nor saved, and stay.", due -> {
      SheetNester x = new SheetNester();
      x.saveSnapshot();
      due.equal("saved without them", View.of(x), "counts 0 0 0 0 0 0 0; reasons; faults");
      SheetNester y = Make.busy();
      y.saveSnapshot();
      y.feed('x');
      y.restoreSnapshot();
      due.equal("the reasons", View.reasons(y), " 1 1 5 0 8 0");
      due.equal("the faults", View.faults(y), " 1 0 3 5 7 1");
      due.equal("the input goes on", Make.read(y, "2"), 1);
    });
  }
}
