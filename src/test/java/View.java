import java.util.NoSuchElementException;

/** What can be seen of a nester without changing it, as a text. */
final class View {
  private View() {}

  /** Everything, the reasons, the faults and the counts too. */
  static String of(SheetNester x) {
    StringBuilder view = new StringBuilder(ofWork(x)).append("counts");
    for (int what = 0; what < 7; what++) {
      view.append(' ').append(x.count(what));
    }
    return view.append("; reasons").append(causes(x, false)).append("; faults").append(causes(x, true)).toString();
  }

  /** What undo and snapshots lead back to: sheets, shapes and parts. */
  static String ofWork(SheetNester x) {
    StringBuilder view = new StringBuilder();
    for (int sheet = 0; sheet < x.count(0); sheet++) {
      view.append("sheet");
      for (int what = 0; what < 10; what++) {
        view.append(' ').append(x.sheet(sheet, what));
      }
      view.append(" cells").append(cells(x, sheet)).append("; ");
    }
    for (int shape = 0; shape < x.count(1); shape++) {
      view.append("shape");
      for (int what = 0; what < 8; what++) {
        view.append(' ').append(x.shape(shape, what));
      }
      view.append("; ");
    }
    for (int part = 0; part < x.count(2); part++) {
      view.append("part");
      for (int what = 0; what < 8; what++) {
        view.append(' ').append(x.part(part, what));
      }
      view.append("; ");
    }
    return view.toString();
  }

  /** The cells of a sheet, each with a space ahead of it. */
  static String cells(SheetNester x, int sheet) {
    StringBuilder cells = new StringBuilder();
    for (int cell = 0; cell < x.sheet(sheet, 0) * x.sheet(sheet, 1); cell++) {
      cells.append(' ').append(x.cell(sheet, cell));
    }
    return cells.toString();
  }

  /** The reasons as kinds and places from level 0, each with a space ahead of it. */
  static String reasons(SheetNester x) {
    return causes(x, false);
  }

  static String faults(SheetNester x) {
    return causes(x, true);
  }

  private static String causes(SheetNester x, boolean isFault) {
    StringBuilder causes = new StringBuilder();
    for (int level = 0; level < 5; level++) {
      try {
        int kind = isFault ? x.fault(level, false) : x.reason(level, false);
        int place = isFault ? x.fault(level, true) : x.reason(level, true);
        causes.append(' ').append(kind).append(' ').append(place);
      } catch (NoSuchElementException e) {
        return causes.toString();
      }
    }
    return causes.append(" too many").toString();
  }
}
