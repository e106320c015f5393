import java.util.ArrayDeque;
import java.util.ArrayList;
import java.util.Comparator;
import java.util.HashMap;
import java.util.HashSet;
import java.util.List;
import java.util.Map;
import java.util.NoSuchElementException;
import java.util.Set;
import java.util.TreeSet;
import java.util.regex.Matcher;
import java.util.regex.Pattern;

/** The document once more, written for plainness alone and by other means than the class itself. */
final class Model {
  record Sheet(int columns, int rows, int grain, Set<Integer> usable) {
    Sheet copy() {
      return new Sheet(columns, rows, grain, new TreeSet<>(usable));
    }

    boolean isEdge(int cell) {
      int column = cell % columns;
      int row = cell / columns;
      return column == 0 || row == 0 || column == columns - 1 || row == rows - 1;
    }

    List<Integer> neighbors(int cell) {
      List<Integer> result = new ArrayList<>();
      for (int other : new int[] {cell - columns, cell - 1, cell + 1, cell + columns}) {
        if (other >= 0 && other < columns * rows && distance(cell, other) == 1) {
          result.add(other);
        }
      }
      return result;
    }

    int distance(int a, int b) {
      return Math.abs(a % columns - b % columns) + Math.abs(a / columns - b / columns);
    }

    Set<Integer> reach(Set<Integer> from, Set<Integer> allowed) {
      Set<Integer> reached = new TreeSet<>(from);
      boolean grows = true;
      while (grows) {
        Set<Integer> more = new TreeSet<>();
        for (int cell : reached) {
          more.addAll(neighbors(cell));
        }
        more.retainAll(allowed);
        grows = reached.addAll(more);
      }
      return reached;
    }
  }

  /** The rows are texts of # and dots; the stock is the only thing that changes. */
  static final class Shape {
    final List<String> field;
    final int rule;
    int stock;

    Shape(List<String> field, int rule, int stock) {
      this.field = field;
      this.rule = rule;
      this.stock = stock;
    }

    Shape copy() {
      return new Shape(field, rule, stock);
    }
  }

  record Part(int shape, int sheet, int column, int row, int turn, TreeSet<Integer> cells) {}

  static final class State {
    final List<Sheet> sheets = new ArrayList<>();
    final List<Shape> shapes = new ArrayList<>();
    final List<Part> parts = new ArrayList<>();

    State copy() {
      State copy = new State();
      sheets.forEach(s -> copy.sheets.add(s.copy()));
      shapes.forEach(s -> copy.shapes.add(s.copy()));
      copy.parts.addAll(parts);
      return copy;
    }
  }

  private static final Pattern TEXT = Pattern.compile(
      "ITEM(;ITEM)*".replace("ITEM",
          "(s[0-9][0-9]?x[0-9][0-9]?[-|]?|p[#.]+(/[#.]+)*:[0-9]\\*[0-9][0-9]?|d[0-9]:[0-9][0-9]?)"));

  private State now = new State();
  private State snapshot = null;
  private final ArrayDeque<State> changes = new ArrayDeque<>();
  private List<int[]> reasons = new ArrayList<>();
  private List<int[]> faults = new ArrayList<>();
  private String input = "";

  private void change(State before) {
    changes.addLast(before);
    if (changes.size() > 8) {
      changes.removeFirst();
    }
  }

  // ---- shapes

  static List<String> fieldOf(int columns, int rows, int covered) {
    List<String> field = new ArrayList<>();
    for (int r = 0; r < rows; r++) {
      String row = "";
      for (int c = 0; c < columns; c++) {
        row += (covered & 1 << (c + columns * r)) != 0 ? "#" : ".";
      }
      field.add(row);
    }
    return field;
  }

  static int coveredOf(List<String> field) {
    String bits = new StringBuilder(String.join("", field)).reverse().toString();
    return Integer.parseInt(bits.replace('#', '1').replace('.', '0'), 2);
  }

  static List<String> turn(List<String> field, int turn) {
    List<String> result = field;
    for (int i = 0; i < turn; i++) {
      List<String> next = new ArrayList<>();
      for (int column = 0; column < result.get(0).length(); column++) {
        String upwards = "";
        for (String row : result) {
          upwards = row.charAt(column) + upwards;
        }
        next.add(upwards);
      }
      result = next;
    }
    return result;
  }

  static boolean isSound(List<String> field) {
    int columns = field.get(0).length();
    if (field.size() > 4 || columns > 4 || field.stream().anyMatch(r -> r.length() != columns)) {
      return false;
    }
    if (field.stream().anyMatch(r -> !r.contains("#")) || turn(field, 1).stream().anyMatch(r -> !r.contains("#"))) {
      return false;
    }
    Set<Integer> covered = new TreeSet<>();
    String all = String.join("", field);
    for (int i = 0; i < all.length(); i++) {
      if (all.charAt(i) == '#') {
        covered.add(i);
      }
    }
    Sheet field2 = new Sheet(columns, field.size(), 0, covered);
    return field2.reach(Set.of(covered.iterator().next()), covered).equals(covered);
  }

  // ---- the face

  int addSheet(int columns, int rows, int grain) {
    if (columns < 2 || columns > 10 || rows < 2 || rows > 10 || grain < 0 || grain > 2) {
      throw new IllegalArgumentException();
    }
    if (now.sheets.size() == 6) {
      throw new IllegalStateException();
    }
    change(now.copy());
    return newSheet(now, columns, rows, grain);
  }

  private static int newSheet(State state, int columns, int rows, int grain) {
    Set<Integer> usable = new TreeSet<>();
    for (int cell = 0; cell < columns * rows; cell++) {
      usable.add(cell);
    }
    state.sheets.add(new Sheet(columns, rows, grain, usable));
    return state.sheets.size() - 1;
  }

  int addShape(int columns, int rows, int covered, int rule, int stock) {
    if (columns < 1 || columns > 4 || rows < 1 || rows > 4 || covered < 0 || (covered >> (columns * rows)) != 0
        || rule < 0 || rule > 2 || stock < 0 || stock > 99 || !isSound(fieldOf(columns, rows, covered))) {
      throw new IllegalArgumentException();
    }
    if (now.shapes.size() == 8) {
      throw new IllegalStateException();
    }
    change(now.copy());
    now.shapes.add(new Shape(fieldOf(columns, rows, covered), rule, stock));
    return now.shapes.size() - 1;
  }

  private Sheet sheetAt(int sheet) {
    if (sheet < 0 || sheet >= now.sheets.size()) {
      throw new IndexOutOfBoundsException();
    }
    return now.sheets.get(sheet);
  }

  private Shape shapeAt(int shape) {
    if (shape < 0 || shape >= now.shapes.size()) {
      throw new IndexOutOfBoundsException();
    }
    return now.shapes.get(shape);
  }

  private Part partAt(int part) {
    if (part < 0 || part >= now.parts.size()) {
      throw new IndexOutOfBoundsException();
    }
    return now.parts.get(part);
  }

  private static int on(State state, int sheet, int cell) {
    if (!state.sheets.get(sheet).usable().contains(cell)) {
      return -2;
    }
    for (int part = 0; part < state.parts.size(); part++) {
      if (state.parts.get(part).sheet() == sheet && state.parts.get(part).cells().contains(cell)) {
        return part;
      }
    }
    return -1;
  }

  private static Set<Integer> freeCells(State state, int sheet) {
    Set<Integer> free = new TreeSet<>(state.sheets.get(sheet).usable());
    free.removeIf(cell -> on(state, sheet, cell) != -1);
    return free;
  }

  int spoil(int sheet, int cell) {
    int on = cell(sheet, cell);
    if (on != -1) {
      throw new UnsupportedOperationException();
    }
    change(now.copy());
    now.sheets.get(sheet).usable().remove(cell);
    return freeCells(now, sheet).size();
  }

  int cell(int sheet, int cell) {
    Sheet s = sheetAt(sheet);
    if (cell < 0 || cell >= s.columns() * s.rows()) {
      throw new IndexOutOfBoundsException();
    }
    return on(now, sheet, cell);
  }

  int sheet(int sheet, int what) {
    Sheet s = sheetAt(sheet);
    int cells = s.columns() * s.rows();
    switch (what) {
      case 0: return s.columns();
      case 1: return s.rows();
      case 2: return s.grain();
      case 3: return freeCells(now, sheet).size();
      case 4: return cells - s.usable().size();
      case 5: return s.usable().size() - freeCells(now, sheet).size();
      case 6: return partsOn(sheet).size();
      case 7: return cuts(sheet, false);
      case 8: return cuts(sheet, true);
      case 9: return remnants(sheet).size();
      default: throw new IllegalArgumentException();
    }
  }

  private int cuts(int sheet, boolean isCommon) {
    Sheet s = now.sheets.get(sheet);
    int cuts = 0;
    for (int a = 0; a < s.columns() * s.rows(); a++) {
      for (int b : s.neighbors(a)) {
        int onA = on(now, sheet, a);
        int onB = on(now, sheet, b);
        boolean counts = isCommon ? Math.min(onA, onB) >= 0 : Math.max(onA, onB) >= 0;
        if (a < b && onA != onB && counts) {
          cuts++;
        }
      }
    }
    return cuts;
  }

  private int commonCuts(State state, int sheet, Set<Integer> cells) {
    int cuts = 0;
    for (int cell : cells) {
      for (int next : state.sheets.get(sheet).neighbors(cell)) {
        if (!cells.contains(next) && on(state, sheet, next) >= 0) {
          cuts++;
        }
      }
    }
    return cuts;
  }

  private List<Integer> partsOn(int sheet) {
    List<Integer> result = new ArrayList<>();
    for (int part = 0; part < now.parts.size(); part++) {
      if (now.parts.get(part).sheet() == sheet) {
        result.add(part);
      }
    }
    return result;
  }

  int shape(int shape, int what) {
    Shape s = shapeAt(shape);
    switch (what) {
      case 0: return s.field.get(0).length();
      case 1: return s.field.size();
      case 2: return coveredOf(s.field);
      case 3: return s.rule;
      case 4: return s.stock;
      case 5: return String.join("", s.field).replace(".", "").length();
      case 6: return (int) now.parts.stream().filter(p -> p.shape() == shape).count();
      case 7:
        Set<List<String>> turns = new HashSet<>();
        for (int turn = 0; turn < 4; turn++) {
          turns.add(turn(s.field, turn));
        }
        return turns.size();
      default: throw new IllegalArgumentException();
    }
  }

  int turned(int shape, int turn) {
    Shape s = shapeAt(shape);
    if (turn < 0 || turn > 3) {
      throw new IllegalArgumentException();
    }
    return coveredOf(turn(s.field, turn));
  }

  private static boolean grainAllows(Shape shape, Sheet sheet, int turn) {
    if (shape.rule == 0 || sheet.grain() == 0) {
      return true;
    }
    int rowsLieAlong = turn == 0 || turn == 2 ? 1 : 2;
    return shape.rule == 1 ? rowsLieAlong == sheet.grain() : rowsLieAlong != sheet.grain();
  }

  /** The reasons below that of level 0, or none if the shape can be placed. */
  private static List<int[]> obstacles(State state, int shape, int sheet, long column, long row, int turn) {
    Shape f = state.shapes.get(shape);
    Sheet s = state.sheets.get(sheet);
    if (!grainAllows(f, s, turn)) {
      return List.of(new int[] {2, turn});
    }
    if (f.stock == 0) {
      return List.of(new int[] {3, (int) state.parts.stream().filter(p -> p.shape() == shape).count()});
    }
    if (state.parts.size() == 20) {
      return List.of(new int[] {4, 20});
    }
    int number = 0;
    List<String> field = turn(f.field, turn);
    for (int r = 0; r < field.size(); r++) {
      for (int c = 0; c < field.get(r).length(); c++) {
        if (field.get(r).charAt(c) == '#') {
          int[] obstacle = obstacle(state, sheet, column + c, row + r);
          if (obstacle != null) {
            return List.of(new int[] {5, number}, obstacle);
          }
          number++;
        }
      }
    }
    return List.of();
  }

  private static int[] obstacle(State state, int sheet, long column, long row) {
    Sheet s = state.sheets.get(sheet);
    boolean[] beyond = {row < 0, column > s.columns() - 1, row > s.rows() - 1, column < 0};
    for (int side = 0; side < 4; side++) {
      if (beyond[side]) {
        return new int[] {6, side};
      }
    }
    int cell = (int) (row * s.columns() + column);
    int on = on(state, sheet, cell);
    return on == -1 ? null : on == -2 ? new int[] {7, cell} : new int[] {8, on};
  }

  private static TreeSet<Integer> cellsOf(State state, int shape, int sheet, int column, int row, int turn) {
    TreeSet<Integer> cells = new TreeSet<>();
    List<String> field = turn(state.shapes.get(shape).field, turn);
    for (int r = 0; r < field.size(); r++) {
      for (int c = 0; c < field.get(r).length(); c++) {
        if (field.get(r).charAt(c) == '#') {
          cells.add((row + r) * state.sheets.get(sheet).columns() + column + c);
        }
      }
    }
    return cells;
  }

  private static int put(State state, Part part) {
    state.parts.add(part);
    state.shapes.get(part.shape()).stock--;
    return state.parts.size() - 1;
  }

  int place(int shape, int sheet, int column, int row, int turn) {
    shapeAt(shape);
    sheetAt(sheet);
    if (turn < 0 || turn > 3) {
      throw new IllegalArgumentException();
    }
    List<int[]> obstacles = obstacles(now, shape, sheet, column, row, turn);
    if (!obstacles.isEmpty()) {
      reasons = new ArrayList<>();
      reasons.add(new int[] {1, shape});
      reasons.addAll(obstacles);
      throw new UnsupportedOperationException();
    }
    change(now.copy());
    return put(now, new Part(shape, sheet, column, row, turn, cellsOf(now, shape, sheet, column, row, turn)));
  }

  int take(int part) {
    Part p = partAt(part);
    change(now.copy());
    now.shapes.get(p.shape()).stock++;
    now.parts.remove(part);
    return now.parts.size();
  }

  private boolean liesWithin(int part, int other) {
    Part p = now.parts.get(part);
    Part o = now.parts.get(other);
    if (part == other || p.sheet() != o.sheet()) {
      return false;
    }
    Sheet s = now.sheets.get(p.sheet());
    Set<Integer> allowed = new TreeSet<>();
    for (int cell = 0; cell < s.columns() * s.rows(); cell++) {
      if (!o.cells().contains(cell)) {
        allowed.add(cell);
      }
    }
    return s.reach(p.cells(), allowed).stream().noneMatch(s::isEdge);
  }

  int part(int part, int what) {
    Part p = partAt(part);
    switch (what) {
      case 0: return p.shape();
      case 1: return p.sheet();
      case 2: return p.column();
      case 3: return p.row();
      case 4: return p.turn();
      case 5: return p.cells().first();
      case 6:
        int best = -1;
        for (int other = 0; other < now.parts.size(); other++) {
          if (liesWithin(part, other)
              && (best < 0 || now.parts.get(other).cells().size() < now.parts.get(best).cells().size())) {
            best = other;
          }
        }
        return best;
      case 7: return commonCuts(now, p.sheet(), p.cells());
      default: throw new IllegalArgumentException();
    }
  }

  private static int cause(List<int[]> causes, int level, boolean isPlace) {
    if (level < 0 || level >= causes.size()) {
      throw new NoSuchElementException();
    }
    return causes.get(level)[isPlace ? 1 : 0];
  }

  int reason(int level, boolean isPlace) {
    return cause(reasons, level, isPlace);
  }

  private record Choice(int sheet, int cuts, int row, int column, int turn) {}

  private Choice bestChoice(State state, int shape) {
    List<Choice> choices = new ArrayList<>();
    for (int sheet = state.sheets.size() - 1; sheet >= 0; sheet--) {
      for (int column = -3; column < 10; column++) {
        for (int row = -3; row < 10; row++) {
          for (int turn = 0; turn < 4; turn++) {
            if (obstacles(state, shape, sheet, column, row, turn).isEmpty()) {
              int cuts = commonCuts(state, sheet, cellsOf(state, shape, sheet, column, row, turn));
              choices.add(new Choice(sheet, cuts, row, column, turn));
            }
          }
        }
      }
    }
    choices.sort(Comparator.comparingInt(Choice::sheet).thenComparingInt(c -> -c.cuts())
        .thenComparingInt(Choice::row).thenComparingInt(Choice::column).thenComparingInt(Choice::turn));
    return choices.isEmpty() ? null : choices.get(0);
  }

  private int carryOut(int shape, Choice c) {
    return put(now, new Part(shape, c.sheet(), c.column(), c.row(), c.turn(),
        cellsOf(now, shape, c.sheet(), c.column(), c.row(), c.turn())));
  }

  int nest(int shape) {
    shapeAt(shape);
    Choice choice = bestChoice(now, shape);
    if (choice == null) {
      throw new NoSuchElementException();
    }
    change(now.copy());
    return carryOut(shape, choice);
  }

  int nestAll() {
    change(now.copy());
    int placed = 0;
    boolean isPossible = true;
    while (isPossible) {
      int best = -1;
      Choice choice = null;
      for (int shape = 0; shape < now.shapes.size(); shape++) {
        if (best < 0 || shape(shape, 5) > shape(best, 5)) {
          Choice possible = bestChoice(now, shape);
          if (possible != null) {
            best = shape;
            choice = possible;
          }
        }
      }
      isPossible = best >= 0;
      if (isPossible) {
        carryOut(best, choice);
        placed++;
      }
    }
    return placed;
  }

  private List<Set<Integer>> remnants(int sheet) {
    Set<Integer> free = freeCells(now, sheet);
    List<Set<Integer>> result = new ArrayList<>();
    for (int cell : free) {
      if (result.stream().noneMatch(r -> r.contains(cell))) {
        result.add(now.sheets.get(sheet).reach(Set.of(cell), free));
      }
    }
    return result;
  }

  private Set<Integer> remnantAt(int sheet, int remnant) {
    sheetAt(sheet);
    List<Set<Integer>> all = remnants(sheet);
    if (remnant < 0 || remnant >= all.size()) {
      throw new IndexOutOfBoundsException();
    }
    return all.get(remnant);
  }

  /** The first and last column, and the first and last row, over which the cells reach. */
  private static int[] bounds(Set<Integer> cells, int columns) {
    return new int[] {
      cells.stream().mapToInt(c -> c % columns).min().getAsInt(),
      cells.stream().mapToInt(c -> c % columns).max().getAsInt(),
      cells.stream().mapToInt(c -> c / columns).min().getAsInt(),
      cells.stream().mapToInt(c -> c / columns).max().getAsInt()
    };
  }

  private static int greatestRectangle(Set<Integer> cells, int columns) {
    int greatest = 0;
    for (int a : cells) {
      for (int b : cells) {
        int width = b % columns - a % columns + 1;
        int height = b / columns - a / columns + 1;
        boolean isFull = width > 0 && height > 0;
        for (int r = 0; r < height; r++) {
          for (int c = 0; c < width; c++) {
            isFull = isFull && cells.contains(a + r * columns + c);
          }
        }
        greatest = isFull ? Math.max(greatest, width * height) : greatest;
      }
    }
    return greatest;
  }

  int remnant(int sheet, int remnant, int what) {
    Set<Integer> cells = remnantAt(sheet, remnant);
    int columns = now.sheets.get(sheet).columns();
    int[] bounds = bounds(cells, columns);
    switch (what) {
      case 0: return cells.size();
      case 1: return cells.iterator().next();
      case 2: return bounds[1] - bounds[0] + 1;
      case 3: return bounds[3] - bounds[2] + 1;
      case 4: return greatestRectangle(cells, columns);
      default: throw new IllegalArgumentException();
    }
  }

  int keep(int sheet, int remnant) {
    Set<Integer> cells = remnantAt(sheet, remnant);
    if (now.sheets.size() == 6) {
      throw new IllegalStateException();
    }
    change(now.copy());
    Sheet old = now.sheets.get(sheet);
    int[] bounds = bounds(cells, old.columns());
    int columns = Math.max(2, bounds[1] - bounds[0] + 1);
    int rows = Math.max(2, bounds[3] - bounds[2] + 1);
    Set<Integer> usable = new TreeSet<>();
    for (int cell : cells) {
      usable.add((cell / old.columns() - bounds[2]) * columns + cell % old.columns() - bounds[0]);
    }
    old.usable().removeAll(cells);
    now.sheets.add(new Sheet(columns, rows, old.grain(), usable));
    return now.sheets.size() - 1;
  }

  private final Map<Integer, List<Integer>> inner = new HashMap<>();
  private List<Integer> bestOrder;
  private int bestLength;

  int way(int sheet, int way, int i) {
    sheetAt(sheet);
    if (way < 0 || way > 1) {
      throw new IllegalArgumentException();
    }
    List<Integer> parts = partsOn(sheet);
    if (way == 1 && parts.size() > 9) {
      throw new UnsupportedOperationException();
    }
    if (i < -1 || i >= parts.size()) {
      throw new NoSuchElementException();
    }
    inner.clear();
    for (int part : parts) {
      inner.put(part, parts.stream().filter(p -> liesWithin(p, part)).toList());
    }
    bestOrder = null;
    bestLength = Integer.MAX_VALUE;
    walk(sheet, way, parts, new ArrayList<>(), 0, 0);
    return i < 0 ? bestLength : bestOrder.get(i);
  }

  /** Way 1 tries all orders, the first ones as rows of numbers first; way 0 the nearest part alone. */
  private void walk(int sheet, int way, List<Integer> parts, List<Integer> done, int cell, int length) {
    if (length >= bestLength) {
      return;
    }
    if (done.size() == parts.size()) {
      bestOrder = List.copyOf(done);
      bestLength = length;
      return;
    }
    Sheet s = now.sheets.get(sheet);
    List<Integer> next = new ArrayList<>();
    for (int part : parts) {
      if (!done.contains(part) && done.containsAll(inner.get(part))) {
        next.add(part);
      }
    }
    if (way == 0) {
      int nearest = next.stream().min(Comparator.comparingInt(p -> s.distance(cell, part(p, 5)))).get();
      next = List.of(nearest);
    }
    for (int part : next) {
      List<Integer> more = new ArrayList<>(done);
      more.add(part);
      walk(sheet, way, parts, more, part(part, 5), length + s.distance(cell, part(part, 5)));
    }
  }

  float usedShare() {
    int usable = now.sheets.stream().mapToInt(s -> s.usable().size()).sum();
    int covered = now.parts.stream().mapToInt(p -> p.cells().size()).sum();
    if (usable == 0) {
      throw new ArithmeticException();
    }
    return (float) covered / (float) usable;
  }

  int count(int what) {
    switch (what) {
      case 0: return now.sheets.size();
      case 1: return now.shapes.size();
      case 2: return now.parts.size();
      case 3: return now.sheets.stream().mapToInt(s -> s.columns() * s.rows()).sum();
      case 4:
        int cuts = 0;
        for (int sheet = 0; sheet < now.sheets.size(); sheet++) {
          cuts += cuts(sheet, false);
        }
        return cuts;
      case 5: return changes.size();
      case 6: return input.length();
      default: throw new IllegalArgumentException();
    }
  }

  int feed(char character) {
    if (input.length() == 70) {
      throw new IllegalStateException();
    }
    input += character;
    return input.length();
  }

  int read() {
    String text = input;
    input = "";
    faults = new ArrayList<>();
    if (!TEXT.matcher(text).matches()) {
      int position = faultPosition(text);
      int item = (int) text.substring(0, position).chars().filter(c -> c == ';').count();
      faults.add(new int[] {1, item});
      faults.add(new int[] {2, position});
      return -1;
    }
    State state = now.copy();
    String[] items = text.split(";");
    for (int i = 0; i < items.length; i++) {
      int known = state.sheets.size() + state.shapes.size();
      int[] fault = carryOut(state, items[i]);
      if (fault != null) {
        faults.add(new int[] {1, i});
        faults.add(new int[] {3, known});
        faults.add(fault);
        return -1;
      }
    }
    change(now);
    now = state;
    return items.length;
  }

  /** The longest beginning of the text that some end could still make a whole one. */
  private static int faultPosition(String text) {
    int position = 0;
    for (int end = 0; end <= text.length(); end++) {
      Matcher matcher = TEXT.matcher(text.substring(0, end));
      if (matcher.matches() || matcher.hitEnd()) {
        position = end;
      }
    }
    return position;
  }

  private static int[] carryOut(State state, String item) {
    String[] words = item.substring(1).split("[x:*|-]");
    if (item.charAt(0) == 's') {
      int columns = Integer.parseInt(words[0]);
      int rows = Integer.parseInt(words[1]);
      if (columns < 2 || columns > 10 || rows < 2 || rows > 10) {
        return new int[] {4, columns < 2 || columns > 10 ? 0 : 1};
      }
      if (state.sheets.size() == 6) {
        return new int[] {6, 0};
      }
      newSheet(state, columns, rows, item.endsWith("-") ? 1 : item.endsWith("|") ? 2 : 0);
      return null;
    }
    if (item.charAt(0) == 'p') {
      List<String> field = List.of(words[0].split("/"));
      int rule = Integer.parseInt(words[1]);
      if (rule > 2 || !isSound(field) || state.shapes.size() == 8) {
        return new int[] {rule > 2 ? 4 : !isSound(field) ? 5 : 6, 0};
      }
      state.shapes.add(new Shape(field, rule, Integer.parseInt(words[2])));
      return null;
    }
    int sheet = Integer.parseInt(words[0]);
    int cell = Integer.parseInt(words[1]);
    if (sheet >= state.sheets.size() || !freeCells(state, sheet).contains(cell)) {
      return new int[] {7, sheet >= state.sheets.size() ? 0 : 1};
    }
    state.sheets.get(sheet).usable().remove(cell);
    return null;
  }

  int fault(int level, boolean isPlace) {
    return cause(faults, level, isPlace);
  }

  int undo() {
    if (changes.isEmpty()) {
      throw new IllegalStateException();
    }
    now = changes.removeLast();
    return changes.size();
  }

  int saveSnapshot() {
    snapshot = now.copy();
    return now.parts.size();
  }

  int restoreSnapshot() {
    if (snapshot == null) {
      throw new IllegalStateException();
    }
    now = snapshot.copy();
    changes.clear();
    return now.parts.size();
  }
}
