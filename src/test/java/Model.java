import java.math.BigInteger;
import java.util.ArrayDeque;
import java.util.ArrayList;
import java.util.Comparator;
import java.util.Deque;
import java.util.List;
import java.util.NoSuchElementException;
import java.util.TreeMap;
import java.util.regex.Matcher;
import java.util.regex.Pattern;

/**
 * The document once more, written as plainly as the Java library allows and in other ways than the program:
 * fractions of points in place of units, lists of entries, copies of everything, a pattern for sheets.
 */
public final class Model {
  /** A fraction with a positive denominator, in lowest terms. */
  private record Fraction(BigInteger top, BigInteger bottom) implements Comparable<Fraction> {
    static Fraction of(long top, long bottom) {
      return of(BigInteger.valueOf(top), BigInteger.valueOf(bottom));
    }

    static Fraction of(BigInteger top, BigInteger bottom) {
      BigInteger divisor = top.gcd(bottom).multiply(BigInteger.valueOf(bottom.signum()));
      return new Fraction(top.divide(divisor), bottom.divide(divisor));
    }

    Fraction plus(Fraction o) {
      return of(top.multiply(o.bottom).add(o.top.multiply(bottom)), bottom.multiply(o.bottom));
    }

    Fraction times(long number) {
      return of(top.multiply(BigInteger.valueOf(number)), bottom);
    }

    Fraction over(long number) {
      return of(top, bottom.multiply(BigInteger.valueOf(number)));
    }

    Fraction minus(Fraction o) {
      return plus(o.times(-1));
    }

    Fraction amount() {
      return new Fraction(top.abs(), bottom);
    }

    @Override public int compareTo(Fraction o) {
      return top.multiply(o.bottom).compareTo(o.top.multiply(bottom));
    }

    int rounded() {
      BigInteger[] parts = plus(of(1, 2)).top.divideAndRemainder(plus(of(1, 2)).bottom);
      return parts[0].intValueExact();
    }

    int units() {
      return times(120).top.divide(times(120).bottom).intValueExact();
    }
  }

  private record Entry(int marker, int candidate, int question, int mark) { }

  private record SeedMark(int marker, int question, int seed, int mark) { }

  private record Appeal(int candidate, int question, int fee, int mark, int state, boolean refunded) { }

  private record Pay(int marker, int amount) { }

  private static final Fraction NOTHING = Fraction.of(0, 1);

  private static final class Copy {
    int[] maxima = {20, 20, 20, 20, 20};
    int[] settings = {1, 6, 3, 2, 30};
    int[] boundaries = {70, 60, 50, 40};
    List<List<Integer>> seeds =
        List.of(new ArrayList<>(), new ArrayList<>(), new ArrayList<>(), new ArrayList<>(), new ArrayList<>());
    List<SeedMark> seedMarks = new ArrayList<>();
    List<Entry> entries = new ArrayList<>();
    boolean[][] excused = new boolean[8][5];
    int[] raises = new int[8];
    TreeMap<Integer, Integer> curve = new TreeMap<>();
    boolean published;
    List<Appeal> appeals = new ArrayList<>();
    List<Pay> pay = new ArrayList<>();

    Copy copy() {
      Copy c = new Copy();
      c.maxima = maxima.clone();
      c.settings = settings.clone();
      c.boundaries = boundaries.clone();
      for (int q = 0; q < 5; q++) {
        c.seeds.get(q).addAll(seeds.get(q));
      }
      c.seedMarks = new ArrayList<>(seedMarks);
      c.entries = new ArrayList<>(entries);
      for (int i = 0; i < 8; i++) {
        c.excused[i] = excused[i].clone();
      }
      c.raises = raises.clone();
      c.curve = new TreeMap<>(curve);
      c.published = published;
      c.appeals = new ArrayList<>(appeals);
      c.pay = new ArrayList<>(pay);
      return c;
    }
  }

  private Copy s = new Copy();
  private Copy kept;
  private final Deque<Copy> before = new ArrayDeque<>();
  private final StringBuilder text = new StringBuilder();
  private int errorAt = -1;
  private int[][] told = {};

  /** For those who choose the calls. */
  int maximum(int question) {
    return s.maxima[question];
  }

  // The common parts

  private static void index(boolean good) {
    if (!good) {
      throw new IndexOutOfBoundsException();
    }
  }

  private static void argument(boolean good) {
    if (!good) {
      throw new IllegalArgumentException();
    }
  }

  private static void supported(boolean good) {
    if (!good) {
      throw new UnsupportedOperationException();
    }
  }

  private static void state(boolean good) {
    if (!good) {
      throw new IllegalStateException();
    }
  }

  private static void element(boolean good) {
    if (!good) {
      throw new NoSuchElementException();
    }
  }

  private static boolean in(int value, int least, int greatest) {
    return least <= value && value <= greatest;
  }

  private void changes() {
    before.addLast(s.copy());
    if (before.size() > 6) {
      before.removeFirst();
    }
  }

  private void tell(int... numbers) {
    told = new int[][] {{numbers[0], numbers[1]}, {numbers[2], numbers[3]}};
    throw new UnsupportedOperationException();
  }

  private List<Integer> deviations(int marker, int question) {
    return s.seedMarks.stream().filter(m -> m.marker == marker && m.question == question)
        .map(m -> m.mark - s.seeds.get(question).get(m.seed)).toList();
  }

  private boolean suspended(int marker, int question) {
    return deviations(marker, question).stream().anyMatch(d -> Math.abs(d) > s.settings[1]);
  }

  private Fraction corrected(int marker, int question) {
    List<Integer> all = deviations(marker, question);
    int sum = all.stream().mapToInt(d -> d).sum();
    if (all.isEmpty() || Math.abs(sum) <= all.size() * s.settings[0]) {
      return NOTHING;
    }
    return Fraction.of(-sum, all.size());
  }

  private List<Entry> of(int candidate, int question) {
    return s.entries.stream().filter(e -> e.candidate == candidate && e.question == question).toList();
  }

  private Fraction value(Entry e) {
    Fraction value = Fraction.of(e.mark, 1).plus(corrected(e.marker, e.question));
    Fraction most = Fraction.of(s.maxima[e.question], 1);
    return value.compareTo(NOTHING) < 0 ? NOTHING : value.compareTo(most) > 0 ? most : value;
  }

  private List<Fraction> values(int candidate, int question) {
    return of(candidate, question).stream().filter(e -> !suspended(e.marker, question)).map(this::value).toList();
  }

  private boolean near(Fraction a, Fraction b) {
    return a.minus(b).amount().compareTo(Fraction.of(s.settings[2], 1)) <= 0;
  }

  private Appeal appealOf(int candidate, int question) {
    return s.appeals.stream().filter(a -> a.candidate == candidate && a.question == question)
        .findFirst().orElse(null);
  }

  private Fraction settled(int candidate, int question) {
    Appeal appeal = appealOf(candidate, question);
    if (appeal != null && appeal.state == 3) {
      return Fraction.of(appeal.mark, 1);
    }
    List<Fraction> v = values(candidate, question);
    if (v.isEmpty()) {
      return NOTHING;
    }
    if (v.size() == 1) {
      return v.get(0);
    }
    Fraction a = v.get(0);
    Fraction b = v.get(1);
    if (near(a, b)) {
      return a.plus(b).over(2);
    }
    Fraction less = a.compareTo(b) < 0 ? a : b;
    Fraction more = a.compareTo(b) < 0 ? b : a;
    if (v.size() == 2) {
      return less;
    }
    Fraction third = v.get(2);
    int order = third.minus(less).amount().compareTo(third.minus(more).amount());
    return third.plus(order < 0 ? less : more).over(2);
  }

  private int standing(int candidate, int question) {
    Appeal appeal = appealOf(candidate, question);
    List<Fraction> v = values(candidate, question);
    if (appeal != null && appeal.state == 3) {
      return 0;
    }
    return v.isEmpty() ? 1 : v.size() == 2 && !near(v.get(0), v.get(1)) ? 2 : 0;
  }

  private int full() {
    int sum = 0;
    for (int maximum : s.maxima) {
      sum += maximum;
    }
    return sum;
  }

  private boolean has(int candidate) {
    return s.entries.stream().anyMatch(e -> e.candidate == candidate);
  }

  private List<Fraction> marks(int candidate) {
    List<Fraction> marks = new ArrayList<>();
    for (int q = 0; q < 5; q++) {
      marks.add(settled(candidate, q));
    }
    return marks;
  }

  /** In points. */
  private Fraction raw(int candidate, List<Fraction> marks) {
    Fraction sum = NOTHING;
    int maxima = 0;
    for (int q = 0; q < 5; q++) {
      if (!s.excused[candidate][q]) {
        sum = sum.plus(marks.get(q));
        maxima += s.maxima[q];
      }
    }
    Fraction all = sum.times(full()).over(maxima).times(100 + s.raises[candidate]).over(100);
    Fraction most = Fraction.of(full(), 1);
    return all.compareTo(most) > 0 ? most : all;
  }

  private int scaled(Fraction raw) {
    if (s.curve.size() < 2) {
      return raw.times(100).over(full()).rounded();
    }
    if (raw.compareTo(Fraction.of(s.curve.firstKey(), 1)) <= 0) {
      return s.curve.firstEntry().getValue();
    }
    if (raw.compareTo(Fraction.of(s.curve.lastKey(), 1)) >= 0) {
      return s.curve.lastEntry().getValue();
    }
    int x = s.curve.firstKey();
    for (int place : s.curve.keySet()) {
      if (Fraction.of(place, 1).compareTo(raw) <= 0) {
        x = place;
      }
    }
    int u = s.curve.higherKey(x);
    int y = s.curve.get(x);
    int v = s.curve.get(u);
    return Fraction.of(y, 1).plus(raw.minus(Fraction.of(x, 1)).times(v - y).over(u - x)).rounded();
  }

  private int plain(int scaled) {
    int grade = 0;
    while (grade < 4 && s.boundaries[grade] > scaled) {
      grade++;
    }
    return grade;
  }

  private int grade(int candidate, List<Fraction> marks) {
    int scaled = scaled(raw(candidate, marks));
    int g = plain(scaled);
    if (g == 0) {
      return 0;
    }
    int b = s.boundaries[g - 1];
    int questions = 0;
    int good = 0;
    for (int q = 0; q < 5; q++) {
      if (!s.excused[candidate][q]) {
        questions++;
        good += marks.get(q).compareTo(Fraction.of((long) b * s.maxima[q], 100)) >= 0 ? 1 : 0;
      }
    }
    return b - scaled <= s.settings[3] && good * 2 >= questions ? g - 1 : g;
  }

  private void enters(int number, Entry e) {
    List<Entry> script = of(e.candidate, e.question);
    List<Fraction> v = values(e.candidate, e.question);
    if (s.published) {
      tell(1, number, 11, 0);
    }
    if (e.mark > s.maxima[e.question]) {
      tell(1, number, 12, s.maxima[e.question]);
    }
    if (script.stream().anyMatch(o -> o.marker == e.marker)) {
      tell(1, number, 13, e.marker);
    }
    if (script.size() == 3) {
      tell(1, number, 14, 3);
    }
    if (v.size() == 2 && near(v.get(0), v.get(1))) {
      tell(1, number, 15, e.question);
    }
    s.entries.add(e);
    s.pay.add(new Pay(e.marker, 10 + s.maxima[e.question]));
  }

  // The promises

  public int setMaximum(int question, int maximum) {
    index(in(question, 0, 4));
    argument(in(maximum, 1, 40));
    supported(!s.published);
    state(s.entries.stream().noneMatch(e -> e.question == question && e.mark > maximum));
    state(s.seeds.get(question).stream().noneMatch(m -> m > maximum));
    state(s.seedMarks.stream().noneMatch(m -> m.question == question && m.mark > maximum));
    changes();
    int previous = s.maxima[question];
    s.maxima[question] = maximum;
    return previous;
  }

  public int set(int what, int value) {
    index(in(what, 0, 4));
    argument(in(value, what == 1 ? 1 : 0, new int[] {5, 40, 10, 5, 99}[what]));
    supported(!s.published || what == 4);
    changes();
    int previous = s.settings[what];
    s.settings[what] = value;
    return previous;
  }

  public int addSeed(int question, int mark) {
    index(in(question, 0, 4));
    argument(in(mark, 0, s.maxima[question]));
    supported(!s.published);
    state(s.seeds.get(question).size() < 5);
    changes();
    s.seeds.get(question).add(mark);
    return s.seeds.get(question).size() - 1;
  }

  public int markSeed(int marker, int question, int seed, int mark) {
    index(in(marker, 0, 3) && in(question, 0, 4));
    index(in(seed, 0, s.seeds.get(question).size() - 1));
    argument(in(mark, 0, s.maxima[question]));
    supported(!s.published);
    state(s.seedMarks.stream()
        .noneMatch(m -> m.marker == marker && m.question == question && m.seed == seed));
    changes();
    s.seedMarks.add(new SeedMark(marker, question, seed, mark));
    s.pay.add(new Pay(marker, 10 + s.maxima[question]));
    return mark - s.seeds.get(question).get(seed);
  }

  public int correction(int marker, int question) {
    index(in(marker, 0, 3) && in(question, 0, 4));
    return corrected(marker, question).units();
  }

  public boolean isSuspended(int marker, int question) {
    index(in(marker, 0, 3) && in(question, 0, 4));
    return suspended(marker, question);
  }

  public int enter(int marker, int candidate, int question, int mark) {
    index(in(marker, 0, 3) && in(candidate, 0, 7) && in(question, 0, 4));
    argument(mark >= 0);
    Copy old = s.copy();
    enters(0, new Entry(marker, candidate, question, mark));
    Copy next = s;
    s = old;
    changes();
    s = next;
    return of(candidate, question).size();
  }

  public int append(int packed) {
    StringBuilder more = new StringBuilder();
    for (byte b : BigInteger.valueOf(packed).add(BigInteger.ONE.shiftLeft(40)).toByteArray()) {
      more.append((char) (b & 0xff));
    }
    String added = more.substring(2).replace("\0", "");
    argument(added.chars().allMatch(c -> in(c, 33, 126)));
    state(text.length() + added.length() <= 60);
    text.append(added);
    return text.length();
  }

  private static final Pattern SHEET =
      Pattern.compile("[0-3]/[0-4]:[0-7]=(0|[1-9][0-9]?)(,[0-7]=(0|[1-9][0-9]?))*");

  private static int errorIn(String sheet) {
    if (SHEET.matcher(sheet).matches()) {
      return -1;
    }
    for (int end = 1; end <= sheet.length(); end++) {
      Matcher matcher = SHEET.matcher(sheet.substring(0, end));
      if (!matcher.matches() && !matcher.hitEnd()) {
        return end - 1;
      }
    }
    return sheet.length();
  }

  public int sheet() {
    String sheet = text.toString();
    text.setLength(0);
    errorAt = errorIn(sheet);
    argument(errorAt < 0);
    Copy old = s;
    s = old.copy();
    String[] entries = sheet.substring(4).split(",");
    try {
      for (int i = 0; i < entries.length; i++) {
        String[] parts = entries[i].split("=");
        enters(i, new Entry(sheet.charAt(0) - '0', Integer.parseInt(parts[0]), sheet.charAt(2) - '0',
            Integer.parseInt(parts[1])));
      }
    } catch (UnsupportedOperationException e) {
      s = old;
      throw e;
    }
    Copy next = s;
    s = old;
    changes();
    s = next;
    return entries.length;
  }

  public int errorPosition() {
    return errorAt;
  }

  public int entry(int candidate, int question, int index, int what) {
    index(in(candidate, 0, 7) && in(question, 0, 4));
    List<Entry> script = of(candidate, question);
    element(in(index, 0, script.size() - 1));
    argument(in(what, 0, 3));
    Entry e = script.get(index);
    return List.of(e.marker, e.mark, value(e).units(), suspended(e.marker, question) ? 0 : 1).get(what);
  }

  public int script(int candidate, int question, int what) {
    index(in(candidate, 0, 7) && in(question, 0, 4));
    argument(in(what, 0, 4));
    Appeal appeal = appealOf(candidate, question);
    return List.of(settled(candidate, question).units(), of(candidate, question).size(),
        values(candidate, question).size(), standing(candidate, question), appeal == null ? 0 : appeal.state)
        .get(what);
  }

  public boolean excuse(int candidate, int question, boolean excused) {
    index(in(candidate, 0, 7) && in(question, 0, 4));
    supported(!s.published);
    int others = 0;
    for (int q = 0; q < 5; q++) {
      others += q != question && s.excused[candidate][q] ? 1 : 0;
    }
    state(!excused || others < 2);
    changes();
    boolean was = s.excused[candidate][question];
    s.excused[candidate][question] = excused;
    return was;
  }

  public int raise(int candidate, int percent) {
    index(in(candidate, 0, 7));
    argument(in(percent, 0, 10));
    supported(!s.published);
    changes();
    int previous = s.raises[candidate];
    s.raises[candidate] = percent;
    return previous;
  }

  public int setPoint(int place, int value) {
    argument(in(place, 0, 200) && in(value, 0, 100));
    supported(!s.published);
    state(s.curve.containsKey(place) || s.curve.size() < 5);
    changes();
    s.curve.put(place, value);
    return s.curve.size();
  }

  public int removePoint(int place) {
    supported(!s.published);
    element(s.curve.containsKey(place));
    changes();
    return s.curve.remove(place);
  }

  public int curve(int points) {
    argument(in(points, 0, 200) && points <= full());
    return scaled(Fraction.of(points, 1));
  }

  public int setBoundary(int grade, int boundary) {
    index(in(grade, 0, 3));
    int[] next = s.boundaries.clone();
    next[grade] = boundary;
    argument(in(boundary, 1, 100));
    for (int i = 0; i < 3; i++) {
      argument(next[i] > next[i + 1]);
    }
    supported(!s.published);
    changes();
    int previous = s.boundaries[grade];
    s.boundaries = next;
    return previous;
  }

  public long result(int candidate, int what) {
    index(in(candidate, 0, 7));
    argument(in(what, 0, 5));
    element(has(candidate));
    Fraction raw = raw(candidate, marks(candidate));
    int plain = plain(scaled(raw));
    int grade = grade(candidate, marks(candidate));
    return List.of(raw.times(120).top.longValueExact(), raw.times(120).bottom.longValueExact(),
        (long) scaled(raw), (long) plain, (long) grade, (long) (plain - grade)).get(what);
  }

  public int recount(int candidate) {
    index(in(candidate, 0, 7));
    Fraction sum = NOTHING;
    for (int q = 0; q < 5; q++) {
      if (!s.excused[candidate][q]) {
        sum = sum.plus(settled(candidate, q));
      }
    }
    return sum.units();
  }

  public int ranked(int rank) {
    List<Integer> order = new ArrayList<>();
    for (int c = 0; c < 8; c++) {
      if (has(c)) {
        order.add(c);
      }
    }
    Comparator<Integer> byScaled = Comparator.comparing(c -> -scaled(raw(c, marks(c))));
    order.sort(byScaled.thenComparing(c -> raw(c, marks(c)).times(-1)).thenComparing(c -> c));
    element(in(rank, 0, order.size() - 1));
    return order.get(rank);
  }

  public int graded(int grade) {
    index(in(grade, 0, 4));
    int number = 0;
    for (int c = 0; c < 8; c++) {
      number += has(c) && grade(c, marks(c)) == grade ? 1 : 0;
    }
    return number;
  }

  public int gradeIf(int candidate, int question, int mark) {
    index(in(candidate, 0, 7) && in(question, 0, 4));
    argument(in(mark, 0, s.maxima[question]));
    element(has(candidate));
    List<Fraction> marks = marks(candidate);
    if (!s.excused[candidate][question]) {
      marks.set(question, Fraction.of(mark, 1));
    }
    return grade(candidate, marks);
  }

  public int needed(int candidate, int question, int grade) {
    index(in(candidate, 0, 7) && in(question, 0, 4) && in(grade, 0, 4));
    element(has(candidate));
    for (int mark = 0; mark <= s.maxima[question]; mark++) {
      if (gradeIf(candidate, question, mark) <= grade) {
        return mark;
      }
    }
    throw new NoSuchElementException();
  }

  public long meanBits(int question) {
    index(in(question, 0, 4));
    int number = 0;
    Fraction sum = NOTHING;
    for (int c = 0; c < 8; c++) {
      if (has(c) && !s.excused[c][question]) {
        number++;
        sum = sum.plus(settled(c, question));
      }
    }
    if (number == 0) {
      throw new ArithmeticException();
    }
    return Double.doubleToLongBits((double) sum.units() / 120.0 / (double) number);
  }

  public int validBits(int marker) {
    index(in(marker, 0, 3));
    long all = s.entries.stream().filter(e -> e.marker == marker).count();
    long valid = s.entries.stream().filter(e -> e.marker == marker && !suspended(marker, e.question)).count();
    if (all == 0) {
      throw new ArithmeticException();
    }
    return Float.floatToIntBits((float) valid / (float) all);
  }

  public int publish() {
    state(!s.published);
    for (int c = 0; c < 8; c++) {
      for (int q = 0; q < 5; q++) {
        if (has(c) && !s.excused[c][q] && standing(c, q) != 0) {
          tell(2, c, 20 + standing(c, q), q);
        }
      }
    }
    changes();
    s.published = true;
    return count(1);
  }

  public int withdraw() {
    state(s.published);
    supported(s.appeals.isEmpty());
    changes();
    s.published = false;
    return count(1);
  }

  public int appeal(int candidate, int question) {
    index(in(candidate, 0, 7) && in(question, 0, 4));
    if (!s.published) {
      tell(3, candidate, 31, 0);
    }
    if (!has(candidate)) {
      tell(3, candidate, 32, candidate);
    }
    if (appealOf(candidate, question) != null) {
      tell(3, candidate, 33, question);
    }
    if (s.appeals.stream().filter(a -> a.candidate == candidate).count() == 3) {
      tell(3, candidate, 34, 3);
    }
    changes();
    s.appeals.add(new Appeal(candidate, question, s.settings[4], 0, 1, false));
    return s.settings[4];
  }

  public int remark(int marker, int candidate, int question, int mark) {
    index(in(marker, 0, 3) && in(candidate, 0, 7) && in(question, 0, 4));
    argument(mark >= 0);
    Appeal appeal = appealOf(candidate, question);
    if (appeal == null || appeal.state != 1) {
      tell(4, candidate, 41, question);
    }
    if (mark > s.maxima[question]) {
      tell(4, candidate, 42, s.maxima[question]);
    }
    if (of(candidate, question).stream().anyMatch(e -> e.marker == marker)) {
      tell(4, candidate, 43, marker);
    }
    changes();
    int old = grade(candidate, marks(candidate));
    boolean counts = !near(settled(candidate, question), Fraction.of(mark, 1));
    int at = s.appeals.indexOf(appeal);
    s.appeals.set(at, new Appeal(candidate, question, appeal.fee, mark, counts ? 3 : 2, false));
    boolean better = grade(candidate, marks(candidate)) < old;
    s.appeals.set(at, new Appeal(candidate, question, appeal.fee, mark, counts ? 3 : 2, better));
    s.pay.add(new Pay(marker, 10 + s.maxima[question]));
    return better ? appeal.fee : 0;
  }

  public int account(int what) {
    argument(in(what, 0, 8));
    if (what <= 4) {
      return s.pay.stream().filter(p -> what == 4 || p.marker == what).mapToInt(Pay::amount).sum();
    }
    if (what <= 6) {
      return s.appeals.stream().filter(a -> what == 5 || a.refunded).mapToInt(Appeal::fee).sum();
    }
    return (int) s.appeals.stream().filter(a -> what == 7 || a.state == 1).count();
  }

  public int levels() {
    return told.length;
  }

  public int report(int level, int what) {
    element(in(level, 0, told.length - 1));
    argument(in(what, 0, 1));
    return told[level][what];
  }

  public int count(int what) {
    argument(in(what, 0, 9));
    int graded = 0;
    int disputed = 0;
    for (int c = 0; c < 8; c++) {
      graded += has(c) ? 1 : 0;
      for (int q = 0; q < 5; q++) {
        disputed += !s.excused[c][q] && standing(c, q) == 2 ? 1 : 0;
      }
    }
    int seeds = s.seeds.stream().mapToInt(List::size).sum();
    return new int[] {s.entries.size(), graded, seeds, s.seedMarks.size(), s.curve.size(),
        s.published ? 1 : 0, full(), text.length(), before.size(), disputed}[what];
  }

  public int undo() {
    state(!before.isEmpty());
    s = before.removeLast();
    return before.size();
  }

  public int save() {
    kept = s.copy();
    return s.entries.size();
  }

  public int restore() {
    state(kept != null);
    changes();
    s = kept.copy();
    return s.entries.size();
  }
}
