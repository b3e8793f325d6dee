import java.util.Arrays;
import java.util.NoSuchElementException;

/**
 * An examination marker: 8 candidates, 5 questions and 4 markers; see DOC.md for what each method promises.
 */
public final class ExamMarker {
  private static final int CANDIDATES = 8;
  private static final int QUESTIONS = 5;
  private static final int MARKERS = 4;
  private static final int SCRIPTS = CANDIDATES * QUESTIONS;
  private static final int SEEDS = 5;
  private static final int ENTRIES = 3;
  private static final int SLOTS = SCRIPTS * ENTRIES;
  private static final int POINTS = 5;
  private static final int GRADES = 5;
  private static final int CHANGES = 6;

  private static final int UNITS = 120;
  private static final int GREATEST_MAXIMUM = 40;
  private static final int GREATEST_PLACE = QUESTIONS * GREATEST_MAXIMUM;
  private static final int GREATEST_VALUE = 100;
  private static final int GREATEST_RAISE = 10;
  private static final int EXCUSES = 2;
  private static final int APPEALS = 3;
  private static final int BASIC_PAY = 10;

  private static final int BAND = 0;
  private static final int LIMIT = 1;
  private static final int TOLERANCE = 2;
  private static final int DISTANCE = 3;
  private static final int FEE = 4;
  private static final int SETTINGS = 5;
  private static final int[] LEAST_SETTINGS = {0, 1, 0, 0, 0};
  private static final int[] GREATEST_SETTINGS = {5, 40, 10, 5, 99};

  private static final int SETTLED = 0;
  private static final int MISSING = 1;
  private static final int DISPUTED = 2;

  private static final int NO_APPEAL = 0;
  private static final int OPEN = 1;
  private static final int REMARK_IGNORED = 2;
  private static final int REMARK_COUNTS = 3;

  private final Book now = new Book();
  private final Book draft = new Book();
  private final Book saved = new Book();
  private boolean hasSaved;
  private final History history = new History();
  private final SheetReader reader = new SheetReader();
  private final Report latest = new Report();
  private final Outcome[] outcomes = new Outcome[CANDIDATES];
  private final Tally tally = new Tally();

  public ExamMarker() {
    for (int candidate = 0; candidate < CANDIDATES; candidate++) {
      outcomes[candidate] = new Outcome();
    }
  }

  // Settings and seeds

  public int setMaximum(int question, int maximum)
      throws IndexOutOfBoundsException, IllegalArgumentException, UnsupportedOperationException,
          IllegalStateException {
    requireQuestion(question);
    requireRange(maximum, 1, GREATEST_MAXIMUM);
    requireUnpublished();
    if (now.greatestMark(question) > maximum) {
      throw new IllegalStateException("a mark would be greater than the maximum");
    }
    int previous = now.maxima[question];
    history.keep(now);
    now.maxima[question] = maximum;
    return previous;
  }

  public int set(int what, int value)
      throws IndexOutOfBoundsException, IllegalArgumentException, UnsupportedOperationException {
    if (what < 0 || what >= SETTINGS) {
      throw new IndexOutOfBoundsException("no such setting");
    }
    requireRange(value, LEAST_SETTINGS[what], GREATEST_SETTINGS[what]);
    if (what != FEE) {
      requireUnpublished();
    }
    int previous = now.settings[what];
    history.keep(now);
    now.settings[what] = value;
    return previous;
  }

  public int addSeed(int question, int mark)
      throws IndexOutOfBoundsException, IllegalArgumentException, UnsupportedOperationException,
          IllegalStateException {
    requireQuestion(question);
    requireRange(mark, 0, now.maxima[question]);
    requireUnpublished();
    if (now.seeds.sizes[question] >= SEEDS) {
      throw new IllegalStateException("the question has all its seeds");
    }
    history.keep(now);
    return now.seeds.define(question, mark);
  }

  public int markSeed(int marker, int question, int seed, int mark)
      throws IndexOutOfBoundsException, IllegalArgumentException, UnsupportedOperationException,
          IllegalStateException {
    requireMarker(marker);
    requireQuestion(question);
    if (seed < 0 || seed >= now.seeds.sizes[question]) {
      throw new IndexOutOfBoundsException("no such seed");
    }
    requireRange(mark, 0, now.maxima[question]);
    requireUnpublished();
    if (now.seeds.isMarked(marker, question, seed)) {
      throw new IllegalStateException("the marker marked this seed already");
    }
    history.keep(now);
    now.earn(marker, question);
    return now.seeds.give(marker, question, seed, mark);
  }

  public int correction(int marker, int question) throws IndexOutOfBoundsException {
    requireMarker(marker);
    requireQuestion(question);
    return now.seeds.correctionOf(marker, question, now.settings[BAND]);
  }

  public boolean isSuspended(int marker, int question) throws IndexOutOfBoundsException {
    requireMarker(marker);
    requireQuestion(question);
    return now.seeds.strays(marker, question, now.settings[LIMIT]);
  }

  // Entries

  public int enter(int marker, int candidate, int question, int mark)
      throws IndexOutOfBoundsException, IllegalArgumentException, UnsupportedOperationException {
    requireMarker(marker);
    requireScript(candidate, question);
    requireNotNegative(mark);
    int script = scriptOf(candidate, question);
    if (refusesEntry(now, 0, marker, script, mark)) {
      throw new UnsupportedOperationException("the entry is refused");
    }
    history.keep(now);
    return now.makeEntry(marker, script, mark);
  }

  public int append(int packed) throws IllegalArgumentException, IllegalStateException {
    int added = 0;
    for (int shift = 24; shift >= 0; shift -= 8) {
      int sign = (packed >>> shift) & 255;
      if (sign != 0) {
        requireRange(sign, 33, 126);
        added++;
      }
    }
    if (reader.length + added > SheetReader.CAPACITY) {
      throw new IllegalStateException("the buffer is full");
    }
    for (int shift = 24; shift >= 0; shift -= 8) {
      reader.store((packed >>> shift) & 255);
    }
    return reader.length;
  }

  public int sheet() throws IllegalArgumentException, UnsupportedOperationException {
    reader.readAndClear();
    if (reader.error >= 0) {
      throw new IllegalArgumentException("the text is no sheet");
    }
    draft.copyFrom(now);
    for (int i = 0; i < reader.entries && i < SheetReader.MOST_ENTRIES; i++) {
      int script = scriptOf(reader.candidates[i], reader.question);
      if (refusesEntry(draft, i, reader.marker, script, reader.marks[i])) {
        throw new UnsupportedOperationException("an entry of the sheet is refused");
      }
      draft.makeEntry(reader.marker, script, reader.marks[i]);
    }
    history.keep(now);
    now.copyFrom(draft);
    return reader.entries;
  }

  public int errorPosition() {
    return reader.error;
  }

  public int entry(int candidate, int question, int index, int what)
      throws IndexOutOfBoundsException, NoSuchElementException, IllegalArgumentException {
    requireScript(candidate, question);
    int script = scriptOf(candidate, question);
    if (index < 0 || index >= now.entries.sizes[script] || index >= ENTRIES) {
      throw new NoSuchElementException("no such entry");
    }
    requireRange(what, 0, 3);
    int slot = script * ENTRIES + index;
    switch (what) {
      case 0:
        return now.entries.markers[slot];
      case 1:
        return now.entries.marks[slot];
      case 2:
        return now.valueOf(slot);
      default:
        return now.isValid(slot) ? 1 : 0;
    }
  }

  public int script(int candidate, int question, int what)
      throws IndexOutOfBoundsException, IllegalArgumentException {
    requireScript(candidate, question);
    requireRange(what, 0, 4);
    int script = scriptOf(candidate, question);
    switch (what) {
      case 0:
        return now.settledOf(script);
      case 1:
        return now.entries.sizes[script];
      case 2:
        return now.readValidValues(script);
      case 3:
        return now.standingOf(script);
      default:
        return now.appeals.states[script];
    }
  }

  // Circumstances, curve, boundaries

  public boolean excuse(int candidate, int question, boolean excused)
      throws IndexOutOfBoundsException, UnsupportedOperationException, IllegalStateException {
    requireScript(candidate, question);
    requireUnpublished();
    boolean was = now.isExcused(candidate, question);
    if (excused && !was && Integer.bitCount(now.excusedBits[candidate]) >= EXCUSES) {
      throw new IllegalStateException("a third question would be excused");
    }
    history.keep(now);
    int bit = 1 << question;
    now.excusedBits[candidate] = excused ? now.excusedBits[candidate] | bit : now.excusedBits[candidate] & ~bit;
    return was;
  }

  public int raise(int candidate, int percent)
      throws IndexOutOfBoundsException, IllegalArgumentException, UnsupportedOperationException {
    requireCandidate(candidate);
    requireRange(percent, 0, GREATEST_RAISE);
    requireUnpublished();
    int previous = now.raises[candidate];
    history.keep(now);
    now.raises[candidate] = percent;
    return previous;
  }

  public int setPoint(int place, int value)
      throws IllegalArgumentException, UnsupportedOperationException, IllegalStateException {
    requireRange(place, 0, GREATEST_PLACE);
    requireRange(value, 0, GREATEST_VALUE);
    requireUnpublished();
    if (now.curve.size >= POINTS && now.curve.indexOf(place) < 0) {
      throw new IllegalStateException("the curve has all its points");
    }
    history.keep(now);
    return now.curve.put(place, value);
  }

  public int removePoint(int place) throws UnsupportedOperationException, NoSuchElementException {
    requireUnpublished();
    int index = now.curve.indexOf(place);
    if (index < 0) {
      throw new NoSuchElementException("no point at this place");
    }
    history.keep(now);
    return now.curve.takeAway(index);
  }

  public int curve(int points) throws IllegalArgumentException {
    int full = now.fullMaximum();
    requireRange(points, 0, Math.min(GREATEST_PLACE, full));
    return now.curve.scale(points, 1L, full);
  }

  public int setBoundary(int grade, int boundary)
      throws IndexOutOfBoundsException, IllegalArgumentException, UnsupportedOperationException {
    if (grade < 0 || grade >= GRADES - 1) {
      throw new IndexOutOfBoundsException("no such boundary");
    }
    int least = grade + 1 < GRADES - 1 ? now.boundaries[grade + 1] + 1 : 1;
    int greatest = grade > 0 ? now.boundaries[grade - 1] - 1 : GREATEST_VALUE;
    requireRange(boundary, least, greatest);
    requireUnpublished();
    int previous = now.boundaries[grade];
    history.keep(now);
    now.boundaries[grade] = boundary;
    return previous;
  }

  // Results

  public long result(int candidate, int what)
      throws IndexOutOfBoundsException, IllegalArgumentException, NoSuchElementException {
    requireCandidate(candidate);
    requireRange(what, 0, 5);
    requireGrade(candidate);
    Outcome outcome = outcomes[candidate];
    outcome.find(now, candidate);
    switch (what) {
      case 0:
        return outcome.numerator;
      case 1:
        return outcome.denominator;
      case 2:
        return outcome.scaled;
      case 3:
        return outcome.plainGrade;
      case 4:
        return outcome.grade;
      default:
        return outcome.grade < outcome.plainGrade ? 1L : 0L;
    }
  }

  public int recount(int candidate) throws IndexOutOfBoundsException {
    requireCandidate(candidate);
    return tally.sumOf(now, candidate);
  }

  public int ranked(int rank) throws NoSuchElementException {
    for (int candidate = 0; candidate < CANDIDATES; candidate++) {
      outcomes[candidate].find(now, candidate);
    }
    for (int candidate = 0; candidate < CANDIDATES; candidate++) {
      if (now.hasGrade(candidate) && rankOf(candidate) == rank) {
        return candidate;
      }
    }
    throw new NoSuchElementException("no such rank");
  }

  public int graded(int grade) throws IndexOutOfBoundsException {
    requireGradeNumber(grade);
    int number = 0;
    for (int candidate = 0; candidate < CANDIDATES; candidate++) {
      outcomes[candidate].find(now, candidate);
      if (now.hasGrade(candidate) && outcomes[candidate].grade == grade) {
        number++;
      }
    }
    return number;
  }

  public int gradeIf(int candidate, int question, int mark)
      throws IndexOutOfBoundsException, IllegalArgumentException, NoSuchElementException {
    requireScript(candidate, question);
    requireRange(mark, 0, now.maxima[question]);
    requireGrade(candidate);
    Outcome outcome = outcomes[candidate];
    outcome.find(now, candidate);
    outcome.suppose(now, candidate, question, mark);
    return outcome.grade;
  }

  public int needed(int candidate, int question, int grade)
      throws IndexOutOfBoundsException, NoSuchElementException {
    requireScript(candidate, question);
    requireGradeNumber(grade);
    requireGrade(candidate);
    Outcome outcome = outcomes[candidate];
    outcome.find(now, candidate);
    // A curve may fall, so a greater mark may bring a worse grade: every mark is tried, from below.
    for (int mark = 0; mark <= now.maxima[question]; mark++) {
      outcome.suppose(now, candidate, question, mark);
      if (outcome.grade <= grade) {
        return mark;
      }
    }
    throw new NoSuchElementException("the maximum is not sufficient");
  }

  public long meanBits(int question) throws IndexOutOfBoundsException, ArithmeticException {
    requireQuestion(question);
    int sum = 0;
    int candidates = 0;
    for (int candidate = 0; candidate < CANDIDATES; candidate++) {
      if (now.hasGrade(candidate) && !now.isExcused(candidate, question)) {
        sum += now.settledOf(scriptOf(candidate, question));
        candidates++;
      }
    }
    if (candidates == 0) {
      throw new ArithmeticException("no candidates for the mean");
    }
    return doubleBits((double) sum / 120.0 / (double) candidates);
  }

  public int validBits(int marker) throws IndexOutOfBoundsException, ArithmeticException {
    requireMarker(marker);
    int valid = 0;
    int all = 0;
    for (int slot = 0; slot < SLOTS; slot++) {
      if (now.entries.isBy(marker, slot)) {
        all++;
        valid += now.isValid(slot) ? 1 : 0;
      }
    }
    if (all == 0) {
      throw new ArithmeticException("no entries for the share");
    }
    return floatBits((float) valid / (float) all);
  }

  // Publication and appeals

  public int publish() throws IllegalStateException, UnsupportedOperationException {
    if (now.published) {
      throw new IllegalStateException("the results are published");
    }
    if (refusesPublication()) {
      throw new UnsupportedOperationException("the publication is refused");
    }
    history.keep(now);
    now.published = true;
    return now.gradedCandidates();
  }

  public int withdraw() throws IllegalStateException, UnsupportedOperationException {
    if (!now.published) {
      throw new IllegalStateException("the results are not published");
    }
    if (now.appeals.made() > 0) {
      throw new UnsupportedOperationException("an appeal was made");
    }
    history.keep(now);
    now.published = false;
    return now.gradedCandidates();
  }

  public int appeal(int candidate, int question)
      throws IndexOutOfBoundsException, UnsupportedOperationException {
    requireScript(candidate, question);
    if (refusesAppeal(candidate, question)) {
      throw new UnsupportedOperationException("the appeal is refused");
    }
    history.keep(now);
    int fee = now.settings[FEE];
    now.appeals.open(scriptOf(candidate, question), fee);
    return fee;
  }

  public int remark(int marker, int candidate, int question, int mark)
      throws IndexOutOfBoundsException, IllegalArgumentException, UnsupportedOperationException {
    requireMarker(marker);
    requireScript(candidate, question);
    requireNotNegative(mark);
    if (refusesRemark(marker, candidate, question, mark)) {
      throw new UnsupportedOperationException("the remark is refused");
    }
    history.keep(now);
    now.earn(marker, question);
    int script = scriptOf(candidate, question);
    Outcome outcome = outcomes[candidate];
    outcome.find(now, candidate);
    int gradeBefore = outcome.grade;
    boolean counts = !now.agree(mark * UNITS, now.settledOf(script));
    now.appeals.close(script, mark, counts);
    outcome.find(now, candidate);
    return outcome.grade < gradeBefore ? now.appeals.refund(script) : 0;
  }

  public int account(int what) throws IllegalArgumentException {
    requireRange(what, 0, 8);
    if (what < MARKERS) {
      return now.pay[what];
    }
    switch (what) {
      case 4:
        return sumOf(now.pay);
      case 5:
        return sumOf(now.appeals.fees);
      case 6:
        return now.appeals.refunded;
      case 7:
        return now.appeals.made();
      default:
        return now.appeals.inState(OPEN, 0, SCRIPTS);
    }
  }

  // Reports, counts, undo, snapshots

  public int levels() {
    return latest.size;
  }

  public int report(int level, int what) throws NoSuchElementException, IllegalArgumentException {
    if (level < 0 || level >= latest.size || level >= Report.LEVELS) {
      throw new NoSuchElementException("no such level");
    }
    requireRange(what, 0, 1);
    return what == 0 ? latest.codes[level] : latest.details[level];
  }

  public int count(int what) throws IllegalArgumentException {
    requireRange(what, 0, 9);
    switch (what) {
      case 0:
        return now.entries.total;
      case 1:
        return now.gradedCandidates();
      case 2:
        return sumOf(now.seeds.sizes);
      case 3:
        return now.seeds.markedSeeds();
      case 4:
        return now.curve.size;
      case 5:
        return now.published ? 1 : 0;
      case 6:
        return now.fullMaximum();
      case 7:
        return reader.length;
      case 8:
        return history.size;
      default:
        return now.disputedScripts();
    }
  }

  public int undo() throws IllegalStateException {
    if (history.size <= 0) {
      throw new IllegalStateException("no change can be taken back");
    }
    history.takeBack(now);
    return history.size;
  }

  public int save() {
    saved.copyFrom(now);
    hasSaved = true;
    return now.entries.total;
  }

  public int restore() throws IllegalStateException {
    if (!hasSaved) {
      throw new IllegalStateException("nothing was saved");
    }
    history.keep(now);
    now.copyFrom(saved);
    return now.entries.total;
  }

  // What is required of arguments and of the state

  private static void requireCandidate(int candidate) {
    if (!isBelow(candidate, CANDIDATES)) {
      throw new IndexOutOfBoundsException("no such candidate");
    }
  }

  private static void requireQuestion(int question) {
    if (!isBelow(question, QUESTIONS)) {
      throw new IndexOutOfBoundsException("no such question");
    }
  }

  private static void requireMarker(int marker) {
    if (!isBelow(marker, MARKERS)) {
      throw new IndexOutOfBoundsException("no such marker");
    }
  }

  private static void requireGradeNumber(int grade) {
    if (!isBelow(grade, GRADES)) {
      throw new IndexOutOfBoundsException("no such grade");
    }
  }

  private static void requireScript(int candidate, int question) {
    requireCandidate(candidate);
    requireQuestion(question);
  }

  private static void requireNotNegative(int mark) {
    if (mark < 0) {
      throw new IllegalArgumentException("the mark is negative");
    }
  }

  private static void requireRange(int value, int least, int greatest) {
    if (value < least || value > greatest) {
      throw new IllegalArgumentException("out of range");
    }
  }

  private void requireUnpublished() {
    if (now.published) {
      throw new UnsupportedOperationException("the results are published");
    }
  }

  private void requireGrade(int candidate) {
    if (!now.hasGrade(candidate)) {
      throw new NoSuchElementException("the candidate has no grade");
    }
  }

  // Reasons of refusals: each method answers whether it refuses, and leaves the report if it does

  private boolean refusesEntry(Book book, int number, int marker, int script, int mark) {
    int question = script % QUESTIONS;
    if (book.published) {
      return latest.tell(1, number, 11, 0);
    }
    if (mark > book.maxima[question]) {
      return latest.tell(1, number, 12, book.maxima[question]);
    }
    if (book.entries.hasEntryBy(marker, script)) {
      return latest.tell(1, number, 13, marker);
    }
    if (book.entries.sizes[script] >= ENTRIES) {
      return latest.tell(1, number, 14, ENTRIES);
    }
    if (book.hasAgreement(script)) {
      return latest.tell(1, number, 15, question);
    }
    return false;
  }

  private boolean refusesPublication() {
    for (int candidate = 0; candidate < CANDIDATES; candidate++) {
      for (int question = 0; question < QUESTIONS && now.hasGrade(candidate); question++) {
        int standing = now.standingOf(scriptOf(candidate, question));
        if (standing != SETTLED && !now.isExcused(candidate, question)) {
          return latest.tell(2, candidate, standing == MISSING ? 21 : 22, question);
        }
      }
    }
    return false;
  }

  private boolean refusesAppeal(int candidate, int question) {
    int first = scriptOf(candidate, 0);
    if (!now.published) {
      return latest.tell(3, candidate, 31, 0);
    }
    if (!now.hasGrade(candidate)) {
      return latest.tell(3, candidate, 32, candidate);
    }
    if (now.appeals.states[first + question] != NO_APPEAL) {
      return latest.tell(3, candidate, 33, question);
    }
    if (QUESTIONS - now.appeals.inState(NO_APPEAL, first, first + QUESTIONS) >= APPEALS) {
      return latest.tell(3, candidate, 34, APPEALS);
    }
    return false;
  }

  private boolean refusesRemark(int marker, int candidate, int question, int mark) {
    int script = scriptOf(candidate, question);
    if (now.appeals.states[script] != OPEN) {
      return latest.tell(4, candidate, 41, question);
    }
    if (mark > now.maxima[question]) {
      return latest.tell(4, candidate, 42, now.maxima[question]);
    }
    if (now.entries.hasEntryBy(marker, script)) {
      return latest.tell(4, candidate, 43, marker);
    }
    return false;
  }

  // Helpers

  /** The number of candidates with grades before this one; all outcomes must have been found. */
  private int rankOf(int candidate) {
    int before = 0;
    for (int other = 0; other < CANDIDATES; other++) {
      if (other != candidate && now.hasGrade(other)) {
        int order = outcomes[other].compareWith(outcomes[candidate]);
        if (order > 0 || (order == 0 && other < candidate)) {
          before++;
        }
      }
    }
    return before;
  }

  private static boolean isBelow(int index, int bound) {
    return index >= 0 && index < bound;
  }

  private static int scriptOf(int candidate, int question) {
    return candidate * QUESTIONS + question;
  }

  private static int questionOf(int slot) {
    return slot / ENTRIES % QUESTIONS;
  }

  private static int sumOf(int[] row) {
    int sum = 0;
    for (int i = 0; i < row.length; i++) {
      sum += row[i];
    }
    return sum;
  }

  private static void copyRow(int[] from, int[] to) {
    System.arraycopy(from, 0, to, 0, Math.min(from.length, to.length));
  }

  private static int distanceOf(int a, int b) {
    return a > b ? a - b : b - a;
  }

  private static long greatestCommonDivisor(long a, long b) {
    long divisor = a;
    long rest = b;
    // Every two steps halve the rest at least, so the bound is never reached.
    for (int step = 0; step < 200 && rest != 0L; step++) {
      long next = divisor % rest;
      divisor = rest;
      rest = next;
    }
    return divisor;
  }

  /** Half of the sum of the third value and of that of the first two which is nearer to it. */
  private static int halfWithNearer(int third, int first, int second) {
    int toFirst = distanceOf(third, first);
    int toSecond = distanceOf(third, second);
    int nearer = toFirst < toSecond ? first : second;
    if (toFirst == toSecond) {
      nearer = Math.max(first, second);
    }
    return (third + nearer) / 2;
  }

  // The library's own functions for the bits are ruled out; steps by powers of two are exact.

  private static long doubleBits(double value) {
    if (!(value > 0.0)) {
      return 0L;
    }
    double fraction = value;
    long exponent = 1023L;
    for (int i = 0; i < 1023 && fraction >= 2.0; i++) {
      fraction = fraction / 2.0;
      exponent++;
    }
    for (int i = 0; i < 1022 && fraction < 1.0; i++) {
      fraction = fraction * 2.0;
      exponent--;
    }
    return (exponent << 52) | (long) ((fraction - 1.0) * 4503599627370496.0);
  }

  /** A float that is 0 or normal is the same number as a double: its exponent counts from 127, not 1023. */
  private static int floatBits(float value) {
    long bits = doubleBits((double) value);
    return bits == 0L ? 0 : (int) ((bits >>> 29) - ((1023L - 127L) << 23));
  }

  /** All that undo, save and restore deal with. A script's number is 5 times its candidate plus its question. */
  private static final class Book {
    final int[] maxima = new int[QUESTIONS];
    final int[] settings = {1, 6, 3, 2, 30};
    final int[] boundaries = {70, 60, 50, 40};
    final int[] excusedBits = new int[CANDIDATES];
    final int[] raises = new int[CANDIDATES];
    final int[] pay = new int[MARKERS];
    final Seeds seeds = new Seeds();
    final Entries entries = new Entries();
    final Curve curve = new Curve();
    final Appeals appeals = new Appeals();
    boolean published;
    // Filled anew by each reading, so it is no part of the state.
    private final int[] validValues = new int[ENTRIES];

    Book() {
      Arrays.fill(maxima, 20);
    }

    void copyFrom(Book other) {
      copyRow(other.maxima, maxima);
      copyRow(other.settings, settings);
      copyRow(other.boundaries, boundaries);
      copyRow(other.excusedBits, excusedBits);
      copyRow(other.raises, raises);
      copyRow(other.pay, pay);
      seeds.copyFrom(other.seeds);
      entries.copyFrom(other.entries);
      curve.copyFrom(other.curve);
      appeals.copyFrom(other.appeals);
      published = other.published;
    }

    int fullMaximum() {
      return sumOf(maxima);
    }

    int greatestMark(int question) {
      return Math.max(entries.greatestMark(question), seeds.greatestMark(question));
    }

    void earn(int marker, int question) {
      pay[marker] += BASIC_PAY + maxima[question];
    }

    int makeEntry(int marker, int script, int mark) {
      earn(marker, script % QUESTIONS);
      return entries.put(marker, script, mark);
    }

    boolean isValid(int slot) {
      int marker = entries.markers[slot];
      return isBelow(marker, MARKERS) && !seeds.strays(marker, questionOf(slot), settings[LIMIT]);
    }

    int valueOf(int slot) {
      int question = questionOf(slot);
      int marker = entries.markers[slot];
      int value = entries.marks[slot] * UNITS;
      if (isBelow(marker, MARKERS)) {
        value += seeds.correctionOf(marker, question, settings[BAND]);
      }
      return Math.max(0, Math.min(maxima[question] * UNITS, value));
    }

    /** Reads the values of the valid entries of a script, in their order, and returns their number. */
    int readValidValues(int script) {
      int number = 0;
      for (int i = 0; i < entries.sizes[script] && i < ENTRIES; i++) {
        int slot = script * ENTRIES + i;
        if (isValid(slot)) {
          validValues[number] = valueOf(slot);
          number++;
        }
      }
      return number;
    }

    boolean agree(int value, int other) {
      return distanceOf(value, other) <= settings[TOLERANCE] * UNITS;
    }

    boolean hasAgreement(int script) {
      return readValidValues(script) == 2 && agree(validValues[0], validValues[1]);
    }

    int settledOf(int script) {
      if (appeals.states[script] == REMARK_COUNTS) {
        return appeals.marks[script] * UNITS;
      }
      int valid = readValidValues(script);
      if (valid == 0) {
        return 0;
      }
      if (valid == 1) {
        return validValues[0];
      }
      if (agree(validValues[0], validValues[1])) {
        return (validValues[0] + validValues[1]) / 2;
      }
      if (valid == 2) {
        return Math.min(validValues[0], validValues[1]);
      }
      return halfWithNearer(validValues[2], validValues[0], validValues[1]);
    }

    int standingOf(int script) {
      if (appeals.states[script] == REMARK_COUNTS) {
        return SETTLED;
      }
      int valid = readValidValues(script);
      if (valid == 0) {
        return MISSING;
      }
      return valid == 2 && !agree(validValues[0], validValues[1]) ? DISPUTED : SETTLED;
    }

    boolean isExcused(int candidate, int question) {
      return ((excusedBits[candidate] >> question) & 1) != 0;
    }

    boolean hasGrade(int candidate) {
      for (int question = 0; question < QUESTIONS; question++) {
        if (entries.sizes[scriptOf(candidate, question)] > 0) {
          return true;
        }
      }
      return false;
    }

    int gradedCandidates() {
      int number = 0;
      for (int candidate = 0; candidate < CANDIDATES; candidate++) {
        number += hasGrade(candidate) ? 1 : 0;
      }
      return number;
    }

    int disputedScripts() {
      int number = 0;
      for (int script = 0; script < SCRIPTS; script++) {
        if (standingOf(script) == DISPUTED && !isExcused(script / QUESTIONS, script % QUESTIONS)) {
          number++;
        }
      }
      return number;
    }

    int plainGradeOf(int scaled) {
      for (int grade = 0; grade < GRADES - 1; grade++) {
        if (boundaries[grade] <= scaled) {
          return grade;
        }
      }
      return GRADES - 1;
    }
  }

  /** The seeds of all questions, and the marks that the markers gave to them. */
  private static final class Seeds {
    private static final int UNMARKED = -1;

    final int[] sizes = new int[QUESTIONS];
    private final int[] definitive = new int[QUESTIONS * SEEDS];
    private final int[] given = new int[MARKERS * QUESTIONS * SEEDS];

    Seeds() {
      Arrays.fill(given, UNMARKED);
    }

    void copyFrom(Seeds other) {
      copyRow(other.sizes, sizes);
      copyRow(other.definitive, definitive);
      copyRow(other.given, given);
    }

    int define(int question, int mark) {
      int seed = sizes[question];
      if (seed < SEEDS) {
        definitive[question * SEEDS + seed] = mark;
        sizes[question] = seed + 1;
      }
      return seed;
    }

    int give(int marker, int question, int seed, int mark) {
      given[placeOf(marker, question, seed)] = mark;
      return mark - definitive[question * SEEDS + seed];
    }

    boolean isMarked(int marker, int question, int seed) {
      return given[placeOf(marker, question, seed)] != UNMARKED;
    }

    private int placeOf(int marker, int question, int seed) {
      return (marker * QUESTIONS + question) * SEEDS + seed;
    }

    int markedSeeds() {
      int number = 0;
      for (int i = 0; i < given.length; i++) {
        number += given[i] != UNMARKED ? 1 : 0;
      }
      return number;
    }

    int greatestMark(int question) {
      int greatest = 0;
      for (int seed = 0; seed < sizes[question] && seed < SEEDS; seed++) {
        greatest = Math.max(greatest, definitive[question * SEEDS + seed]);
        for (int marker = 0; marker < MARKERS; marker++) {
          greatest = Math.max(greatest, given[placeOf(marker, question, seed)]);
        }
      }
      return greatest;
    }

    int correctionOf(int marker, int question, int band) {
      int marked = 0;
      int sum = 0;
      for (int seed = 0; seed < SEEDS; seed++) {
        int mark = given[placeOf(marker, question, seed)];
        if (mark != UNMARKED) {
          marked++;
          sum += mark - definitive[question * SEEDS + seed];
        }
      }
      if (marked == 0 || Math.abs(sum) <= marked * band) {
        return 0;
      }
      return -sum * (UNITS / marked);
    }

    /** Whether a deviation of the marker in the question is greater than the limit. */
    boolean strays(int marker, int question, int limit) {
      for (int seed = 0; seed < SEEDS; seed++) {
        int mark = given[placeOf(marker, question, seed)];
        if (mark != UNMARKED && distanceOf(mark, definitive[question * SEEDS + seed]) > limit) {
          return true;
        }
      }
      return false;
    }
  }

  /** The entries of all scripts: the slots of a script are three times its number and the two that follow. */
  private static final class Entries {
    final int[] sizes = new int[SCRIPTS];
    final int[] markers = new int[SLOTS];
    final int[] marks = new int[SLOTS];
    final int[] order = new int[SLOTS];
    int total;

    void copyFrom(Entries other) {
      copyRow(other.sizes, sizes);
      copyRow(other.markers, markers);
      copyRow(other.marks, marks);
      copyRow(other.order, order);
      total = other.total;
    }

    int put(int marker, int script, int mark) {
      int size = sizes[script];
      if (size < ENTRIES && total < SLOTS) {
        int slot = script * ENTRIES + size;
        markers[slot] = marker;
        marks[slot] = mark;
        order[total] = slot;
        total++;
        sizes[script] = size + 1;
      }
      return sizes[script];
    }

    boolean isBy(int marker, int slot) {
      return slot % ENTRIES < sizes[slot / ENTRIES] && markers[slot] == marker;
    }

    boolean hasEntryBy(int marker, int script) {
      for (int i = 0; i < ENTRIES; i++) {
        if (isBy(marker, script * ENTRIES + i)) {
          return true;
        }
      }
      return false;
    }

    int greatestMark(int question) {
      int greatest = 0;
      for (int slot = 0; slot < SLOTS; slot++) {
        if (questionOf(slot) == question && slot % ENTRIES < sizes[slot / ENTRIES]) {
          greatest = Math.max(greatest, marks[slot]);
        }
      }
      return greatest;
    }
  }

  /** The points of the scaling curve, by ascending places. */
  private static final class Curve {
    private final int[] places = new int[POINTS];
    private final int[] values = new int[POINTS];
    int size;

    void copyFrom(Curve other) {
      copyRow(other.places, places);
      copyRow(other.values, values);
      size = other.size;
    }

    int indexOf(int place) {
      for (int i = 0; i < size && i < POINTS; i++) {
        if (places[i] == place) {
          return i;
        }
      }
      return -1;
    }

    int put(int place, int value) {
      int index = indexOf(place);
      if (index < 0 && size < POINTS) {
        index = size;
        while (index > 0 && places[index - 1] > place) {
          places[index] = places[index - 1];
          values[index] = values[index - 1];
          index--;
        }
        size++;
      }
      if (index >= 0) {
        places[index] = place;
        values[index] = value;
      }
      return size;
    }

    int takeAway(int index) {
      int value = values[index];
      for (int i = index; i + 1 < size && i + 1 < POINTS; i++) {
        places[i] = places[i + 1];
        values[i] = values[i + 1];
      }
      size--;
      return value;
    }

    /** The scaled mark of a raw result of numerator / denominator points. */
    int scale(long numerator, long denominator, int full) {
      if (size < 2 || size > POINTS) {
        return round(100L * numerator, denominator * full);
      }
      if (numerator <= places[0] * denominator) {
        return values[0];
      }
      for (int i = 1; i < size; i++) {
        if (numerator < places[i] * denominator) {
          long width = places[i] - places[i - 1];
          long base = values[i - 1] * width * denominator;
          long beyond = numerator - places[i - 1] * denominator;
          return round(base + (values[i] - values[i - 1]) * beyond, width * denominator);
        }
      }
      return values[size - 1];
    }

    private static int round(long dividend, long divisor) {
      return divisor <= 0L ? 0 : (int) Math.floorDiv(2L * dividend + divisor, 2L * divisor);
    }
  }

  /** The appeals for all scripts: their states, the fees paid and the marks of the remarks. */
  private static final class Appeals {
    final int[] states = new int[SCRIPTS];
    final int[] fees = new int[SCRIPTS];
    final int[] marks = new int[SCRIPTS];
    int refunded;

    void copyFrom(Appeals other) {
      copyRow(other.states, states);
      copyRow(other.fees, fees);
      copyRow(other.marks, marks);
      refunded = other.refunded;
    }

    int inState(int state, int from, int end) {
      int number = 0;
      for (int script = Math.max(0, from); script < end && script < SCRIPTS; script++) {
        number += states[script] == state ? 1 : 0;
      }
      return number;
    }

    int made() {
      return SCRIPTS - inState(NO_APPEAL, 0, SCRIPTS);
    }

    void open(int script, int fee) {
      states[script] = OPEN;
      fees[script] = fee;
    }

    void close(int script, int mark, boolean counts) {
      states[script] = counts ? REMARK_COUNTS : REMARK_IGNORED;
      marks[script] = mark;
    }

    int refund(int script) {
      refunded += fees[script];
      return fees[script];
    }
  }

  /** The result of one candidate, found from its settled marks, as they are or as they are supposed to be. */
  private static final class Outcome {
    private final int[] settled = new int[QUESTIONS];
    long numerator;
    long denominator = 1L;
    int scaled;
    int plainGrade;
    int grade;

    void find(Book book, int candidate) {
      for (int question = 0; question < QUESTIONS; question++) {
        settled[question] = book.settledOf(scriptOf(candidate, question));
      }
      assess(book, candidate);
    }

    /** Finds the result anew, with another settled mark in place of the one found or supposed before. */
    void suppose(Book book, int candidate, int question, int mark) {
      settled[question] = mark * UNITS;
      assess(book, candidate);
    }

    private void assess(Book book, int candidate) {
      int full = book.fullMaximum();
      findRawResult(book, candidate, full);
      scaled = book.curve.scale(numerator, denominator * UNITS, full);
      plainGrade = book.plainGradeOf(scaled);
      grade = isLifted(book, candidate) ? plainGrade - 1 : plainGrade;
    }

    private void findRawResult(Book book, int candidate, int full) {
      long sum = 0L;
      long maxima = 0L;
      for (int question = 0; question < QUESTIONS; question++) {
        if (!book.isExcused(candidate, question)) {
          sum += settled[question];
          maxima += book.maxima[question];
        }
      }
      long top = sum * full * (100 + book.raises[candidate]);
      long bottom = maxima * 100L;
      if (top > (long) full * UNITS * bottom) {
        top = (long) full * UNITS;
        bottom = 1L;
      }
      long divisor = greatestCommonDivisor(top, bottom);
      if (divisor > 0L) {
        numerator = top / divisor;
        denominator = bottom / divisor;
      }
    }

    private boolean isLifted(Book book, int candidate) {
      if (plainGrade <= 0 || plainGrade >= GRADES) {
        return false;
      }
      int boundary = book.boundaries[plainGrade - 1];
      int counted = 0;
      int good = 0;
      for (int question = 0; question < QUESTIONS; question++) {
        if (!book.isExcused(candidate, question)) {
          counted++;
          good += settled[question] * 100 >= boundary * book.maxima[question] * UNITS ? 1 : 0;
        }
      }
      return boundary - scaled <= book.settings[DISTANCE] && 2 * good >= counted;
    }

    /** Positive if this result is better than the other one, 0 if they are equal. */
    int compareWith(Outcome other) {
      if (scaled != other.scaled) {
        return scaled > other.scaled ? 1 : -1;
      }
      return Long.compare(numerator * other.denominator, other.numerator * denominator);
    }
  }

  /** The recount: one walk through all entries, in which what each script adds is corrected again and again. */
  private static final class Tally {
    private final int[] seen = new int[QUESTIONS];
    private final int[] first = new int[QUESTIONS];
    private final int[] second = new int[QUESTIONS];
    private final int[] added = new int[QUESTIONS];

    int sumOf(Book book, int candidate) {
      Arrays.fill(seen, 0);
      Arrays.fill(added, 0);
      int sum = 0;
      for (int i = 0; i < book.entries.total && i < SLOTS; i++) {
        int slot = book.entries.order[i];
        boolean own = slot >= 0 && slot / ENTRIES / QUESTIONS == candidate;
        if (own && !book.isExcused(candidate, questionOf(slot)) && book.isValid(slot)) {
          sum += correct(book, questionOf(slot), book.valueOf(slot));
        }
      }
      for (int question = 0; question < QUESTIONS; question++) {
        int script = scriptOf(candidate, question);
        if (book.appeals.states[script] == REMARK_COUNTS && !book.isExcused(candidate, question)) {
          sum += book.appeals.marks[script] * UNITS - added[question];
        }
      }
      return sum;
    }

    /** Takes one more valid entry into account, and returns by how much its script adds more than before. */
    private int correct(Book book, int question, int value) {
      int before = added[question];
      if (seen[question] == 0) {
        first[question] = value;
        added[question] = value;
      } else if (seen[question] == 1) {
        second[question] = value;
        boolean agreed = book.agree(first[question], value);
        added[question] = agreed ? (first[question] + value) / 2 : Math.min(first[question], value);
      } else if (!book.agree(first[question], second[question])) {
        added[question] = halfWithNearer(value, first[question], second[question]);
      }
      seen[question]++;
      return added[question] - before;
    }
  }

  /** The states before the latest changes, in a ring that forgets the oldest one. */
  private static final class History {
    private final Book[] past = new Book[CHANGES];
    private int oldest;
    int size;

    History() {
      for (int i = 0; i < CHANGES; i++) {
        past[i] = new Book();
      }
    }

    void keep(Book book) {
      past[(oldest + size) % CHANGES].copyFrom(book);
      if (size < CHANGES) {
        size++;
      } else {
        oldest = (oldest + 1) % CHANGES;
      }
    }

    void takeBack(Book into) {
      if (size > 0) {
        size--;
        into.copyFrom(past[(oldest + size) % CHANGES]);
      }
    }
  }

  /** The report of the latest refusal. */
  private static final class Report {
    static final int LEVELS = 2;

    final int[] codes = new int[LEVELS];
    final int[] details = new int[LEVELS];
    int size;

    /** Replaces the report; always answers true, as those that refuse do. */
    boolean tell(int code, int detail, int causeCode, int causeDetail) {
      codes[0] = code;
      details[0] = detail;
      codes[1] = causeCode;
      details[1] = causeDetail;
      size = LEVELS;
      return true;
    }
  }

  /** The buffer, and what was read from it the last time. */
  private static final class SheetReader {
    static final int CAPACITY = 60;
    static final int MOST_ENTRIES = CAPACITY / 3;

    // What a sheet may go on with
    private static final int MARKER = 0;
    private static final int SLASH = 1;
    private static final int QUESTION = 2;
    private static final int COLON = 3;
    private static final int CANDIDATE = 4;
    private static final int EQUALS = 5;
    private static final int FIRST_DIGIT = 6;
    private static final int SECOND_DIGIT_OR_COMMA = 7;
    private static final int COMMA = 8;

    private final char[] text = new char[CAPACITY];
    private int expected;
    int length;
    int error = -1;
    int marker;
    int question;
    int entries;
    final int[] candidates = new int[MOST_ENTRIES];
    final int[] marks = new int[MOST_ENTRIES];

    /** Stores a character at the end of the buffer, unless it is 0. */
    void store(int sign) {
      if (sign != 0 && length < CAPACITY) {
        text[length] = (char) sign;
        length++;
      }
    }

    void readAndClear() {
      expected = MARKER;
      entries = 0;
      error = positionOfError();
      length = 0;
    }

    private int positionOfError() {
      for (int i = 0; i < length && i < CAPACITY; i++) {
        if (!accepts(text[i])) {
          return i;
        }
      }
      return expected == SECOND_DIGIT_OR_COMMA || expected == COMMA ? -1 : length;
    }

    private boolean accepts(char sign) {
      int digit = sign >= '0' && sign <= '9' ? sign - '0' : -1;
      switch (expected) {
        case MARKER:
          marker = digit;
          return goesOn(isBelow(digit, MARKERS), SLASH);
        case SLASH:
          return goesOn(sign == '/', QUESTION);
        case QUESTION:
          question = digit;
          return goesOn(isBelow(digit, QUESTIONS), COLON);
        case COLON:
          return goesOn(sign == ':', CANDIDATE);
        case CANDIDATE:
          return isBelow(digit, CANDIDATES) && startsEntry(digit);
        case EQUALS:
          return goesOn(sign == '=', FIRST_DIGIT);
        case FIRST_DIGIT:
          return digit >= 0 && takesDigit(digit, digit == 0 ? COMMA : SECOND_DIGIT_OR_COMMA);
        case SECOND_DIGIT_OR_COMMA:
          return digit >= 0 ? takesDigit(digit, COMMA) : goesOn(sign == ',', CANDIDATE);
        default:
          return goesOn(sign == ',', CANDIDATE);
      }
    }

    private boolean goesOn(boolean accepted, int next) {
      expected = next;
      return accepted;
    }

    private boolean startsEntry(int candidate) {
      if (entries >= MOST_ENTRIES) {
        return false;
      }
      candidates[entries] = candidate;
      marks[entries] = 0;
      entries++;
      return goesOn(true, EQUALS);
    }

    private boolean takesDigit(int digit, int next) {
      if (entries <= 0) {
        return false;
      }
      marks[entries - 1] = marks[entries - 1] * 10 + digit;
      return goesOn(true, next);
    }
  }
}
