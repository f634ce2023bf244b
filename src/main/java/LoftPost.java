/** Couriers' chains of carrier pigeons. */
public final class LoftPost {
  private static final int TAPE_BYTES = 2000;
  private static final int FED_BYTES = 20;
  private static final int MAX_TOKENS = 400;
  private static final int MAX_WORD = 10;
  private static final int MAX_DIGITS = 6;

  private static final int MAX_LOFTS = 6;
  private static final int MAX_PIGEONS = 20;
  private static final int MAX_HAWKS = 6;
  private static final int MAX_LETTERS = 12;
  private static final int MAX_SPOTS = 6;
  private static final int MAX_STAGES = 6;
  private static final int LAST_XY = 63;
  private static final int LONGEST_SEARCH = 24;

  private static final int CAGED = 0;
  private static final int FLIES = 1;
  private static final int GONE = 2;

  private static final int COUNT_WHATS = 12;
  private static final int LOFT_WHATS = 8;
  private static final int PIGEON_WHATS = 8;
  private static final int HAWK_WHATS = 5;
  private static final int LETTER_WHATS = 8;

  private static final int MAX_HOURS = 200;
  private static final int HOURS_WHERE = 500;
  private static final int HOURS_TO_ARRIVE = 300;
  private static final int HOURS_OF_DOUBLES = 100;

  private static final Kind[] KINDS = Kind.values();

  private final Reader reader = new Reader();
  private int latestErrorAt;
  private World now;
  // A text is read into it, and what is foreseen happens in it: of use only within one call.
  private World spare;

  public LoftPost() {
    latestErrorAt = -1;
    now = new World();
    spare = new World();
  }

  // ---- the language

  public int feed(int a, int b, int c, int d, int e) throws IllegalStateException {
    Tape tape = reader.tape;
    if (tape.length > TAPE_BYTES - FED_BYTES) {
      throw new IllegalStateException("the tape would be too long");
    }
    tape.append(a);
    tape.append(b);
    tape.append(c);
    tape.append(d);
    tape.append(e);
    return tape.length;
  }

  public int trim(int n) throws IllegalArgumentException {
    if (n < 0 || n > reader.tape.length) {
      throw new IllegalArgumentException("the tape has not so many bytes");
    }
    reader.tape.length = n;
    return n;
  }

  public int teach() {
    int error = reader.read(spare);
    reader.tape.length = 0;
    latestErrorAt = reader.errorPosition;
    if (error == 0) {
      World told = spare;
      told.hour = now.hour;
      told.tooMany = now.tooMany;
      spare = now;
      now = told;
    }
    return error;
  }

  public int errorAt() {
    return latestErrorAt;
  }

  public int count(int what) throws IndexOutOfBoundsException {
    switch (what) {
      case 0: return now.hour;
      case 1: return now.loftCount;
      case 2: return now.pigeonCount;
      case 3: return now.hawkCount;
      case 4: return now.letterCount;
      case 5: return now.pigeonsThat(CAGED);
      case 6: return now.pigeonsThat(FLIES);
      case 7: return now.pigeonsThat(GONE);
      case 8: return now.arrivedLetters();
      case 9: return now.lostLetters();
      case 10: return now.tooMany;
      case 11: return reader.tape.length;
      default: throw new IndexOutOfBoundsException("what is not 0 to 11");
    }
  }

  // ---- what is where

  public int loft(int loft, int what) throws IndexOutOfBoundsException {
    if (!now.hasLoft(loft) || what < 0 || what >= LOFT_WHATS) {
      throw new IndexOutOfBoundsException("no such loft, or what is not 0 to 7");
    }
    Loft asked = now.loftAt(loft);
    switch (what) {
      case 0: return asked.x;
      case 1: return asked.y;
      case 2: return asked.speed;
      case 3: return asked.spots;
      case 4: return asked.next;
      case 5: return now.pigeonsInCages(loft);
      case 6: return now.homePigeonsThatFly(loft);
      default: return now.lettersIn(loft);
    }
  }

  public int pigeon(int pigeon, int what) throws IndexOutOfBoundsException {
    if (!now.hasPigeon(pigeon) || what < 0 || what >= PIGEON_WHATS) {
      throw new IndexOutOfBoundsException("no such pigeon, or what is not 0 to 7");
    }
    Pigeon asked = now.pigeonAt(pigeon);
    switch (what) {
      case 0: return asked.state;
      case 1: return now.xOf(asked);
      case 2: return now.yOf(asked);
      case 3: return asked.home;
      case 4: return asked.state == CAGED ? asked.cage : -1;
      case 5: return asked.state == FLIES ? asked.letter : -1;
      case 6: return asked.state == FLIES ? asked.searched : 0;
      default: return now.distanceFromHome(asked);
    }
  }

  public int hawk(int hawk, int what) throws IndexOutOfBoundsException {
    if (!now.hasHawk(hawk) || what < 0 || what >= HAWK_WHATS) {
      throw new IndexOutOfBoundsException("no such hawk, or what is not 0 to 4");
    }
    Hawk asked = now.hawkAt(hawk);
    switch (what) {
      case 0: return asked.x;
      case 1: return asked.y;
      case 2: return asked.reach;
      case 3: return asked.resting;
      default: return asked.caught;
    }
  }

  public int letter(int letter, int what) throws IndexOutOfBoundsException {
    if (!now.hasLetter(letter) || what < 0 || what >= LETTER_WHATS) {
      throw new IndexOutOfBoundsException("no such letter, or what is not 0 to 7");
    }
    Letter asked = now.letterAt(letter);
    switch (what) {
      case 0: return asked.loft;
      case 1: return asked.stage;
      case 2: return asked.stages;
      case 3: return asked.hasArrived() ? 1 : 0;
      case 4: return now.isLost(letter) ? 1 : 0;
      case 5: return now.doublesThatFly(letter);
      case 6: return asked.sent;
      default: return asked.arrivalHour;
    }
  }

  public int bring(int pigeon, int loft) throws IndexOutOfBoundsException, IllegalStateException {
    if (!now.hasPigeon(pigeon) || !now.hasLoft(loft)) {
      throw new IndexOutOfBoundsException("no such pigeon or loft");
    }
    Pigeon brought = now.pigeonAt(pigeon);
    if (brought.state != CAGED) {
      throw new IllegalStateException("the pigeon is not in a cage");
    }
    int before = brought.cage;
    brought.cage = loft;
    return before;
  }

  public int lure(int hawk, int x, int y)
      throws IndexOutOfBoundsException, IllegalArgumentException {
    if (!now.hasHawk(hawk)) {
      throw new IndexOutOfBoundsException("no such hawk");
    }
    if (x < 0 || x > LAST_XY || y < 0 || y > LAST_XY) {
      throw new IllegalArgumentException("no such spot");
    }
    Hawk lured = now.hawkAt(hawk);
    int far = distance(lured.x, lured.y, x, y);
    lured.x = x;
    lured.y = y;
    return far;
  }

  // ---- hours

  public int pass(int hours) throws IllegalArgumentException {
    if (hours < 1 || hours > MAX_HOURS) {
      throw new IllegalArgumentException("hours is not 1 to 200");
    }
    int before = now.arrivedLetters();
    for (int passed = 0; passed < hours; passed++) {
      now.passHour();
    }
    return now.arrivedLetters() - before;
  }

  // ---- looking ahead

  public int foresee(int hours, int what)
      throws IllegalArgumentException, IndexOutOfBoundsException {
    if (hours < 1 || hours > MAX_HOURS) {
      throw new IllegalArgumentException("hours is not 1 to 200");
    }
    if (what < 0 || what > 2) {
      throw new IndexOutOfBoundsException("what is not 0 to 2");
    }
    lookAhead(hours);
    switch (what) {
      case 0: return spare.arrivedLetters();
      case 1: return spare.lostLetters();
      default: return spare.pigeonsThat(GONE);
    }
  }

  /** Leaves in the spare world what letters and pigeons are like behind so many hours. */
  private void lookAhead(int hours) {
    spare.copyFrom(now);
    for (int passed = 0; passed < hours && !spare.isQuiet(); passed++) {
      spare.passHour();
    }
  }

  public int arrives(int letter) throws IndexOutOfBoundsException {
    if (!now.hasLetter(letter)) {
      throw new IndexOutOfBoundsException("no such letter");
    }
    spare.copyFrom(now);
    return hoursToStage(letter, now.letterAt(letter).stages, HOURS_TO_ARRIVE);
  }

  /** Lets the spare world go on until the letter lies before the stage; -1 if the limit is over. */
  private int hoursToStage(int letter, int stage, int limit) {
    Letter carried = spare.letterAt(letter);
    int hours = 0;
    while (carried.stage < stage && hours < limit && !spare.isQuiet()) {
      spare.passHour();
      hours++;
    }
    return carried.stage >= stage ? hours : -1;
  }

  public int where(int loft, int hours) throws IndexOutOfBoundsException, IllegalArgumentException {
    if (!now.hasLoft(loft)) {
      throw new IndexOutOfBoundsException("no such loft");
    }
    if (hours < 0 || hours > HOURS_WHERE) {
      throw new IllegalArgumentException("hours is not 0 to 500");
    }
    Loft moving = spare.loftAt(loft);
    moving.copyFrom(now.loftAt(loft));
    for (int passed = 0; passed < hours; passed++) {
      moving.move();
    }
    return 64 * moving.y + moving.x;
  }

  public int blame(int letter) throws IndexOutOfBoundsException {
    if (!now.hasLetter(letter)) {
      throw new IndexOutOfBoundsException("no such letter");
    }
    int stages = now.letterAt(letter).stages;
    spare.copyFrom(now);
    int withAll = hoursToStage(letter, stages, HOURS_TO_ARRIVE);
    int earliest = withAll < 0 ? HOURS_TO_ARRIVE + 1 : withAll;
    int blamed = -1;
    for (int hawk = 0; hawk < now.hawkCount; hawk++) {
      spare.copyFrom(now);
      spare.hawkAt(hawk).takeAway();
      int without = hoursToStage(letter, stages, earliest - 1);
      if (without >= 0 && without < earliest) {
        earliest = without;
        blamed = hawk;
      }
    }
    return blamed;
  }

  public int doubles(int letter) throws IndexOutOfBoundsException {
    if (!now.hasLetter(letter)) {
      throw new IndexOutOfBoundsException("no such letter");
    }
    Letter waiting = now.letterAt(letter);
    if (waiting.hasArrived()) {
      return 0;
    }
    int departing = departingWith(letter);
    int most = Integer.bitCount(departing);
    for (int kept = 1; kept <= most; kept++) {
      spare.copyFrom(now);
      keepFirst(waiting, departing, kept);
      if (hoursToStage(letter, waiting.stage + 1, HOURS_OF_DOUBLES) >= 0) {
        return kept;
      }
    }
    return -1;
  }

  /** A bit for each pigeon that sets out with the letter in the next hour. */
  private int departingWith(int letter) {
    spare.copyFrom(now);
    // The letters ahead of it may take its pigeons, so they send theirs, too.
    spare.sendLetters();
    return spare.letterAt(letter).carriedBy & ~now.letterAt(letter).carriedBy;
  }

  /** Takes all but the first ones of the departing pigeons out of the spare world. */
  private void keepFirst(Letter waiting, int departing, int kept) {
    int met = 0;
    int size = waiting.carriersOf(waiting.stage);
    for (int place = 0; place < size; place++) {
      int carrier = waiting.carrierAt(waiting.stage, place);
      if ((departing & bit(carrier)) != 0) {
        met++;
        if (met > kept) {
          spare.pigeonAt(carrier).state = GONE;
        }
      }
    }
  }

  public int need() {
    lookAhead(HOURS_TO_ARRIVE);
    int neediest = -1;
    int mostLeft = 0;
    for (int letter = 0; letter < now.letterCount; letter++) {
      Letter present = now.letterAt(letter);
      int left = present.stages - present.stage;
      if (!spare.letterAt(letter).hasArrived() && left > mostLeft) {
        mostLeft = left;
        neediest = letter;
      }
    }
    return neediest;
  }

  public double mean() {
    int sum = 0;
    int arrived = 0;
    for (int letter = 0; letter < now.letterCount; letter++) {
      Letter told = now.letterAt(letter);
      if (told.hasArrived()) {
        sum += told.arrivalHour;
        arrived++;
      }
    }
    return arrived == 0 ? 0.0 : (double) sum / (double) arrived;
  }

  public long digest() {
    long d = 733;
    for (int what = 0; what < COUNT_WHATS; what++) {
      d = d * 31 + count(what);
    }
    for (int told = 0; told < now.loftCount * LOFT_WHATS; told++) {
      d = d * 31 + loft(told / LOFT_WHATS, told % LOFT_WHATS);
    }
    for (int told = 0; told < now.pigeonCount * PIGEON_WHATS; told++) {
      d = d * 31 + pigeon(told / PIGEON_WHATS, told % PIGEON_WHATS);
    }
    for (int told = 0; told < now.hawkCount * HAWK_WHATS; told++) {
      d = d * 31 + hawk(told / HAWK_WHATS, told % HAWK_WHATS);
    }
    for (int told = 0; told < now.letterCount * LETTER_WHATS; told++) {
      d = d * 31 + letter(told / LETTER_WHATS, told % LETTER_WHATS);
    }
    return d;
  }

  // ---- what several classes use

  private static int distance(int x, int y, int toX, int toY) {
    return Math.max(Math.abs(x - toX), Math.abs(y - toY));
  }

  /** One of the two numbers of a spot, behind going to the one there by so many. */
  private static int nearer(int from, int to, int by) {
    if (from < to) {
      return Math.min(from + by, to);
    }
    return Math.max(from - by, to);
  }

  private static int bit(int pigeon) {
    return pigeon >= 0 && pigeon < MAX_PIGEONS ? 1 << pigeon : 0;
  }

  /** An index that is safe in a row of so many: a wrong one becomes the first. */
  private static int safe(int index, int length) {
    return index >= 0 && index < length ? index : 0;
  }

  private enum Kind {
    END(""), NONE(""), NAME(""), NUMBER(""), COMMA(""), SEMICOLON(""),
    LOFT("loft"), AT("at"), THEN("then"), SPEED("speed"), PIGEON("pigeon"), OF("of"), IN("in"),
    SIGHT("sight"), HAWK("hawk"), REACH("reach"), RESTS("rests"), LETTER("letter"), BY("by"),
    AND("and");

    final String word;

    Kind(String word) {
      this.word = word;
    }
  }

  /** The tape, and its tokens; behind them END, or NONE where there is none to go on with. */
  private static final class Tape {
    private final byte[] bytes = new byte[TAPE_BYTES];
    int length;
    private final Kind[] kinds = new Kind[MAX_TOKENS + 1];
    private final int[] starts = new int[MAX_TOKENS + 1];
    private final int[] sizes = new int[MAX_TOKENS + 1];
    private int tokens;

    /** Appends the four bytes of a number, the highest one first. */
    void append(int number) {
      for (int shift = 24; shift >= 0; shift -= 8) {
        if (length >= 0 && length < bytes.length) {
          bytes[length] = (byte) (number >> shift);
          length++;
        }
      }
    }

    void scan() {
      tokens = 0;
      int at = behindBlanks(0);
      Kind kind = kindAt(at);
      for (int found = 0; found < MAX_TOKENS && kind != Kind.END && kind != Kind.NONE; found++) {
        int end = endAt(at);
        keep(kind, at, end - at);
        at = behindBlanks(end);
        kind = kindAt(at);
      }
      keep(kind == Kind.END ? Kind.END : Kind.NONE, at, 0);
    }

    private void keep(Kind kind, int start, int size) {
      if (tokens >= 0 && tokens < kinds.length && tokens < starts.length
          && tokens < sizes.length) {
        kinds[tokens] = kind;
        starts[tokens] = start;
        sizes[tokens] = size;
        tokens++;
      }
    }

    private int byteAt(int at) {
      return at >= 0 && at < length && at < bytes.length ? bytes[at] : 0;
    }

    private int behindBlanks(int from) {
      int at = from;
      while (at < length && (byteAt(at) == 32 || byteAt(at) == 10)) {
        at++;
      }
      return at;
    }

    private static boolean isLetter(int b) {
      return b >= 'a' && b <= 'z';
    }

    private static boolean isDigit(int b) {
      return b >= '0' && b <= '9';
    }

    /** The position behind the longest row of bytes that can be read as one token. */
    private int endAt(int start) {
      int end = start + 1;
      if (isLetter(byteAt(start))) {
        while (end < length && (isLetter(byteAt(end)) || isDigit(byteAt(end)))) {
          end++;
        }
      } else if (isDigit(byteAt(start))) {
        while (end < length && isDigit(byteAt(end))) {
          end++;
        }
      }
      return end;
    }

    private Kind kindAt(int start) {
      if (start >= length) {
        return Kind.END;
      }
      int first = byteAt(start);
      int size = endAt(start) - start;
      if (isLetter(first)) {
        return size > MAX_WORD ? Kind.NONE : kindOfWord(start, size);
      }
      if (isDigit(first)) {
        return size > MAX_DIGITS ? Kind.NONE : Kind.NUMBER;
      }
      if (first == ',') {
        return Kind.COMMA;
      }
      return first == ';' ? Kind.SEMICOLON : Kind.NONE;
    }

    private Kind kindOfWord(int start, int size) {
      for (int i = 0; i < KINDS.length; i++) {
        if (isSpelled(KINDS[i].word, start, size)) {
          return KINDS[i];
        }
      }
      return Kind.NAME;
    }

    private boolean isSpelled(String word, int start, int size) {
      if (word.length() != size) {
        return false;
      }
      for (int i = 0; i < word.length(); i++) {
        if (word.charAt(i) != byteAt(start + i)) {
          return false;
        }
      }
      return true;
    }

    Kind kindOf(int token) {
      return token >= 0 && token < tokens && token < kinds.length ? kinds[token] : Kind.NONE;
    }

    int startOf(int token) {
      return token >= 0 && token < starts.length ? starts[token] : 0;
    }

    private int sizeOf(int token) {
      return token >= 0 && token < sizes.length ? sizes[token] : 0;
    }

    boolean areSame(int token, int other) {
      int size = sizeOf(token);
      if (size != sizeOf(other)) {
        return false;
      }
      for (int i = 0; i < size; i++) {
        if (byteAt(startOf(token) + i) != byteAt(startOf(other) + i)) {
          return false;
        }
      }
      return true;
    }

    int numberOf(int token) {
      int number = 0;
      int size = sizeOf(token);
      for (int i = 0; i < size && i < MAX_DIGITS; i++) {
        number = number * 10 + byteAt(startOf(token) + i) - '0';
      }
      return number;
    }
  }

  /**
   * Reads a text into a world. Where it finds an error 2 to 7 it goes on, since an error 1 may
   * come; what it writes into the world from then on has no meaning.
   */
  private static final class Reader {
    final Tape tape = new Tape();
    private final int[] loftNames = new int[MAX_LOFTS];
    private final int[] pigeonNames = new int[MAX_PIGEONS];
    private final int[] letterNames = new int[MAX_LETTERS];
    private int at;
    private int error;
    int errorPosition;
    // What was read last: a number, or the number of the loft or pigeon of a name.
    private int value;
    private int spotX;
    private int spotY;

    /** Returns 0, or the error. */
    int read(World draft) {
      tape.scan();
      draft.clear();
      at = 0;
      error = 0;
      errorPosition = -1;
      boolean fits = true;
      for (int lines = 0; lines < MAX_TOKENS && fits && !isNext(Kind.END); lines++) {
        if (accept(Kind.LOFT)) {
          fits = readLoft(draft);
        } else if (accept(Kind.PIGEON)) {
          fits = readPigeon(draft);
        } else if (accept(Kind.HAWK)) {
          fits = readHawk(draft);
        } else {
          fits = accept(Kind.LETTER) && readLetter(draft);
        }
        fits = fits && accept(Kind.SEMICOLON);
      }
      if (!fits) {
        error = 1;
        errorPosition = tape.startOf(at);
      }
      return error;
    }

    private boolean isNext(Kind kind) {
      return tape.kindOf(at) == kind;
    }

    private boolean accept(Kind kind) {
      if (!isNext(kind)) {
        return false;
      }
      at++;
      return true;
    }

    /** Tells an error 2 to 7 of the latest token, unless one was told ahead. */
    private void tell(int found) {
      if (error == 0) {
        error = found;
        errorPosition = tape.startOf(at - 1);
      }
    }

    private boolean readLoft(World draft) {
      if (!readNewName(loftNames, draft.loftCount)) {
        return false;
      }
      Loft loft = draft.addLoft();
      if (!accept(Kind.AT) || !readSpot()) {
        return false;
      }
      loft.addSpot(spotX, spotY);
      for (int spots = 1; spots < MAX_TOKENS && accept(Kind.THEN); spots++) {
        if (loft.spots >= MAX_SPOTS) {
          tell(4);
        }
        if (!readSpot()) {
          return false;
        }
        loft.addSpot(spotX, spotY);
      }
      if (!readOption(Kind.SPEED, 0, 5, 0)) {
        return false;
      }
      loft.speed = value;
      return true;
    }

    private boolean readPigeon(World draft) {
      if (!readNewName(pigeonNames, draft.pigeonCount)) {
        return false;
      }
      Pigeon pigeon = draft.addPigeon();
      if (!accept(Kind.OF) || !readOldName(loftNames, draft.loftCount)) {
        return false;
      }
      pigeon.home = value;
      if (accept(Kind.IN) && !readOldName(loftNames, draft.loftCount)) {
        return false;
      }
      pigeon.cage = value;
      if (!readOption(Kind.SPEED, 1, 20, 8)) {
        return false;
      }
      pigeon.speed = value;
      if (!readOption(Kind.SIGHT, 0, 20, 3)) {
        return false;
      }
      pigeon.sight = value;
      return true;
    }

    private boolean readHawk(World draft) {
      if (draft.hawkCount >= MAX_HAWKS) {
        tell(4);
      }
      Hawk hawk = draft.addHawk();
      if (!accept(Kind.AT) || !readSpot()) {
        return false;
      }
      hawk.x = spotX;
      hawk.y = spotY;
      if (!accept(Kind.REACH) || !readNumber(0, 20)) {
        return false;
      }
      hawk.reach = value;
      if (!readOption(Kind.RESTS, 1, 24, 4)) {
        return false;
      }
      hawk.rests = value;
      return true;
    }

    private boolean readLetter(World draft) {
      if (!readNewName(letterNames, draft.letterCount)) {
        return false;
      }
      Letter letter = draft.addLetter();
      if (!accept(Kind.IN) || !readOldName(loftNames, draft.loftCount)) {
        return false;
      }
      letter.loft = value;
      boolean fits = accept(Kind.BY) && readStage(draft, letter);
      for (int stages = 1; stages < MAX_TOKENS && fits && accept(Kind.COMMA); stages++) {
        fits = readStage(draft, letter);
      }
      return fits;
    }

    private boolean readStage(World draft, Letter letter) {
      if (!readOldName(pigeonNames, draft.pigeonCount)) {
        return false;
      }
      if (letter.stages >= MAX_STAGES) {
        tell(4);
      }
      letter.addStage();
      letter.addCarrier(value);
      int home = draft.pigeonAt(value).home;
      for (int names = 1; names < MAX_TOKENS && accept(Kind.AND); names++) {
        if (!readOldName(pigeonNames, draft.pigeonCount)) {
          return false;
        }
        if (draft.pigeonAt(value).home != home) {
          tell(6);
        }
        if (letter.latestStageHas(value)) {
          tell(7);
        }
        letter.addCarrier(value);
      }
      return true;
    }

    /** Reads the name of one more loft, pigeon or letter, and keeps it. */
    private boolean readNewName(int[] names, int count) {
      if (!accept(Kind.NAME)) {
        return false;
      }
      if (find(names, count) >= 0) {
        tell(2);
      }
      if (count >= 0 && count < names.length) {
        names[count] = at - 1;
      } else {
        tell(4);
      }
      return true;
    }

    /** Reads a name that was told ahead; the value is then the number of what bears it. */
    private boolean readOldName(int[] names, int count) {
      if (!accept(Kind.NAME)) {
        return false;
      }
      value = find(names, count);
      if (value < 0) {
        tell(3);
        value = 0;
      }
      return true;
    }

    /** The number of the latest token's name among those kept; -1 if it is not there. */
    private int find(int[] names, int count) {
      for (int i = 0; i < count && i < names.length; i++) {
        if (tape.areSame(names[i], at - 1)) {
          return i;
        }
      }
      return -1;
    }

    private boolean readSpot() {
      if (!readNumber(0, LAST_XY)) {
        return false;
      }
      spotX = value;
      if (!accept(Kind.COMMA) || !readNumber(0, LAST_XY)) {
        return false;
      }
      spotY = value;
      return true;
    }

    private boolean readOption(Kind word, int least, int most, int otherwise) {
      if (accept(word)) {
        return readNumber(least, most);
      }
      value = otherwise;
      return true;
    }

    private boolean readNumber(int least, int most) {
      if (!accept(Kind.NUMBER)) {
        return false;
      }
      value = tape.numberOf(at - 1);
      if (value < least || value > most) {
        tell(5);
      }
      return true;
    }
  }

  /** All lofts, pigeons, hawks and letters at an hour, and what an hour does with them. */
  private static final class World {
    private final Loft[] lofts = new Loft[MAX_LOFTS];
    private final Pigeon[] pigeons = new Pigeon[MAX_PIGEONS];
    private final Hawk[] hawks = new Hawk[MAX_HAWKS];
    private final Letter[] letters = new Letter[MAX_LETTERS];
    int loftCount;
    int pigeonCount;
    int hawkCount;
    int letterCount;
    int hour;
    int tooMany;

    World() {
      for (int i = 0; i < lofts.length; i++) {
        lofts[i] = new Loft();
      }
      for (int i = 0; i < pigeons.length; i++) {
        pigeons[i] = new Pigeon();
      }
      for (int i = 0; i < hawks.length; i++) {
        hawks[i] = new Hawk();
      }
      for (int i = 0; i < letters.length; i++) {
        letters[i] = new Letter();
      }
    }

    void clear() {
      loftCount = 0;
      pigeonCount = 0;
      hawkCount = 0;
      letterCount = 0;
      hour = 0;
      tooMany = 0;
    }

    void copyFrom(World other) {
      loftCount = other.loftCount;
      pigeonCount = other.pigeonCount;
      hawkCount = other.hawkCount;
      letterCount = other.letterCount;
      hour = other.hour;
      tooMany = other.tooMany;
      for (int i = 0; i < loftCount; i++) {
        loftAt(i).copyFrom(other.loftAt(i));
      }
      for (int i = 0; i < pigeonCount; i++) {
        pigeonAt(i).copyFrom(other.pigeonAt(i));
      }
      for (int i = 0; i < hawkCount; i++) {
        hawkAt(i).copyFrom(other.hawkAt(i));
      }
      for (int i = 0; i < letterCount; i++) {
        letterAt(i).copyFrom(other.letterAt(i));
      }
    }

    boolean hasLoft(int number) {
      return number >= 0 && number < loftCount;
    }

    boolean hasPigeon(int number) {
      return number >= 0 && number < pigeonCount;
    }

    boolean hasHawk(int number) {
      return number >= 0 && number < hawkCount;
    }

    boolean hasLetter(int number) {
      return number >= 0 && number < letterCount;
    }

    Loft loftAt(int number) {
      return lofts[safe(number, lofts.length)];
    }

    Pigeon pigeonAt(int number) {
      return pigeons[safe(number, pigeons.length)];
    }

    Hawk hawkAt(int number) {
      return hawks[safe(number, hawks.length)];
    }

    Letter letterAt(int number) {
      return letters[safe(number, letters.length)];
    }

    Loft addLoft() {
      loftCount = Math.min(loftCount + 1, MAX_LOFTS);
      Loft added = loftAt(loftCount - 1);
      added.clear();
      return added;
    }

    Pigeon addPigeon() {
      pigeonCount = Math.min(pigeonCount + 1, MAX_PIGEONS);
      Pigeon added = pigeonAt(pigeonCount - 1);
      added.clear();
      return added;
    }

    Hawk addHawk() {
      hawkCount = Math.min(hawkCount + 1, MAX_HAWKS);
      Hawk added = hawkAt(hawkCount - 1);
      added.clear();
      return added;
    }

    Letter addLetter() {
      letterCount = Math.min(letterCount + 1, MAX_LETTERS);
      Letter added = letterAt(letterCount - 1);
      added.clear();
      return added;
    }

    int pigeonsThat(int state) {
      int found = 0;
      for (int i = 0; i < pigeonCount; i++) {
        if (pigeonAt(i).state == state) {
          found++;
        }
      }
      return found;
    }

    int pigeonsInCages(int loft) {
      int found = 0;
      for (int i = 0; i < pigeonCount; i++) {
        if (pigeonAt(i).isCagedIn(loft)) {
          found++;
        }
      }
      return found;
    }

    int homePigeonsThatFly(int loft) {
      int found = 0;
      for (int i = 0; i < pigeonCount; i++) {
        Pigeon pigeon = pigeonAt(i);
        if (pigeon.state == FLIES && pigeon.home == loft) {
          found++;
        }
      }
      return found;
    }

    int lettersIn(int loft) {
      int found = 0;
      for (int i = 0; i < letterCount; i++) {
        if (letterAt(i).loft == loft) {
          found++;
        }
      }
      return found;
    }

    int arrivedLetters() {
      int found = 0;
      for (int i = 0; i < letterCount; i++) {
        if (letterAt(i).hasArrived()) {
          found++;
        }
      }
      return found;
    }

    int lostLetters() {
      int found = 0;
      for (int i = 0; i < letterCount; i++) {
        if (isLost(i)) {
          found++;
        }
      }
      return found;
    }

    int doublesThatFly(int letter) {
      int found = 0;
      for (int i = 0; i < pigeonCount; i++) {
        Pigeon pigeon = pigeonAt(i);
        if (pigeon.state == FLIES && pigeon.letter == letter) {
          found++;
        }
      }
      return found;
    }

    boolean isLost(int number) {
      Letter letter = letterAt(number);
      return !letter.hasArrived() && !hasDoubleOfItsStage(number) && !canGoOn(letter);
    }

    private boolean hasDoubleOfItsStage(int number) {
      int stage = letterAt(number).stage;
      for (int i = 0; i < pigeonCount; i++) {
        Pigeon pigeon = pigeonAt(i);
        if (pigeon.state == FLIES && pigeon.letter == number && pigeon.stage == stage) {
          return true;
        }
      }
      return false;
    }

    /** Whether a pigeon of its stage waits for it. */
    private boolean canGoOn(Letter letter) {
      int size = letter.carriersOf(letter.stage);
      for (int place = 0; place < size; place++) {
        if (canSetOut(letter, letter.carrierAt(letter.stage, place))) {
          return true;
        }
      }
      return false;
    }

    private boolean canSetOut(Letter letter, int carrier) {
      return pigeonAt(carrier).isCagedIn(letter.loft) && (letter.carriedBy & bit(carrier)) == 0;
    }

    /** Whether no letter and no pigeon will ever change again, if nothing is done. */
    boolean isQuiet() {
      for (int i = 0; i < pigeonCount; i++) {
        if (pigeonAt(i).state == FLIES) {
          return false;
        }
      }
      for (int i = 0; i < letterCount; i++) {
        Letter letter = letterAt(i);
        if (!letter.hasArrived() && canGoOn(letter)) {
          return false;
        }
      }
      return true;
    }

    int xOf(Pigeon pigeon) {
      return pigeon.state == CAGED ? loftAt(pigeon.cage).x : pigeon.x;
    }

    int yOf(Pigeon pigeon) {
      return pigeon.state == CAGED ? loftAt(pigeon.cage).y : pigeon.y;
    }

    int distanceFromHome(Pigeon pigeon) {
      Loft home = loftAt(pigeon.home);
      return distance(xOf(pigeon), yOf(pigeon), home.x, home.y);
    }

    void passHour() {
      for (int i = 0; i < loftCount; i++) {
        loftAt(i).move();
      }
      sendLetters();
      for (int i = 0; i < pigeonCount; i++) {
        if (pigeonAt(i).state == FLIES) {
          fly(pigeonAt(i));
        }
      }
      for (int i = 0; i < hawkCount; i++) {
        hunt(hawkAt(i));
      }
      hour++;
    }

    void sendLetters() {
      for (int i = 0; i < letterCount; i++) {
        if (!letterAt(i).hasArrived()) {
          sendDoubles(i);
        }
      }
    }

    private void sendDoubles(int number) {
      Letter letter = letterAt(number);
      int size = letter.carriersOf(letter.stage);
      for (int place = 0; place < size; place++) {
        int carrier = letter.carrierAt(letter.stage, place);
        if (canSetOut(letter, carrier)) {
          Pigeon pigeon = pigeonAt(carrier);
          pigeon.setOut(loftAt(letter.loft), loftAt(pigeon.home));
          pigeon.letter = number;
          pigeon.stage = letter.stage;
          letter.carriedBy |= bit(carrier);
          letter.sent++;
        }
      }
    }

    private void fly(Pigeon pigeon) {
      Loft home = loftAt(pigeon.home);
      if (distanceFromHome(pigeon) <= pigeon.sight + pigeon.searched) {
        pigeon.aimX = home.x;
        pigeon.aimY = home.y;
      }
      pigeon.x = nearer(pigeon.x, pigeon.aimX, pigeon.speed);
      pigeon.y = nearer(pigeon.y, pigeon.aimY, pigeon.speed);
      if (pigeon.x == home.x && pigeon.y == home.y) {
        comeHome(pigeon);
      } else if (pigeon.x == pigeon.aimX && pigeon.y == pigeon.aimY) {
        pigeon.searched++;
        if (pigeon.searched > LONGEST_SEARCH) {
          pigeon.state = GONE;
        }
      }
    }

    private void comeHome(Pigeon pigeon) {
      pigeon.state = CAGED;
      pigeon.cage = pigeon.home;
      Letter letter = letterAt(pigeon.letter);
      if (letter.stage == pigeon.stage) {
        letter.goOnIn(pigeon.home, hour);
      } else {
        tooMany++;
      }
    }

    private void hunt(Hawk hawk) {
      if (hawk.resting > 0) {
        hawk.resting--;
        return;
      }
      int nearest = hawk.reach + 1;
      int prey = -1;
      for (int i = 0; i < pigeonCount; i++) {
        Pigeon pigeon = pigeonAt(i);
        if (pigeon.state == FLIES) {
          int far = distance(hawk.x, hawk.y, pigeon.x, pigeon.y);
          if (far < nearest) {
            nearest = far;
            prey = i;
          }
        }
      }
      if (prey >= 0) {
        pigeonAt(prey).state = GONE;
        hawk.resting = hawk.rests;
        hawk.caught++;
      }
    }
  }

  private static final class Loft {
    private final int[] spotXs = new int[MAX_SPOTS];
    private final int[] spotYs = new int[MAX_SPOTS];
    int spots;
    int x;
    int y;
    int speed;
    int next;

    void clear() {
      spots = 0;
      x = 0;
      y = 0;
      speed = 0;
      next = 0;
    }

    void copyFrom(Loft other) {
      spots = other.spots;
      x = other.x;
      y = other.y;
      speed = other.speed;
      next = other.next;
      for (int i = 0; i < spots && i < spotXs.length && i < other.spotXs.length; i++) {
        spotXs[i] = other.spotXs[i];
      }
      for (int i = 0; i < spots && i < spotYs.length && i < other.spotYs.length; i++) {
        spotYs[i] = other.spotYs[i];
      }
    }

    void addSpot(int spotX, int spotY) {
      if (spots < 0 || spots >= spotXs.length || spots >= spotYs.length) {
        return;
      }
      spotXs[spots] = spotX;
      spotYs[spots] = spotY;
      if (spots == 0) {
        x = spotX;
        y = spotY;
      } else {
        next = 1;
      }
      spots++;
    }

    void move() {
      if (spots < 2) {
        return;
      }
      int toX = spotXs[safe(next, spotXs.length)];
      int toY = spotYs[safe(next, spotYs.length)];
      x = nearer(x, toX, speed);
      y = nearer(y, toY, speed);
      if (x == toX && y == toY) {
        next = next + 1 < spots ? next + 1 : 0;
      }
    }
  }

  private static final class Pigeon {
    int state;
    int home;
    // The loft where it is in a cage; it has no meaning while it is in none.
    int cage;
    int speed;
    int sight;
    // The rest has no meaning while it is in a cage.
    int x;
    int y;
    int aimX;
    int aimY;
    int searched;
    int letter;
    int stage;

    void clear() {
      state = CAGED;
      home = 0;
      cage = 0;
      speed = 0;
      sight = 0;
      x = 0;
      y = 0;
      aimX = 0;
      aimY = 0;
      searched = 0;
      letter = 0;
      stage = 0;
    }

    void copyFrom(Pigeon other) {
      state = other.state;
      home = other.home;
      cage = other.cage;
      speed = other.speed;
      sight = other.sight;
      x = other.x;
      y = other.y;
      aimX = other.aimX;
      aimY = other.aimY;
      searched = other.searched;
      letter = other.letter;
      stage = other.stage;
    }

    boolean isCagedIn(int loft) {
      return state == CAGED && cage == loft;
    }

    void setOut(Loft from, Loft aim) {
      state = FLIES;
      x = from.x;
      y = from.y;
      aimX = aim.x;
      aimY = aim.y;
      searched = 0;
    }
  }

  private static final class Hawk {
    int x;
    int y;
    int reach;
    int rests;
    int resting;
    int caught;

    void clear() {
      x = 0;
      y = 0;
      reach = 0;
      rests = 0;
      resting = 0;
      caught = 0;
    }

    void copyFrom(Hawk other) {
      x = other.x;
      y = other.y;
      reach = other.reach;
      rests = other.rests;
      resting = other.resting;
      caught = other.caught;
    }

    /** A hawk that reaches nothing is as good as none. */
    void takeAway() {
      reach = -1;
    }
  }

  private static final class Letter {
    private final int[] sizes = new int[MAX_STAGES];
    private final int[] carriers = new int[MAX_STAGES * MAX_PIGEONS];
    int stages;
    int loft;
    int stage;
    // A bit for each pigeon that carried it in its present stage.
    int carriedBy;
    int sent;
    int arrivalHour;

    void clear() {
      stages = 0;
      loft = 0;
      stage = 0;
      carriedBy = 0;
      sent = 0;
      arrivalHour = -1;
    }

    void copyFrom(Letter other) {
      stages = other.stages;
      loft = other.loft;
      stage = other.stage;
      carriedBy = other.carriedBy;
      sent = other.sent;
      arrivalHour = other.arrivalHour;
      for (int i = 0; i < stages && i < sizes.length && i < other.sizes.length; i++) {
        sizes[i] = other.sizes[i];
        copyStage(i, other);
      }
    }

    private void copyStage(int number, Letter other) {
      int from = number * MAX_PIGEONS;
      int to = from + carriersOf(number);
      for (int i = from; i < to && i < carriers.length && i < other.carriers.length; i++) {
        carriers[i] = other.carriers[i];
      }
    }

    boolean hasArrived() {
      return stage >= stages;
    }

    void addStage() {
      if (stages >= 0 && stages < sizes.length) {
        sizes[stages] = 0;
        stages++;
      }
    }

    void addCarrier(int pigeon) {
      int latest = stages - 1;
      int size = carriersOf(latest);
      int place = latest * MAX_PIGEONS + size;
      if (size < MAX_PIGEONS && latest >= 0 && latest < sizes.length
          && place >= 0 && place < carriers.length) {
        carriers[place] = pigeon;
        sizes[latest] = size + 1;
      }
    }

    boolean latestStageHas(int pigeon) {
      int latest = stages - 1;
      int size = carriersOf(latest);
      for (int place = 0; place < size; place++) {
        if (carrierAt(latest, place) == pigeon) {
          return true;
        }
      }
      return false;
    }

    int carriersOf(int number) {
      return number >= 0 && number < sizes.length ? sizes[number] : 0;
    }

    int carrierAt(int number, int place) {
      return carriers[safe(number * MAX_PIGEONS + place, carriers.length)];
    }

    void goOnIn(int nextLoft, int hour) {
      loft = nextLoft;
      stage++;
      carriedBy = 0;
      if (hasArrived()) {
        arrivalHour = hour;
      }
    }
  }
}
