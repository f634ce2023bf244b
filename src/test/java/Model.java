import java.util.ArrayList;
import java.util.Arrays;
import java.util.HashMap;
import java.util.HashSet;
import java.util.List;
import java.util.Map;
import java.util.Set;
import java.util.regex.Matcher;
import java.util.regex.Pattern;

/**
 * The document once more, written in another way than LoftPost: whole copies for each look ahead, no
 * early ends, a regular expression for the grammar, all errors gathered. ModelTest compares both.
 */
final class Model {
  private static final String SIGNS = "L@tsPoigHrRTb&";
  private static final List<String> WORDS = List.of("loft", "at", "then", "speed", "pigeon", "of",
      "in", "sight", "hawk", "reach", "rests", "letter", "by", "and");
  private static final Pattern GRAMMAR = Pattern.compile(
      "(?:(?:Ln@#,#(?:t#,#)*(?:s#)?|Pnon(?:in)?(?:s#)?(?:g#)?|H@#,#r#(?:R#)?"
      + "|Tninbn(?:&n)*(?:,n(?:&n)*)*);)*");

  static final class Loft {
    List<int[]> route = new ArrayList<>();
    int x;
    int y;
    int speed;
    int next;

    Loft copy() {
      Loft c = new Loft();
      c.route = route;
      c.x = x;
      c.y = y;
      c.speed = speed;
      c.next = next;
      return c;
    }

    void go() {
      if (route.size() > 1) {
        int[] to = route.get(next);
        x += step(to[0] - x, speed);
        y += step(to[1] - y, speed);
        if (x == to[0] && y == to[1]) {
          next = (next + 1) % route.size();
        }
      }
    }
  }

  static final class Pigeon {
    char is = 'c';
    int home;
    int cage;
    int speed = 8;
    int sight = 3;
    int x;
    int y;
    int aimX;
    int aimY;
    int searched;
    int letter = -1;
    int stage = -1;

    Pigeon copy() {
      Pigeon c = new Pigeon();
      c.is = is;
      c.home = home;
      c.cage = cage;
      c.speed = speed;
      c.sight = sight;
      c.x = x;
      c.y = y;
      c.aimX = aimX;
      c.aimY = aimY;
      c.searched = searched;
      c.letter = letter;
      c.stage = stage;
      return c;
    }
  }

  static final class Hawk {
    int x;
    int y;
    int reach;
    int rests = 4;
    int rest;
    int caught;
    boolean away;

    Hawk copy() {
      Hawk c = new Hawk();
      c.x = x;
      c.y = y;
      c.reach = reach;
      c.rests = rests;
      c.rest = rest;
      c.caught = caught;
      c.away = away;
      return c;
    }
  }

  static final class Letter {
    int loft;
    int stage;
    int sent;
    int came = -1;
    List<List<Integer>> stages = new ArrayList<>();
    Set<String> carried = new HashSet<>();

    Letter copy() {
      Letter c = new Letter();
      c.loft = loft;
      c.stage = stage;
      c.sent = sent;
      c.came = came;
      c.stages = stages;
      c.carried = new HashSet<>(carried);
      return c;
    }

    boolean done() {
      return stage == stages.size();
    }
  }

  byte[] tape = new byte[0];
  int errorAt = -1;
  int hour;
  int tooMany;
  List<Loft> lofts = new ArrayList<>();
  List<Pigeon> pigeons = new ArrayList<>();
  List<Hawk> hawks = new ArrayList<>();
  List<Letter> letters = new ArrayList<>();

  Model copy() {
    Model c = new Model();
    c.hour = hour;
    c.tooMany = tooMany;
    lofts.forEach(l -> c.lofts.add(l.copy()));
    pigeons.forEach(p -> c.pigeons.add(p.copy()));
    hawks.forEach(h -> c.hawks.add(h.copy()));
    letters.forEach(l -> c.letters.add(l.copy()));
    return c;
  }

  static int step(int way, int most) {
    return Math.max(-most, Math.min(most, way));
  }

  static int far(int x, int y, int u, int v) {
    int dx = x > u ? x - u : u - x;
    int dy = y > v ? y - v : v - y;
    return dx > dy ? dx : dy;
  }

  // ---- the language

  int feed(int... numbers) {
    if (tape.length + 20 > 2000) {
      throw new IllegalStateException();
    }
    int at = tape.length;
    tape = Arrays.copyOf(tape, at + 20);
    for (int n : numbers) {
      tape[at++] = (byte) (n >>> 24);
      tape[at++] = (byte) (n >>> 16);
      tape[at++] = (byte) (n >>> 8);
      tape[at++] = (byte) n;
    }
    return tape.length;
  }

  int trim(int n) {
    if (n < 0 || n > tape.length) {
      throw new IllegalArgumentException();
    }
    tape = Arrays.copyOf(tape, n);
    return n;
  }

  int teach() {
    StringBuilder text = new StringBuilder();
    for (byte b : tape) {
      text.append((char) (b & 255));
    }
    tape = new byte[0];
    List<String> words = new ArrayList<>();
    List<Integer> starts = new ArrayList<>();
    StringBuilder signs = new StringBuilder();
    Matcher token = Pattern.compile("[a-z][a-z0-9]*|[0-9]+|[^ \n]").matcher(text);
    while (token.find()) {
      String word = token.group();
      words.add(word);
      starts.add(token.start());
      char first = word.charAt(0);
      char sign = '?';
      if (starts.size() <= 400) {
        if (first >= 'a' && first <= 'z' && word.length() <= 10) {
          sign = WORDS.contains(word) ? SIGNS.charAt(WORDS.indexOf(word)) : 'n';
        } else if (first >= '0' && first <= '9' && word.length() <= 6) {
          sign = '#';
        } else if (first == ',' || first == ';') {
          sign = first;
        }
      }
      signs.append(sign);
    }
    Matcher whole = GRAMMAR.matcher(signs);
    if (!whole.matches()) {
      errorAt = text.length();
      for (int n = 1; n <= signs.length(); n++) {
        Matcher part = GRAMMAR.matcher(signs.substring(0, n));
        if (!part.matches() && !part.hitEnd()) {
          errorAt = starts.get(n - 1);
          break;
        }
      }
      return 1;
    }
    Model told = new Model();
    int[] error = told.tell(words, signs.toString());
    if (error[1] != 0) {
      errorAt = starts.get(error[0]);
      return error[1];
    }
    errorAt = -1;
    lofts = told.lofts;
    pigeons = told.pigeons;
    hawks = told.hawks;
    letters = told.letters;
    return 0;
  }

  private int[] found;

  private void error(int token, int code) {
    if (found[1] == 0 || token < found[0] || token == found[0] && code < found[1]) {
      found = new int[] {token, code};
    }
  }

  private int[] tell(List<String> words, String signs) {
    found = new int[2];
    Map<String, Integer> loftNames = new HashMap<>();
    Map<String, Integer> pigeonNames = new HashMap<>();
    Map<String, Integer> letterNames = new HashMap<>();
    int at = 0;
    while (at < signs.length()) {
      int end = signs.indexOf(';', at);
      switch (signs.charAt(at)) {
        case 'L' -> tellLoft(words, signs, at, end, loftNames);
        case 'P' -> tellPigeon(words, signs, at, end, loftNames, pigeonNames);
        case 'H' -> tellHawk(words, signs, at, end);
        default -> tellLetter(words, signs, at, end, loftNames, pigeonNames, letterNames);
      }
      at = end + 1;
    }
    return found;
  }

  private int value(List<String> words, int token, int least, int most) {
    int n = Integer.parseInt(words.get(token));
    if (n < least || n > most) {
      error(token, 5);
    }
    return n;
  }

  private int option(List<String> words, String signs, int at, int end, String rule) {
    String[] parts = rule.split(" ");
    for (int i = at; i < end; i++) {
      if (signs.charAt(i) == parts[0].charAt(0)) {
        return value(words, i + 1, Integer.parseInt(parts[1]), Integer.parseInt(parts[2]));
      }
    }
    return Integer.parseInt(parts[3]);
  }

  private void fresh(List<String> words, int token, Map<String, Integer> names, int most) {
    if (names.containsKey(words.get(token))) {
      error(token, 2);
    }
    if (names.size() == most) {
      error(token, 4);
    }
    names.putIfAbsent(words.get(token), names.size());
  }

  private int known(List<String> words, int token, Map<String, Integer> names) {
    Integer number = names.get(words.get(token));
    if (number == null) {
      error(token, 3);
      return -1;
    }
    return number;
  }

  private void tellLoft(List<String> words, String signs, int at, int end,
      Map<String, Integer> names) {
    fresh(words, at + 1, names, 6);
    Loft loft = new Loft();
    for (int i = at; i < end; i++) {
      char sign = signs.charAt(i);
      if (sign == '@' || sign == 't') {
        if (loft.route.size() == 6) {
          error(i, 4);
        }
        loft.route.add(new int[] {value(words, i + 1, 0, 63), value(words, i + 3, 0, 63)});
      }
    }
    loft.x = loft.route.get(0)[0];
    loft.y = loft.route.get(0)[1];
    loft.next = loft.route.size() > 1 ? 1 : 0;
    loft.speed = option(words, signs, at, end, "s 0 5 0");
    lofts.add(loft);
  }

  private void tellPigeon(List<String> words, String signs, int at, int end,
      Map<String, Integer> loftNames, Map<String, Integer> names) {
    fresh(words, at + 1, names, 20);
    Pigeon pigeon = new Pigeon();
    pigeon.home = known(words, at + 3, loftNames);
    pigeon.cage = signs.charAt(at + 4) == 'i' ? known(words, at + 5, loftNames) : pigeon.home;
    pigeon.speed = option(words, signs, at, end, "s 1 20 8");
    pigeon.sight = option(words, signs, at, end, "g 0 20 3");
    pigeons.add(pigeon);
  }

  private void tellHawk(List<String> words, String signs, int at, int end) {
    if (hawks.size() == 6) {
      error(at, 4);
    }
    Hawk hawk = new Hawk();
    hawk.x = value(words, at + 2, 0, 63);
    hawk.y = value(words, at + 4, 0, 63);
    hawk.reach = value(words, at + 6, 0, 20);
    hawk.rests = option(words, signs, at, end, "R 1 24 4");
    hawks.add(hawk);
  }

  private void tellLetter(List<String> words, String signs, int at, int end,
      Map<String, Integer> loftNames, Map<String, Integer> pigeonNames,
      Map<String, Integer> names) {
    fresh(words, at + 1, names, 12);
    Letter letter = new Letter();
    letter.loft = known(words, at + 3, loftNames);
    for (int i = at + 5; i < end; i += 2) {
      int pigeon = known(words, i, pigeonNames);
      if (signs.charAt(i - 1) != '&') {
        if (letter.stages.size() == 6) {
          error(i, 4);
        }
        letter.stages.add(new ArrayList<>());
      }
      List<Integer> stage = letter.stages.get(letter.stages.size() - 1);
      if (!stage.isEmpty() && pigeon >= 0 && stage.get(0) >= 0
          && pigeons.get(pigeon).home != pigeons.get(stage.get(0)).home) {
        error(i, 6);
      }
      if (pigeon >= 0 && stage.contains(pigeon)) {
        error(i, 7);
      }
      stage.add(pigeon);
    }
    letters.add(letter);
  }

  // ---- hours

  private boolean ready(Letter t, int p) {
    Pigeon pigeon = pigeons.get(p);
    return !t.done() && pigeon.is == 'c' && pigeon.cage == t.loft
        && !t.carried.contains(t.stage + ":" + p);
  }

  /** One hour. */
  void go() {
    lofts.forEach(Loft::go);
    for (Letter t : letters) {
      for (int p = 0; !t.done() && p < pigeons.size(); p++) {
        if (t.stages.get(t.stage).contains(p) && ready(t, p)) {
          Pigeon pigeon = pigeons.get(p);
          pigeon.is = 'f';
          pigeon.x = lofts.get(t.loft).x;
          pigeon.y = lofts.get(t.loft).y;
          pigeon.aimX = lofts.get(pigeon.home).x;
          pigeon.aimY = lofts.get(pigeon.home).y;
          pigeon.searched = 0;
          pigeon.letter = letters.indexOf(t);
          pigeon.stage = t.stage;
          t.carried.add(t.stage + ":" + p);
          t.sent++;
        }
      }
    }
    for (Pigeon p : pigeons) {
      if (p.is == 'f') {
        fly(p);
      }
    }
    for (Hawk h : hawks) {
      if (h.rest > 0) {
        h.rest--;
      } else if (!h.away) {
        hunt(h);
      }
    }
    hour++;
  }

  private void fly(Pigeon p) {
    Loft home = lofts.get(p.home);
    if (far(p.x, p.y, home.x, home.y) <= p.sight + p.searched) {
      p.aimX = home.x;
      p.aimY = home.y;
    }
    p.x += step(p.aimX - p.x, p.speed);
    p.y += step(p.aimY - p.y, p.speed);
    if (far(p.x, p.y, home.x, home.y) == 0) {
      p.is = 'c';
      p.cage = p.home;
      Letter t = letters.get(p.letter);
      if (t.stage != p.stage) {
        tooMany++;
        return;
      }
      t.loft = p.home;
      t.stage++;
      if (t.done()) {
        t.came = hour;
      }
    } else if (far(p.x, p.y, p.aimX, p.aimY) == 0 && ++p.searched == 25) {
      p.is = 'g';
    }
  }

  private void hunt(Hawk h) {
    Pigeon prey = null;
    for (Pigeon p : pigeons) {
      if (p.is == 'f' && far(p.x, p.y, h.x, h.y) <= h.reach
          && (prey == null || far(p.x, p.y, h.x, h.y) < far(prey.x, prey.y, h.x, h.y))) {
        prey = p;
      }
    }
    if (prey != null) {
      prey.is = 'g';
      h.rest = h.rests;
      h.caught++;
    }
  }

  private boolean lost(int letter) {
    Letter t = letters.get(letter);
    if (t.done()) {
      return false;
    }
    for (Pigeon p : pigeons) {
      if (p.is == 'f' && p.letter == letter && p.stage == t.stage) {
        return false;
      }
    }
    return t.stages.get(t.stage).stream().noneMatch(p -> ready(t, p));
  }

  // ---- what is where

  private static void check(boolean fine) {
    if (!fine) {
      throw new IndexOutOfBoundsException();
    }
  }

  private static void allow(boolean fine) {
    if (!fine) {
      throw new IllegalArgumentException();
    }
  }

  private int birds(char is) {
    return (int) pigeons.stream().filter(p -> p.is == is).count();
  }

  private int arrived() {
    return (int) letters.stream().filter(Letter::done).count();
  }

  private int losses() {
    int n = 0;
    for (int i = 0; i < letters.size(); i++) {
      n += lost(i) ? 1 : 0;
    }
    return n;
  }

  int count(int what) {
    check(what >= 0 && what <= 11);
    return new int[] {hour, lofts.size(), pigeons.size(), hawks.size(), letters.size(),
        birds('c'), birds('f'), birds('g'), arrived(), losses(), tooMany, tape.length}[what];
  }

  int loft(int loft, int what) {
    check(loft >= 0 && loft < lofts.size() && what >= 0 && what <= 7);
    Loft l = lofts.get(loft);
    return new int[] {l.x, l.y, l.speed, l.route.size(), l.next,
        (int) pigeons.stream().filter(p -> p.is == 'c' && p.cage == loft).count(),
        (int) pigeons.stream().filter(p -> p.is == 'f' && p.home == loft).count(),
        (int) letters.stream().filter(t -> t.loft == loft).count()}[what];
  }

  int pigeon(int pigeon, int what) {
    check(pigeon >= 0 && pigeon < pigeons.size() && what >= 0 && what <= 7);
    Pigeon p = pigeons.get(pigeon);
    int x = p.is == 'c' ? lofts.get(p.cage).x : p.x;
    int y = p.is == 'c' ? lofts.get(p.cage).y : p.y;
    Loft home = lofts.get(p.home);
    return new int[] {"cfg".indexOf(p.is), x, y, p.home, p.is == 'c' ? p.cage : -1,
        p.is == 'f' ? p.letter : -1, p.is == 'f' ? p.searched : 0,
        far(x, y, home.x, home.y)}[what];
  }

  int hawk(int hawk, int what) {
    check(hawk >= 0 && hawk < hawks.size() && what >= 0 && what <= 4);
    Hawk h = hawks.get(hawk);
    return new int[] {h.x, h.y, h.reach, h.rest, h.caught}[what];
  }

  int letter(int letter, int what) {
    check(letter >= 0 && letter < letters.size() && what >= 0 && what <= 7);
    Letter t = letters.get(letter);
    return new int[] {t.loft, t.stage, t.stages.size(), t.done() ? 1 : 0, lost(letter) ? 1 : 0,
        (int) pigeons.stream().filter(p -> p.is == 'f' && p.letter == letter).count(),
        t.sent, t.came}[what];
  }

  int bring(int pigeon, int loft) {
    check(pigeon >= 0 && pigeon < pigeons.size() && loft >= 0 && loft < lofts.size());
    Pigeon p = pigeons.get(pigeon);
    if (p.is != 'c') {
      throw new IllegalStateException();
    }
    int was = p.cage;
    p.cage = loft;
    return was;
  }

  int lure(int hawk, int x, int y) {
    check(hawk >= 0 && hawk < hawks.size());
    allow(x >= 0 && x <= 63 && y >= 0 && y <= 63);
    Hawk h = hawks.get(hawk);
    int d = far(h.x, h.y, x, y);
    h.x = x;
    h.y = y;
    return d;
  }

  int pass(int hours) {
    allow(hours >= 1 && hours <= 200);
    int before = arrived();
    for (int i = 0; i < hours; i++) {
      go();
    }
    return arrived() - before;
  }

  // ---- looking ahead

  int foresee(int hours, int what) {
    allow(hours >= 1 && hours <= 200);
    check(what >= 0 && what <= 2);
    Model later = copy();
    later.pass(hours);
    return what == 0 ? later.arrived() : what == 1 ? later.losses() : later.birds('g');
  }

  int arrives(int letter) {
    check(letter >= 0 && letter < letters.size());
    return copy().until(letter, letters.get(letter).stages.size(), 300);
  }

  private int until(int letter, int stage, int most) {
    for (int h = 0; h <= most; h++) {
      if (letters.get(letter).stage >= stage) {
        return h;
      }
      go();
    }
    return -1;
  }

  int where(int loft, int hours) {
    check(loft >= 0 && loft < lofts.size());
    allow(hours >= 0 && hours <= 500);
    Loft l = lofts.get(loft).copy();
    for (int i = 0; i < hours; i++) {
      l.go();
    }
    return 64 * l.y + l.x;
  }

  int blame(int letter) {
    int best = arrives(letter);
    best = best < 0 ? 1000 : best;
    int hawk = -1;
    for (int h = 0; h < hawks.size(); h++) {
      Model later = copy();
      later.hawks.get(h).away = true;
      int hours = later.arrives(letter);
      if (hours >= 0 && hours < best) {
        best = hours;
        hawk = h;
      }
    }
    return hawk;
  }

  int doubles(int letter) {
    check(letter >= 0 && letter < letters.size());
    Letter t = letters.get(letter);
    if (t.done()) {
      return 0;
    }
    List<Integer> out = new ArrayList<>();
    for (int p : t.stages.get(t.stage)) {
      boolean taken = false;
      for (Letter ahead : letters.subList(0, letter)) {
        taken |= !ahead.done() && ahead.stages.get(ahead.stage).contains(p) && ready(ahead, p);
      }
      if (!taken && ready(t, p)) {
        out.add(p);
      }
    }
    for (int n = 1; n <= out.size(); n++) {
      Model later = copy();
      for (int p : out.subList(n, out.size())) {
        later.pigeons.get(p).is = 'g';
      }
      if (later.until(letter, t.stage + 1, 100) >= 0) {
        return n;
      }
    }
    return -1;
  }

  int need() {
    int best = -1;
    int most = 0;
    for (int i = 0; i < letters.size(); i++) {
      Letter t = letters.get(i);
      if (arrives(i) < 0 && t.stages.size() - t.stage > most) {
        most = t.stages.size() - t.stage;
        best = i;
      }
    }
    return best;
  }

  double mean() {
    return letters.stream().filter(Letter::done).mapToInt(t -> t.came).average().orElse(0);
  }

  long digest() {
    long d = 733;
    for (int i = 0; i < 12; i++) {
      d = d * 31 + count(i);
    }
    int[][] groups = {{lofts.size(), 8}, {pigeons.size(), 8}, {hawks.size(), 5},
        {letters.size(), 8}};
    for (int g = 0; g < 4; g++) {
      for (int i = 0; i < groups[g][0]; i++) {
        for (int w = 0; w < groups[g][1]; w++) {
          int x = g == 0 ? loft(i, w) : g == 1 ? pigeon(i, w) : g == 2 ? hawk(i, w) : letter(i, w);
          d = d * 31 + x;
        }
      }
    }
    return d;
  }
}
