import java.util.ArrayList;
import java.util.List;
import java.util.Random;

/** Compares LoftPost with the second writing of the document, by drawn texts and drawn calls. */
public final class ModelTest {
  private static final Due DUE = new Due();
  // How often each answer of teach() came, so that a draw that reaches too little is seen.
  private static final int[] TAUGHT = new int[8];

  private final Random random;
  private final LoftPost post = new LoftPost();
  private final Model model = new Model();
  private final String name;

  private ModelTest(long seed) {
    random = new Random(seed);
    name = "run " + seed + ": ";
  }

  public static void main(String[] args) {
    int runs = args.length > 0 ? Integer.parseInt(args[0]) : 1500;
    int first = args.length > 1 ? Integer.parseInt(args[1]) : 1;
    for (int seed = first; seed < first + runs; seed++) {
      ModelTest test = new ModelTest(seed);
      if (seed % 3 == 0) {
        test.runTexts();
      } else {
        test.runCalls();
      }
    }
    for (int error = 0; error < TAUGHT.length; error++) {
      int times = TAUGHT[error];
      DUE.is("texts with the error " + error + " are drawn", true, () -> times > 0);
    }
    DUE.end();
  }

  private int below(int bound) {
    return random.nextInt(bound);
  }

  private boolean oneIn(int n) {
    return below(n) == 0;
  }

  private void same(String call, Due.Call ours, Due.Call theirs) {
    DUE.is(name + call, Due.answer(theirs), ours);
  }

  // ---- drawing texts

  private static String at(int x, int y) {
    return "at " + x + " , " + y;
  }

  /** A spot; the small worlds have more meetings of pigeons, lofts and hawks. */
  private int xy(boolean small) {
    return small ? 20 + below(12) : below(64);
  }

  private List<String> drawnLines() {
    boolean small = oneIn(2);
    List<String> lines = new ArrayList<>();
    int lofts = 1 + below(6);
    for (int i = 0; i < lofts; i++) {
      StringBuilder line = new StringBuilder("loft l" + i + " " + at(xy(small), xy(small)));
      for (int spots = below(4) * below(3); spots > 1; spots--) {
        line.append(" then ").append(at(xy(small), xy(small)).substring(3));
      }
      lines.add(line + (oneIn(3) ? "" : " speed " + below(6)));
    }
    int pigeons = oneIn(4) ? below(21) : 20;
    int[] homes = new int[pigeons];
    int[] cages = new int[pigeons];
    for (int i = 0; i < pigeons; i++) {
      homes[i] = below(lofts);
      cages[i] = oneIn(3) ? homes[i] : below(lofts);
      lines.add("pigeon p" + i + " of l" + homes[i] + (cages[i] == homes[i] ? "" : " in l" + cages[i])
          + (oneIn(3) ? "" : " speed " + (1 + below(small ? 6 : 20)))
          + (oneIn(3) ? "" : " sight " + below(21)));
    }
    for (int hawks = below(7); hawks > 0; hawks--) {
      lines.add("hawk " + at(xy(small), xy(small)) + " reach " + below(oneIn(2) ? 5 : 21)
          + (oneIn(3) ? "" : " rests " + (1 + below(24))));
    }
    for (int letter = 0; pigeons > 0 && letter < 12 && !oneIn(9); letter++) {
      int loft = below(lofts);
      StringBuilder line = new StringBuilder("letter t" + letter + " in l" + loft + " by ");
      int stages = 1 + below(oneIn(2) ? 2 : 6);
      for (int stage = 0; stage < stages; stage++) {
        int first = drawnCarrier(cages, loft);
        line.append(stage == 0 ? "" : " , ").append(drawnStage(first, homes));
        loft = homes[first];
      }
      lines.add(line.toString());
    }
    return lines;
  }

  /** Most often a pigeon that waits where the letter will lie. */
  private int drawnCarrier(int[] cages, int loft) {
    int drawn = below(cages.length);
    for (int tries = below(12); tries > 0 && cages[drawn] != loft; tries--) {
      drawn = below(cages.length);
    }
    return drawn;
  }

  private String drawnStage(int first, int[] homes) {
    List<String> names = new ArrayList<>(List.of("p" + first));
    for (int i = 0; i < homes.length; i++) {
      if (i != first && homes[i] == homes[first] && !oneIn(3)) {
        names.add(below(names.size() + 1), "p" + i);
      }
    }
    return String.join(" and ", names);
  }

  /** A text that need not be right. */
  private String drawnText() {
    List<String> lines = drawnLines();
    for (int changes = below(4); changes > 0; changes--) {
      // Letters are the last lines, if there are any.
      int line = oneIn(2) ? below(lines.size()) : lines.size() - 1;
      switch (below(7)) {
        case 0 -> lines.add(below(lines.size() + 1), lines.get(line));
        case 1 -> lines.add(lines.remove(line));
        case 2 -> lines.remove(line);
        case 3 -> lines.set(line, lines.get(line) + " and p" + below(20));
        case 4 -> lines.set(line, lines.get(line) + " , p" + below(20) + ", p1,p1,p1,p1,p1");
        case 5 -> lines.add(line, "hawk at 1,1 reach 1;\nhawk at 1,2 reach 1");
        default -> lines.set(line, lines.get(line).replace("speed", "then 1,2 speed"));
      }
      if (lines.isEmpty()) {
        lines.add("loft x at 1,1");
      }
    }
    List<String> tokens = new ArrayList<>();
    for (String line : lines) {
      tokens.addAll(List.of((line + " ;").split("[ \n]+")));
    }
    for (int changes = below(3); changes > 0 && !tokens.isEmpty(); changes--) {
      change(tokens);
    }
    StringBuilder text = new StringBuilder(oneIn(9) ? " \n" : "");
    for (String token : tokens) {
      char before = text.length() == 0 ? ' ' : text.charAt(text.length() - 1);
      boolean touching = Character.isLetterOrDigit(before)
          && Character.isLetterOrDigit(token.charAt(0));
      text.append(touching && !oneIn(300) || oneIn(9) ? oneIn(7) ? "\n" : " " : "").append(token);
    }
    return text.substring(0, Math.min(text.length(), oneIn(20) ? below(2000) : 2000));
  }

  private void change(List<String> tokens) {
    int token = below(tokens.size());
    String[] others = {"0", "1", "5", "6", "20", "21", "24", "25", "63", "64", "000063", "0000063",
        "999999", "p1", "l1", "t1", "abcdefghij", "abcdefghijk", "a123456789", "and", ",", ";",
        "loft", "then", "speed", "sight", "A", "\u00e9", "\0", "-", "1a", "in", "by"};
    String other = others[below(others.length)];
    switch (below(8)) {
      case 0 -> tokens.remove(token);
      case 1 -> tokens.add(token, other);
      case 2 -> tokens.add(token, tokens.get(token));
      case 3 -> tokens.set(token, tokens.get(below(tokens.size())));
      default -> {
        for (int i = 0; i < tokens.size(); i++) {
          int place = (token + i) % tokens.size();
          boolean number = Character.isDigit(tokens.get(place).charAt(0));
          if (number == Character.isDigit(other.charAt(0))) {
            tokens.set(place, other);
            return;
          }
        }
      }
    }
  }

  // ---- drawing calls

  private void tell(String text) {
    for (int at = 0; at < text.length() && at + 20 <= 2000; at += 20) {
      byte[] bytes = text.getBytes(java.nio.charset.StandardCharsets.ISO_8859_1);
      int[] n = new int[5];
      for (int i = 0; i < 5; i++) {
        n[i] = Due.number(bytes, at + 4 * i);
      }
      same("feed", () -> post.feed(n[0], n[1], n[2], n[3], n[4]), () -> model.feed(n));
    }
    if (text.length() < 1981) {
      same("trim", () -> post.trim(text.length()), () -> model.trim(text.length()));
    }
    int[] error = new int[1];
    DUE.is(name + "teach() of " + text, model.teach(), () -> error[0] = post.teach());
    DUE.is(name + "errorAt() of " + text, model.errorAt, post::errorAt);
    TAUGHT[error[0] & 7]++;
  }

  private void runTexts() {
    for (int texts = 0; texts < 12; texts++) {
      tell(drawnText());
      same("digest", post::digest, model::digest);
    }
  }

  /** A text without an error. */
  private String rightText() {
    String text;
    int tokens;
    do {
      text = String.join(";", drawnLines()) + ";";
      tokens = text.replaceAll("[,;]", " , ").trim().split("[ \n]+").length;
    } while (tokens > 400 || text.length() > 2000);
    return text;
  }

  private void runCalls() {
    tell(rightText());
    for (int calls = 0; calls < 60; calls++) {
      if (calls % 20 == 0) {
        askAhead();
      }
      call();
    }
    same("digest", post::digest, model::digest);
  }

  private void askAhead() {
    for (int i = 0; i < model.letters.size(); i++) {
      int letter = i;
      same("arrives " + letter, () -> post.arrives(letter), () -> model.arrives(letter));
      same("blame " + letter, () -> post.blame(letter), () -> model.blame(letter));
      same("doubles " + letter, () -> post.doubles(letter), () -> model.doubles(letter));
    }
    same("digest", post::digest, model::digest);
  }

  private int number(int what) {
    return oneIn(25) ? below(24) - 2 : below(Math.max(1, model.count(what)));
  }

  private int hours(int most) {
    return oneIn(30) ? below(2) * (most + 1) : 1 + below(oneIn(4) ? most : 6);
  }

  private void call() {
    int what = oneIn(40) ? below(16) - 3 : below(8);
    int letter = number(4);
    int pigeon = number(2);
    int loft = number(1);
    int hawk = number(3);
    switch (below(20)) {
      case 0, 1, 2, 3 -> {
        int hours = hours(oneIn(3) ? 200 : 6);
        same("pass " + hours, () -> post.pass(hours), () -> model.pass(hours));
        same("digest", post::digest, model::digest);
      }
      case 4, 5 -> same("bring " + pigeon + "," + loft, () -> post.bring(pigeon, loft),
          () -> model.bring(pigeon, loft));
      case 6 -> {
        int x = below(oneIn(9) ? 70 : 64) - (oneIn(30) ? 9 : 0);
        int y = below(oneIn(9) ? 70 : 64);
        same("lure " + hawk, () -> post.lure(hawk, x, y), () -> model.lure(hawk, x, y));
      }
      case 7 -> {
        int hours = hours(200);
        int asked = oneIn(9) ? below(6) - 2 : below(3);
        same("foresee " + hours + "," + asked, () -> post.foresee(hours, asked),
            () -> model.foresee(hours, asked));
      }
      case 8 -> same("arrives " + letter, () -> post.arrives(letter), () -> model.arrives(letter));
      case 9, 10 -> same("blame " + letter, () -> post.blame(letter), () -> model.blame(letter));
      case 11, 12 -> same("doubles " + letter, () -> post.doubles(letter),
          () -> model.doubles(letter));
      case 13 -> same("need", post::need, model::need);
      case 14 -> same("mean", post::mean, model::mean);
      case 15 -> {
        int hours = oneIn(9) ? below(520) - 9 : below(501);
        same("where " + loft, () -> post.where(loft, hours), () -> model.where(loft, hours));
      }
      case 16 -> {
        int asked = what + below(5);
        same("count " + asked, () -> post.count(asked), () -> model.count(asked));
      }
      case 17 -> {
        same("loft", () -> post.loft(loft, what), () -> model.loft(loft, what));
        same("hawk", () -> post.hawk(hawk, what), () -> model.hawk(hawk, what));
      }
      case 18 -> {
        same("pigeon", () -> post.pigeon(pigeon, what), () -> model.pigeon(pigeon, what));
        same("letter", () -> post.letter(letter, what), () -> model.letter(letter, what));
      }
      default -> {
        if (oneIn(9)) {
          tell(oneIn(2) ? drawnText() : rightText());
        }
      }
    }
  }
}
