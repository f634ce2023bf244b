import java.util.ArrayList;
import java.util.List;

/**
 * Section 1 of the document and promises 1 to 6: each sentence that names a boundary, with the last
 * input that is taken and the first one beyond it.
 */
public final class LanguageEdgesTest {
  private static final Due DUE = new Due();
  private static final int LEAST = Integer.MIN_VALUE;
  private static final int MOST = Integer.MAX_VALUE;
  private static final List<String> KEYWORDS = List.of("loft", "at", "then", "speed", "pigeon",
      "of", "in", "sight", "hawk", "reach", "rests", "letter", "by", "and");
  private static final String BIRDS = "loft a at 1,2; loft b at 3,4; "
      + "pigeon p of a; pigeon q of a; pigeon r of b; ";

  public static void main(String[] args) {
    newPost();
    newPostHasNothing();
    placesOfFedBytes();
    signsOfFedNumbers();
    fullTape();
    keptBytes();
    trimmedTo();
    emptyTape();
    teachingReplaces();
    nothingIsLeft();
    allStaysBehindAnError();
    tapeIsEmptyBehindTeach();
    positionsOfErrors();
    latestError();
    countedThings();
    doublesStayCounted();
    blanks();
    blanksThatMustStand();
    longestWords();
    bytesOfWords();
    longestNumbers();
    symbols();
    keywordsAreNoNames();
    nearlyKeywords();
    repeatedParts();
    partsInBrackets();
    endOfTheTape();
    endOfALine();
    fourHundredTokens();
    fourHundredAndOneTokens();
    errorOneGoesAhead();
    leftToRight();
    smallestNumberAtOneToken();
    toldAheadTwice();
    notToldAhead();
    oneTooMany();
    ranges();
    anotherHome();
    twiceInAStage();
    numberedFromZero();
    DUE.end();
  }

  // ---- promise 1

  private static void newPost() {
    String sentence = "Promise 1: a post without lofts, at the hour 0";
    DUE.all(sentence + ", count", what -> new LoftPost().count(what),
        0, 0, 0, 0, 0, 0, 0, 0, 0, 0, 0, 0);
    DUE.is(sentence + ", errorAt", -1, () -> new LoftPost().errorAt());
    DUE.is(sentence + ", need", -1, () -> new LoftPost().need());
    DUE.is(sentence + ", mean", 0.0, () -> new LoftPost().mean());
    DUE.all(sentence + ", foresee", what -> new LoftPost().foresee(200, what), 0, 0, 0);
    LoftPost post = new LoftPost();
    DUE.is(sentence + ", pass", 0, () -> post.pass(1));
    DUE.is(sentence + ", the hour behind pass", 1, () -> post.count(0));
  }

  private static void newPostHasNothing() {
    String sentence = "Promise 1: nothing is in a new post: ";
    LoftPost post = new LoftPost();
    DUE.refuses(sentence + "loft", Due.OUT, post, () -> post.loft(0, 0));
    DUE.refuses(sentence + "pigeon", Due.OUT, post, () -> post.pigeon(0, 0));
    DUE.refuses(sentence + "hawk", Due.OUT, post, () -> post.hawk(0, 0));
    DUE.refuses(sentence + "letter", Due.OUT, post, () -> post.letter(0, 0));
    DUE.refuses(sentence + "bring", Due.OUT, post, () -> post.bring(0, 0));
    DUE.refuses(sentence + "lure", Due.OUT, post, () -> post.lure(0, 0, 0));
    DUE.refuses(sentence + "arrives", Due.OUT, post, () -> post.arrives(0));
    DUE.refuses(sentence + "where", Due.OUT, post, () -> post.where(0, 0));
    DUE.refuses(sentence + "blame", Due.OUT, post, () -> post.blame(0));
    DUE.refuses(sentence + "doubles", Due.OUT, post, () -> post.doubles(0));
  }

  // ---- promise 2

  /** Feeds twenty blanks, but for one byte. */
  private static LoftPost fedWith(int place, int other) {
    int[] numbers = new int[5];
    for (int i = 0; i < 20; i++) {
      numbers[i / 4] = numbers[i / 4] << 8 | (i == place ? other : 32);
    }
    LoftPost post = new LoftPost();
    post.feed(numbers[0], numbers[1], numbers[2], numbers[3], numbers[4]);
    return post;
  }

  private static void placesOfFedBytes() {
    for (int place = 0; place < 20; place++) {
      int at = place;
      LoftPost post = fedWith(place, 0);
      DUE.is("Promise 2: the highest byte first, byte " + place, "1 at " + at,
          () -> post.teach() + " at " + post.errorAt());
    }
    LoftPost post = new LoftPost();
    // "loft ab12 at 60,07;" and a blank, each byte another one than its neighbours.
    DUE.is("Promise 2: twenty bytes", 20,
        () -> post.feed(0x6c6f6674, 0x20616231, 0x32206174, 0x2036302c, 0x30373b20));
    DUE.is("Promise 2: twenty bytes, teach", 0, post::teach);
    DUE.all("Promise 2: twenty bytes, the loft", what -> post.loft(0, what), 60, 7);
  }

  private static void signsOfFedNumbers() {
    LoftPost least = new LoftPost();
    DUE.is("Promise 2: the least numbers", 20, () -> least.feed(LEAST, LEAST, LEAST, LEAST, LEAST));
    DUE.is("Promise 2: the least numbers, byte 128", "1 at 0",
        () -> least.teach() + " at " + least.errorAt());
    LoftPost most = new LoftPost();
    DUE.is("Promise 2: the greatest numbers", 20, () -> most.feed(MOST, MOST, MOST, MOST, MOST));
    DUE.is("Promise 2: the greatest numbers, byte 127", "1 at 0",
        () -> most.teach() + " at " + most.errorAt());
    // A byte whose highest bit is set must not spill over into those ahead of it.
    for (int high : new int[] {128, 255}) {
      LoftPost post = fedWith(3, high);
      DUE.is("Promise 2: a byte " + high + " behind blanks", "1 at 3",
          () -> post.teach() + " at " + post.errorAt());
    }
    LoftPost minusOne = new LoftPost();
    minusOne.feed(0x20202020, -1, 0x20202020, 0x20202020, 0x20202020);
    DUE.is("Promise 2: -1 behind blanks", "1 at 4",
        () -> minusOne.teach() + " at " + minusOne.errorAt());
  }

  private static int feedBlanks(LoftPost post) {
    return post.feed(0x20202020, 0x20202020, 0x20202020, 0x20202020, 0x20202020);
  }

  private static void fullTape() {
    String sentence = "Promise 2: not more than 2000 bytes: ";
    String text = " ".repeat(1986) + "loft a at 9,8;";
    LoftPost post = new LoftPost();
    for (int i = 1; i <= 100; i++) {
      int bytes = 20 * i;
      DUE.is(sentence + "feed " + i, bytes, () -> feedBlanks(post));
    }
    DUE.refuses(sentence + "2020", Due.STATE, post, () -> feedBlanks(post));
    for (int kept = 2000; kept > 1980; kept--) {
      int bytes = kept;
      DUE.is(sentence + "trim " + kept, kept, () -> post.trim(bytes));
      DUE.refuses(sentence + (kept + 20), Due.STATE, post, () -> feedBlanks(post));
    }
    DUE.is(sentence + "trim 1980", 1980, () -> post.trim(1980));
    DUE.is(sentence + "feed to 2000", 2000, () -> feedBlanks(post));
    LoftPost full = new LoftPost();
    Due.feed(full, text);
    DUE.refuses(sentence + "a text of 2000", Due.STATE, full, () -> feedBlanks(full));
    DUE.is(sentence + "the refused feed left the tape", 2000, () -> full.count(11));
    DUE.is(sentence + "the refused feed left the text", 0, full::teach);
    DUE.all(sentence + "the text is read to its last byte", what -> full.loft(0, what), 9, 8);
  }

  // ---- promise 3

  private static void keptBytes() {
    String sentence = "Promise 3: n is 0 to the number of bytes: ";
    LoftPost post = new LoftPost();
    DUE.is(sentence + "0 of 0", 0, () -> post.trim(0));
    for (int n : new int[] {-1, 1, LEAST, MOST}) {
      DUE.refuses(sentence + n + " of 0", Due.ILLEGAL, post, () -> post.trim(n));
    }
    feedBlanks(post);
    for (int n : new int[] {-1, 21, -20, LEAST, MOST}) {
      DUE.refuses(sentence + n + " of 20", Due.ILLEGAL, post, () -> post.trim(n));
    }
    DUE.is(sentence + "20 of 20", 20, () -> post.trim(20));
    DUE.is(sentence + "19 of 20", 19, () -> post.trim(19));
    DUE.refuses(sentence + "20 of 19", Due.ILLEGAL, post, () -> post.trim(20));
    DUE.is(sentence + "0 of 19", 0, () -> post.trim(0));
    DUE.refuses(sentence + "1 of none again", Due.ILLEGAL, post, () -> post.trim(1));
    LoftPost full = new LoftPost();
    Due.feed(full, " ".repeat(2000));
    DUE.refuses(sentence + "2001 of 2000", Due.ILLEGAL, full, () -> full.trim(2001));
    DUE.is(sentence + "2000 of 2000", 2000, () -> full.trim(2000));
  }

  private static void trimmedTo() {
    String sentence = "Promise 3: to its first bytes: ";
    LoftPost post = new LoftPost();
    Due.feed(post, "loft a at 1,2;loft b at 3,4;");
    DUE.is(sentence + "trim", 14, () -> post.trim(14));
    DUE.is(sentence + "teach", 0, post::teach);
    DUE.is(sentence + "one loft", 1, () -> post.count(1));
    DUE.all(sentence + "the first one", what -> post.loft(0, what), 1, 2);
    // What was cut off does not come back with what is fed then.
    Due.feed(post, "loft a at 1,2;loft b at 3,4;");
    post.trim(13);
    feedBlanks(post);
    DUE.is(sentence + "feed behind it", "1 at 33", () -> post.teach() + " at " + post.errorAt());
  }

  // ---- promise 4

  private static void emptyTape() {
    String sentence = "Promise 4: an empty tape is a text: ";
    LoftPost post = new LoftPost();
    DUE.is(sentence + "on a new post", 0, post::teach);
    Due.tell(post, BIRDS + "hawk at 1,1 reach 1; letter l in a by p;");
    DUE.is(sentence + "behind a text", 0, post::teach);
    DUE.is(sentence + "errorAt", -1, post::errorAt);
    DUE.all(sentence + "count", post::count, 0, 0, 0, 0, 0, 0, 0, 0, 0, 0, 0, 0);
    DUE.refuses(sentence + "no loft", Due.OUT, post, () -> post.loft(0, 0));
    DUE.right(sentence + "a blank", " ");
    DUE.right(sentence + "a line end", "\n");
    DUE.right(sentence + "2000 blanks", " ".repeat(2000));
  }

  private static void teachingReplaces() {
    String sentence = "Promise 4: in the place of all that was told before; the hour stays: ";
    LoftPost post = Due.post(BIRDS + "hawk at 1,2 reach 3 rests 5; letter k in a by p;"
        + "letter l in a by r;letter m in b by q;");
    post.pass(7);
    // p came home at once, so that k arrived in the hour 0; r and q wait where no letter lies.
    DUE.all(sentence + "before", post::count, 7, 2, 3, 1, 3, 3, 0, 0, 1, 2, 0, 0);
    DUE.is(sentence + "teach", 0, () -> Due.tell(post, "loft z at 50,60 then 50,61 speed 1;"
        + "pigeon p of z; hawk at 4,5 reach 6; letter k in z by p,p;"));
    DUE.all(sentence + "count", post::count, 7, 1, 1, 1, 1, 1, 0, 0, 0, 0, 0, 0);
    DUE.all(sentence + "loft", what -> post.loft(0, what), 50, 60, 1, 2, 1, 1, 0, 1);
    DUE.all(sentence + "pigeon", what -> post.pigeon(0, what), 0, 50, 60, 0, 0, -1, 0, 0);
    DUE.all(sentence + "hawk", what -> post.hawk(0, what), 4, 5, 6, 0, 0);
    DUE.all(sentence + "letter", what -> post.letter(0, what), 0, 0, 2, 0, 0, 0, 0, -1);
    DUE.is(sentence + "no second loft", Due.OUT, () -> post.loft(1, 0));
    DUE.is(sentence + "no second pigeon", Due.OUT, () -> post.pigeon(1, 0));
    DUE.is(sentence + "no second hawk", Due.OUT, () -> post.hawk(1, 0));
    DUE.is(sentence + "no second letter", Due.OUT, () -> post.letter(1, 0));
    DUE.is(sentence + "mean", 0.0, post::mean);
    DUE.is(sentence + "the hour goes on", 8, () -> post.pass(1) + post.count(0));
    // The same text once more sets all back that it tells.
    DUE.is(sentence + "the same once more", 0, () -> Due.tell(post,
        "loft z at 50,60 then 50,61 speed 1;pigeon p of z;hawk at 4,5 reach 6;letter k in z by p,p;"));
    DUE.all(sentence + "loft set back", what -> post.loft(0, what), 50, 60, 1, 2, 1, 1, 0, 1);
    DUE.all(sentence + "letter set back", what -> post.letter(0, what), 0, 0, 2, 0, 0, 0, 0, -1);
  }

  /** What is seen ahead; the next hour comes last, so that much is still under way in it. */
  private static String seen(LoftPost post) {
    StringBuilder seen = new StringBuilder();
    seen.append(post.need()).append(' ').append(post.mean());
    for (int letter = 0; letter < post.count(4); letter++) {
      seen.append(' ').append(post.arrives(letter)).append(' ').append(post.blame(letter));
      seen.append(' ').append(post.doubles(letter));
    }
    for (int what = 0; what < 3; what++) {
      seen.append(' ').append(post.foresee(30, what)).append(' ').append(post.foresee(1, what));
    }
    return seen.toString();
  }

  private static final String[] TEXTS = {Busy.TEXT, "", "loft a at 0,0;loft b at 30,0;"
      + "loft c at 30,30;loft d at 9,9;loft e at 8,8;loft f at 7,7;pigeon p of b in a speed 1;"
      + "pigeon q of a;pigeon r of b in a;letter k in a by p and r,q;letter l in a by q,q,r;",
      "loft a at 5,5;pigeon p of a;hawk at 5,5 reach 20;letter l in a by p;",
      "loft a at 5,5;loft b at 60,60;pigeon p of b in a speed 1;hawk at 30,30 reach 9 rests 24;"
      + "letter l in a by p;",
      // What is more in the first of these two must not act in the second one.
      "loft a at 0,0;loft b at 30,0;pigeon q of a in b;pigeon p of b in a speed 1;"
      + "hawk at 9,9 reach 0;letter k in a by p;letter l in a by q;",
      "loft a at 0,0;loft b at 30,0;pigeon q of b in a speed 1;letter k in b by q;"};

  private static void nothingIsLeft() {
    for (String before : TEXTS) {
      for (String text : TEXTS) {
        for (int hours : new int[] {1, 7, 30}) {
          leavesNothing(before, hours, text);
        }
      }
    }
  }

  /** A post that was taught another text before goes on as one that was not. */
  private static void leavesNothing(String before, int hours, String text) {
    String sentence = "Promise 4: in the place of all that was told before, behind " + hours
        + " hours of " + before;
    LoftPost post = Due.post(before);
    post.pass(hours);
    // What is looked at ahead could leave something, too.
    seen(post);
    LoftPost fresh = new LoftPost();
    fresh.pass(hours);
    Due.tell(post, text);
    Due.tell(fresh, text);
    // The doubles that were too many stay: what they add to the digest is known.
    long stays = post.count(10);
    for (int told = 1 + 8 * post.count(1) + 8 * post.count(2) + 5 * post.count(3)
        + 8 * post.count(4); told > 0; told--) {
      stays *= 31;
    }
    for (int later = 0; later < 4; later++) {
      DUE.is(sentence + ": digest", fresh.digest() + stays, post::digest);
      DUE.is(sentence + ": ahead", seen(fresh), () -> seen(post));
      DUE.is(sentence + ": pass", fresh.pass(6), () -> post.pass(6));
    }
  }

  private static void allStaysBehindAnError() {
    String[] wrong = {"loft a at 1,2; loft|", "loft a at 1,2; loft |a at 1,2;",
        "loft a at 1,2; pigeon p of |b;", "hawk at 1,1 reach 1;".repeat(6) + "|hawk at 1,1 reach 1;",
        "loft a at |64,2;", BIRDS + "letter l in a by p and |r;",
        BIRDS + "letter l in a by p and |p;"};
    String untouched = Busy.whole(Busy.post());
    for (int error = 1; error <= 7; error++) {
      String sentence = "Promise 4: if it has an error, all stays, error " + error;
      int due = error;
      String marked = wrong[error - 1];
      DUE.wrong(sentence, error, marked);
      LoftPost post = Busy.post();
      post.trim(0);
      DUE.is(sentence + ": teach", due, () -> Due.tell(post, marked.replace("|", "")));
      DUE.is(sentence + ": errorAt", marked.indexOf('|'), post::errorAt);
      DUE.is(sentence + ": the tape is empty", 0, () -> post.count(11));
      Due.feed(post, Busy.TAPE);
      String shown = Busy.whole(post);
      // errorAt() is the first thing that is shown, and is another one now.
      DUE.is(sentence + ": all goes on", untouched.substring(untouched.indexOf(';')),
          () -> shown.substring(shown.indexOf(';')));
    }
  }

  private static void tapeIsEmptyBehindTeach() {
    LoftPost post = new LoftPost();
    for (String text : new String[] {"loft a at 1,1;", "loft a at", "x", " ".repeat(2000)}) {
      Due.feed(post, text);
      DUE.is("Terms: the tape is empty behind teach, before", text.length(), () -> post.count(11));
      post.teach();
      DUE.is("Terms: the tape is empty behind teach", 0, () -> post.count(11));
      DUE.is("Terms: the tape is empty behind teach, trim", Due.ILLEGAL, () -> post.trim(1));
    }
    DUE.is("Terms: the tape is empty behind teach, feed", 20, () -> feedBlanks(post));
  }

  // ---- promise 5

  private static void positionsOfErrors() {
    String sentence = "Promise 5: the position, from 0, in bytes";
    DUE.wrong(sentence + ", the first byte", 1, "|;");
    DUE.wrong(sentence + ", the second byte", 1, " |;");
    DUE.wrong(sentence + ", line ends count as one", 1, "\n\n\n|;");
    DUE.wrong(sentence + ", the last byte of a full tape", 1, " ".repeat(1999) + "|;");
    DUE.wrong(sentence + ", the end of a full tape", 1, " ".repeat(1996) + "loft|");
    DUE.wrong(sentence + ", the last token of a full tape", 5,
        " ".repeat(1985) + "loft a at |99,2;");
    DUE.wrong(sentence + ", the first byte of a long token", 1, "loft a at 1,|7777777777777;");
  }

  private static void latestError() {
    String sentence = "Promise 5: of the latest teach(): ";
    LoftPost post = new LoftPost();
    DUE.is(sentence + "there was none", -1, post::errorAt);
    feedBlanks(post);
    DUE.is(sentence + "fed, but not taught", -1, post::errorAt);
    post.trim(3);
    Due.feed(post, "loft");
    post.teach();
    DUE.is(sentence + "an error", 7, post::errorAt);
    DUE.is(sentence + "it stays behind other calls", 7, () -> {
      Due.feed(post, "loft a at 1,1;");
      post.pass(3);
      post.digest();
      return post.errorAt();
    });
    post.teach();
    DUE.is(sentence + "the latest had none", -1, post::errorAt);
    Due.tell(post, "loft b at 1,64;");
    DUE.is(sentence + "an error 5", 12, post::errorAt);
    post.teach();
    DUE.is(sentence + "the empty tape had none", -1, post::errorAt);
  }

  // ---- promise 6

  private static void countedThings() {
    String sentence = "Promise 6: what is 0 to 11: ";
    LoftPost post = Due.post(BIRDS + "loft far at 60,60; pigeon s of far in b speed 1;"
        + "pigeon t of far in b; hawk at 11,12 reach 0 rests 9; letter k in a by p,r;"
        + "letter l in b by t and s; letter m in b by r;");
    feedBlanks(post);
    post.trim(13);
    // t flies from 3,4 to 11,12, and is caught there; k lies in a before r, which is in b.
    post.pass(1);
    DUE.all(sentence + "count", post::count, 1, 3, 5, 1, 3, 3, 1, 1, 1, 1, 0, 13);
    for (int what : new int[] {-1, 12, 13, LEAST, MOST}) {
      DUE.refuses(sentence + what, Due.OUT, post, () -> post.count(what));
    }
  }

  private static void doublesStayCounted() {
    String sentence = "Promise 6: doubles that were one too many in all: ";
    String text = BIRDS + "letter l in a by p and q;";
    LoftPost post = Due.post(text);
    DUE.is(sentence + "none", 0, () -> post.count(10));
    post.pass(1);
    DUE.is(sentence + "one", 1, () -> post.count(10));
    DUE.is(sentence + "a teach() does not change this", 1, () -> Due.tell(post, text) + post.count(10));
    DUE.is(sentence + "a teach() with an error, either", 2,
        () -> Due.tell(post, "loft") + post.count(10));
    post.pass(1);
    DUE.is(sentence + "it is added to", 2, () -> post.count(10));
  }

  // ---- section 1: tokens

  private static boolean isDigit(int b) {
    return b >= '0' && b <= '9';
  }

  private static boolean isLetter(int b) {
    return b >= 'a' && b <= 'z';
  }

  private static void blanks() {
    for (int b = 0; b < 256; b++) {
      String sign = String.valueOf((char) b);
      boolean blank = b == 32 || b == 10;
      String sentence = "Terms: blanks (32) and line ends (10) alone, byte " + b;
      DUE.reads(sentence + " at the beginning", sign + "loft a at 1,2;", blank ? 0 : 1,
          blank ? -1 : 0);
      DUE.reads(sentence + " at the end", "loft a at 1,2;" + sign, blank ? 0 : 1, blank ? -1 : 14);
      DUE.reads(sentence + " alone", sign, blank ? 0 : 1, blank ? -1 : 0);
      // A digit makes the number longer, and a comma stands there once already.
      int error = blank || isDigit(b) ? -1 : b == ',' ? 12 : 11;
      DUE.reads(sentence + " behind a number", "loft a at 1" + sign + ",2;", error < 0 ? 0 : 1,
          error);
      if (!isDigit(b)) {
        DUE.reads(sentence + " behind a symbol", "loft a at 1," + sign + "2;", blank ? 0 : 1,
            blank ? -1 : 12);
      }
    }
    DUE.right("Terms: many blanks between tokens", "loft \n\n  a\n \nat  1 \n, \n 2 \n;");
  }

  private static void blanksThatMustStand() {
    String sentence = "Terms: blanks have to stand between what would be read as one token";
    DUE.wrong(sentence, 1, "|lofta at 1,2;");
    DUE.wrong(sentence, 1, "loft aat |1,2;");
    DUE.wrong(sentence, 1, "loft a |at1,2;");
    DUE.wrong(sentence, 1, "loft a at 1,2 |speed5;");
    DUE.wrong(sentence, 1, "loft a at 1 |2,2;");
    DUE.wrong(sentence, 1, BIRDS + "pigeon sof |a;");
    DUE.wrong(sentence, 1, "|hawkat 1,1 reach 1;");
    String free = "Terms: blanks can be left out between other tokens";
    DUE.right(free, "loft a at 1,2then 3,4then 5,6speed 5;loft b at 7,8;hawk at 1,2reach 3rests 4;");
    DUE.right(free, BIRDS + "pigeon s of b in a speed 1sight 2;letter l in a by p and q,r,q;");
  }

  private static void longestWords() {
    String sentence = "Terms: a word is at most 10 bytes";
    DUE.right(sentence, "loft a at 1,2;");
    for (String name : new String[] {"abcdefghij", "a123456789", "zzzzzzzzz9", "letterloft",
        "andandandx"}) {
      DUE.right(sentence, "loft " + name + " at 1,2;");
      DUE.right(sentence, "loft " + name + " at 1,2; pigeon " + name + " of " + name + " in " + name
          + ";letter " + name + " in " + name + " by " + name + ";");
      DUE.wrong(sentence, 1, "loft |" + name + "0 at 1,2;");
      DUE.wrong(sentence, 1, "loft |" + name + "z at 1,2;");
      DUE.wrong(sentence, 1, "loft |" + name + "loft at 1,2;");
      DUE.wrong(sentence, 1, "loft |" + name.repeat(10) + " at 1,2;");
      DUE.wrong(sentence, 1, "|" + name + "0");
    }
    DUE.wrong(sentence, 1, BIRDS + "letter l in a by p and q,|ppppppppppp;");
    // Ten bytes that are the same are no reason to take two words as one.
    DUE.right("Terms: a name is told apart to its last byte",
        "loft abcdefghij at 1,1;loft abcdefghik at 1,1;loft abcdefghi at 1,1;loft a at 1,1;");
  }

  private static void bytesOfWords() {
    for (int b = 0; b < 256; b++) {
      String sign = String.valueOf((char) b);
      String sentence = "Terms: a letter a to z, followed by letters a to z and digits, byte " + b;
      // Behind "a", t makes the keyword at.
      boolean goesOn = isLetter(b) && b != 't' || isDigit(b) || b == 32 || b == 10;
      DUE.reads(sentence + " in a word", "loft a" + sign + " at 1,2;", goesOn ? 0 : 1,
          goesOn ? -1 : b == 't' ? 5 : 6);
      boolean begins = isLetter(b) || b == 32 || b == 10;
      DUE.reads(sentence + " begins a word", "loft " + sign + "0 at 1,2;", isLetter(b) ? 0 : 1,
          isLetter(b) ? -1 : begins ? 6 : 5);
    }
  }

  private static void longestNumbers() {
    String sentence = "Terms: a number is 1 to 6 digits";
    for (String number : new String[] {"0", "63", "063", "0063", "00063", "000063"}) {
      DUE.right(sentence, "loft a at " + number + "," + number + ";");
    }
    DUE.wrong(sentence, 1, "loft a at |0000063,1;");
    DUE.wrong(sentence, 1, "loft a at 1,|0000063;");
    DUE.wrong(sentence, 1, "loft a at 1,|1000000;");
    DUE.wrong(sentence, 1, "loft a at 1,|" + "0".repeat(100) + ";");
    DUE.wrong(sentence, 1, "loft a at 1,|4294967297;");
    DUE.wrong(sentence + ", 6 digits can be out of the range", 5, "loft a at 1,|999999;");
    DUE.wrong(sentence + ", 6 digits can be out of the range", 5, "loft a at |100000,1;");
    LoftPost post = Due.post("loft a at 000009,000010;");
    DUE.all(sentence + ", zeros ahead do not count", what -> post.loft(0, what), 9, 10);
  }

  private static void symbols() {
    for (int b = 33; b < 256; b++) {
      if (!isDigit(b) && !isLetter(b)) {
        String sign = String.valueOf((char) b);
        String sentence = "Terms: the symbols are , and ; byte " + b;
        DUE.reads(sentence, "loft a at 1" + sign + "2;", b == ',' ? 0 : 1, b == ',' ? -1 : 11);
        DUE.reads(sentence, "loft a at 1,2" + sign, b == ';' ? 0 : 1, b == ';' ? -1 : 13);
      }
    }
    DUE.wrong("Terms: a symbol is one byte", 1, "loft a at 1,|,2;");
    DUE.wrong("Terms: a symbol is one byte", 1, "loft a at 1,2;|;");
  }

  private static void keywordsAreNoNames() {
    for (String word : KEYWORDS) {
      String sentence = "Terms: a keyword is no name, " + word;
      DUE.wrong(sentence, 1, "loft |" + word + " at 1,2;");
      DUE.wrong(sentence, 1, "loft a at 1,2; pigeon |" + word + " of a;");
      DUE.wrong(sentence, 1, "loft a at 1,2; pigeon p of |" + word + ";");
      DUE.wrong(sentence, 1, "loft a at 1,2; pigeon p of a in |" + word + ";");
      DUE.wrong(sentence, 1, BIRDS + "letter |" + word + " in a by p;");
      DUE.wrong(sentence, 1, BIRDS + "letter l in |" + word + " by p;");
      DUE.wrong(sentence, 1, BIRDS + "letter l in a by |" + word + ";");
      DUE.wrong(sentence, 1, BIRDS + "letter l in a by p and |" + word + ";");
      DUE.wrong(sentence, 1, BIRDS + "letter l in a by p,|" + word + ";");
    }
  }

  private static void nearlyKeywords() {
    for (String word : KEYWORDS) {
      String sentence = "Terms: all other words are names, nearly " + word;
      DUE.right(sentence, "loft " + word + "s at 1,2;");
      DUE.right(sentence, "loft " + word + "0 at 1,2;");
      DUE.right(sentence, "loft x" + word + " at 1,2;");
      DUE.right(sentence, "loft " + word.substring(0, word.length() - 1) + " at 1,2;");
      DUE.right(sentence, "loft " + word.substring(0, word.length() - 1) + "q at 1,2;");
    }
  }

  // ---- section 1: the grammar

  private static void repeatedParts() {
    String sentence = "Terms: { x } is x any number of times, also none";
    DUE.right(sentence + ", no line", "");
    DUE.right(sentence + ", one line", "loft a at 1,2;");
    DUE.right(sentence + ", one then", "loft a at 1,2 then 1,2;");
    DUE.right(sentence + ", five then", "loft a at 1,2" + " then 1,2".repeat(5) + ";");
    DUE.right(sentence + ", one stage of one", BIRDS + "letter l in a by p;");
    DUE.right(sentence + ", two of one stage", BIRDS + "letter l in a by p and q;");
    DUE.right(sentence + ", two stages", BIRDS + "letter l in a by p,q;");
    DUE.right(sentence + ", six stages", BIRDS + "letter l in a by p,q,r,p,q,r;");
    // More of them is no error 1: what comes behind is looked at, too.
    DUE.wrong(sentence + ", thirty then", 4, "loft a at 1,2" + " then 1,2".repeat(5) + " |then 1,2"
        + " then 1,2".repeat(25) + ";");
    DUE.wrong(sentence + ", thirty stages", 4, BIRDS + "letter l in a by p,p,p,p,p,p,|p"
        + ",p".repeat(30) + ";");
    DUE.wrong(sentence + ", thirty of one stage", 7, BIRDS + "letter l in a by p and |p"
        + " and p".repeat(30) + ";");
    DUE.wrong(sentence + ", thirty then, not ended", 1, "loft a at 1,2" + " then 1,2".repeat(30)
        + "|");
  }

  private static void partsInBrackets() {
    String sentence = "Terms: [ x ] is x or nothing";
    String[] loft = {"", " speed 5"};
    String[] in = {"", " in b"};
    String[] speed = {"", " speed 20"};
    String[] sight = {"", " sight 20"};
    String[] rests = {"", " rests 24"};
    for (int i = 0; i < 8; i++) {
      String line = "pigeon s of a" + in[i & 1] + speed[i >> 1 & 1] + sight[i >> 2];
      DUE.right(sentence, BIRDS + line + ";loft c at 1,2" + loft[i & 1]
          + ";hawk at 1,2 reach 3" + rests[i & 1] + ";");
    }
    DUE.wrong(sentence + ", once", 1, BIRDS + "pigeon s of a in b |in a;");
    DUE.wrong(sentence + ", once", 1, "loft a at 1,2 speed 1 |speed 1;");
    DUE.wrong(sentence + ", once", 1, BIRDS + "pigeon s of a speed 1 |speed 1;");
    DUE.wrong(sentence + ", once", 1, BIRDS + "pigeon s of a sight 1 |sight 1;");
    DUE.wrong(sentence + ", once", 1, "hawk at 1,2 reach 3 rests 4 |rests 4;");
    DUE.wrong(sentence + ", in its order", 1, BIRDS + "pigeon s of a speed 1 |in a;");
    DUE.wrong(sentence + ", in its order", 1, BIRDS + "pigeon s of a sight 1 |in a;");
    DUE.wrong(sentence + ", in its order", 1, BIRDS + "pigeon s of a sight 1 |speed 1;");
    DUE.wrong(sentence + ", in its order", 1, "hawk at 1,2 |rests 4 reach 3;");
    DUE.wrong(sentence + ", in its order", 1, "loft a at 1,2 speed 1 |then 1,2;");
  }

  // ---- section 1: error 1

  private static void endOfTheTape() {
    String[] tokens = ("loft a at 1 , 2 then 3 , 4 speed 5 ; pigeon p of a in a speed 6 sight 7 ; "
        + "hawk at 8 , 9 reach 10 rests 11 ; letter l in a by p , p , p ;").split(" ");
    StringBuilder text = new StringBuilder();
    for (String token : tokens) {
      text.append(text.length() == 0 ? "" : " ").append(token);
      for (String blanks : new String[] {"", " ", "\n  \n"}) {
        boolean whole = token.equals(";");
        String cut = text + blanks;
        DUE.reads("Terms: error 1 at the end of the tape, at its length", cut, whole ? 0 : 1,
            whole ? -1 : cut.length());
      }
    }
  }

  /** Each line, ended by its semicolon or by a second line where it may and may not end. */
  private static void endOfALine() {
    String[] lines = {"loft c at 1 , 2! then 3 , 4! then 5 , 6! speed 5!",
        "pigeon s of a! in b! speed 5! sight 6!", "hawk at 1 , 2 reach 3! rests 4!",
        "letter l in a by p! and q! , r! , p! and q!"};
    for (String line : lines) {
      StringBuilder text = new StringBuilder(BIRDS);
      for (String token : line.split(" ")) {
        text.append(token.replace("!", ""));
        if (token.endsWith("!")) {
          DUE.right("Terms: a line can end", text + ";");
          DUE.right("Terms: a line can end", text + ";hawk at 1,1 reach 1;");
        } else {
          DUE.wrong("Terms: error 1, a line can't end", 1, text + "|;");
          DUE.wrong("Terms: error 1, a line can't end", 1, text + " |hawk at 1,1 reach 1;");
        }
        DUE.wrong("Terms: error 1, a line has to end", 1, text + " |letter m in a by p;");
        text.append(' ');
      }
    }
  }

  /** A text of 399 tokens and its last semicolon without an error, in less than 2000 bytes. */
  private static String fullText() {
    StringBuilder text = new StringBuilder();
    for (int i = 0; i < 6; i++) {
      text.append("loft l").append(i).append(" at 1,1").append(" then 1,1".repeat(5))
          .append(" speed 1;");
    }
    for (int i = 0; i < 19; i++) {
      text.append("pigeon p").append(i).append(" of l0 in l0 speed 1 sight 2;");
    }
    // 6 * 29 + 19 * 11 = 383 tokens so far; 9 and 8 more.
    return text + "pigeon q of l0 speed 1 sight 2;hawk at 1,1 reach 1;";
  }

  private static void fourHundredTokens() {
    String sentence = "Terms: 400 tokens, the end of the tape not counted";
    String text = fullText();
    DUE.right(sentence, text);
    DUE.right(sentence + ", blanks behind", text + " \n ");
    DUE.right(sentence + ", a full tape", text + " ".repeat(2000 - text.length()));
    DUE.right(sentence + ", a full tape", " ".repeat(2000 - text.length()) + text);
    // The 400th token fits, and only the end is wrong.
    String cut = text.substring(0, text.length() - 1);
    DUE.wrong(sentence + ", and then the end", 1, cut + " rests|");
    DUE.wrong(sentence + ", and then the end", 1, cut + " rests \n|");
    String forty = "hawk at 1,1 reach 1 rests 1;".repeat(40);
    DUE.reads(sentence + ", an error 4 among them", forty, 4, 6 * 28);
    DUE.reads(sentence + ", an error 4 among them", forty + "\n", 4, 6 * 28);
    DUE.wrong(sentence + ", a wrong 400th token", 1, cut + "|,");
  }

  private static void fourHundredAndOneTokens() {
    String sentence = "Terms: error 1 at the 401st token, at its first byte";
    String text = fullText();
    for (String token : new String[] {"loft", "pigeon", "hawk", "letter", ";", ",", "5", "x", "X",
        "\u00ff", "abcdefghijk", "1234567"}) {
      DUE.wrong(sentence, 1, text + "|" + token);
      DUE.wrong(sentence, 1, text + " \n|" + token + " ");
    }
    DUE.wrong(sentence, 1, text + "|hawk at 1,1 reach 1;");
    DUE.wrong(sentence, 1, text.substring(0, text.length() - 1) + " rests |4;");
    String forty = "hawk at 1,1 reach 1 rests 1;".repeat(40);
    DUE.wrong(sentence + ", behind an error 4", 1, forty + "|h");
    DUE.wrong(sentence + ", behind an error 4", 1, forty + "|hawk at 1,1 reach 1;");
    DUE.wrong(sentence + ", not what is wrong behind it", 1, forty + "|hawk hawk");
    DUE.wrong(sentence + ", but an error 1 ahead of it", 1, "|;" + text + "hawk");
  }

  private static void errorOneGoesAhead() {
    String[] later = {"loft|", "|x", "|;", "loft b at 1|;", "hawk at 9,9 reach |7777777;", "|\u0007"};
    for (String[] line : WRONG_LINES) {
      for (String end : later) {
        DUE.wrong("Terms: only if there is no error 1, error " + line[0], 1,
            BIRDS + line[1].replace("|", "") + end);
      }
    }
  }

  // ---- section 1: errors 2 to 7

  /** Behind BIRDS each of them has one error, at the bar. */
  private static final String[][] WRONG_LINES = {
      {"2", "loft |a at 1,1;"}, {"2", "pigeon |p of a;"}, {"3", "pigeon y of |y;"},
      {"3", "letter y in a by p and |y;"}, {"4", "letter k in a by p,p,p,p,p,p,|p;"},
      {"4", "loft k at 1,1 then 1,1 then 1,1 then 1,1 then 1,1 then 1,1 |then 1,1;"},
      {"5", "hawk at |64,1 reach 1;"}, {"5", "pigeon x of a speed |0;"},
      {"6", "letter m in a by p and |r;"}, {"7", "letter n in a by p and |p;"}};

  private static void leftToRight() {
    for (String[] first : WRONG_LINES) {
      for (String[] second : WRONG_LINES) {
        DUE.wrong("Terms: from left to right, the first error is told, " + first[0] + " ahead of "
            + second[0], Integer.parseInt(first[0]), BIRDS + first[1] + second[1].replace("|", ""));
      }
    }
    String sentence = "Terms: the first error is told, in one line";
    DUE.wrong(sentence, 2, BIRDS + "loft |a at 64,64 speed 6;");
    DUE.wrong(sentence, 5, "loft a at |64,64 speed 6;");
    DUE.wrong(sentence, 5, "loft a at 63,|64 speed 6;");
    DUE.wrong(sentence, 5, "loft a at 63,63 speed |6;");
    DUE.wrong(sentence, 2, BIRDS + "pigeon |p of x in x speed 0 sight 21;");
    DUE.wrong(sentence, 3, BIRDS + "pigeon s of |x in x speed 0 sight 21;");
    DUE.wrong(sentence, 3, BIRDS + "pigeon s of a in |x speed 0 sight 21;");
    DUE.wrong(sentence, 5, BIRDS + "pigeon s of a in a speed |0 sight 21;");
    DUE.wrong(sentence, 4, "hawk at 1,1 reach 1;".repeat(6) + "|hawk at 64,64 reach 21 rests 0;");
    DUE.wrong(sentence, 4, "loft a at 1,1" + " then 1,1".repeat(5) + " |then 64,64 speed 6;");
    DUE.wrong(sentence, 5, "hawk at 1,1 reach |21 rests 0;");
    DUE.wrong(sentence, 3, BIRDS + "letter l in |x by p and r;");
    DUE.wrong(sentence, 6, BIRDS + "letter l in a by p and |r and p and x;");
    DUE.wrong(sentence, 7, BIRDS + "letter l in a by p and |p and r and x;");
    DUE.wrong(sentence, 3, BIRDS + "letter l in a by p and |x and p and r;");
  }

  private static void smallestNumberAtOneToken() {
    String sentence = "Terms: of errors at one token the one with the smallest number: ";
    for (int old = 1; old <= 6; old++) {
      DUE.wrong(sentence + "2 and 4, a loft", 2, many("loft l", 6, " at 1,1;") + "loft |l" + old
          + " at 1,1;");
    }
    for (int old = 1; old <= 20; old++) {
      DUE.wrong(sentence + "2 and 4, a pigeon", 2, "loft a at 1,1;" + many("pigeon p", 20, " of a;")
          + "pigeon |p" + old + " of a;");
    }
    for (int old = 1; old <= 12; old++) {
      DUE.wrong(sentence + "2 and 4, a letter", 2, BIRDS + many("letter t", 12, " in a by p;")
          + "letter |t" + old + " in a by p;");
    }
    DUE.wrong(sentence + "3 and 4, a stage", 3, BIRDS + "letter l in a by p,p,p,p,p,p,|x;");
  }

  private static void toldAheadTwice() {
    String sentence = "Terms: error 2, the name is that of one of the same sort told ahead";
    DUE.wrong(sentence, 2, "loft a at 1,1; loft |a at 1,1;");
    DUE.wrong(sentence, 2, BIRDS + "loft |b at 1,1;");
    DUE.wrong(sentence, 2, BIRDS + "pigeon |p of a;");
    DUE.wrong(sentence, 2, BIRDS + "pigeon |r of a;");
    DUE.wrong(sentence, 2, BIRDS + "letter l in a by p; letter |l in a by p;");
    DUE.wrong(sentence, 2, BIRDS + "letter k in a by p; letter l in a by p; letter |k in b by r;");
    DUE.right(sentence + ", another sort is none", "loft a at 1,1; pigeon a of a; letter a in a by a;"
        + "loft p at 1,1; pigeon p of p; letter p in p by p;");
    DUE.right(sentence + ", nor is the beginning of a name",
        "loft ab at 1,1; loft a at 1,1; loft abc at 1,1; loft b at 1,1; loft ba at 1,1;");
    LoftPost post = Due.post(BIRDS + "letter l in a by p;");
    DUE.is(sentence + ", nor is what an earlier text told", 0,
        () -> Due.tell(post, BIRDS + "letter l in a by p;"));
  }

  private static void notToldAhead() {
    String sentence = "Terms: error 3, the name is none of what it has to be, told ahead";
    DUE.wrong(sentence + ": of, none", 3, "pigeon p of |a;");
    DUE.wrong(sentence + ": of, told behind", 3, "pigeon p of |a; loft a at 1,1;");
    DUE.wrong(sentence + ": of, another sort", 3, BIRDS + "pigeon s of |p;");
    DUE.wrong(sentence + ": of, its own name", 3, BIRDS + "pigeon s of |s;");
    DUE.wrong(sentence + ": in, of a pigeon", 3, BIRDS + "pigeon s of a in |q;");
    DUE.wrong(sentence + ": in, told behind", 3, BIRDS + "pigeon s of a in |c; loft c at 1,1;");
    DUE.wrong(sentence + ": in, of a letter", 3, BIRDS + "letter l in |p by p;");
    DUE.wrong(sentence + ": in, its own name", 3, BIRDS + "letter l in |l by p;");
    DUE.wrong(sentence + ": a stage, a loft", 3, BIRDS + "letter l in a by |a;");
    DUE.wrong(sentence + ": a stage, its own name", 3, BIRDS + "letter l in a by |l;");
    DUE.wrong(sentence + ": a stage, told behind", 3, BIRDS + "letter l in a by |s; pigeon s of a;");
    DUE.wrong(sentence + ": the sixth stage", 3, BIRDS + "letter l in a by p,p,p,p,p,|s;");
    DUE.wrong(sentence + ": behind and", 3, BIRDS + "letter l in a by p and |b;");
    DUE.wrong(sentence + ": the beginning of a name", 3, "loft ab at 1,1; pigeon p of |a;");
    DUE.wrong(sentence + ": more than a name", 3, "loft ab at 1,1; pigeon p of |abc;");
    DUE.wrong(sentence + ": the end of a name", 3, "loft ab at 1,1; pigeon p of |b;");
    DUE.right(sentence + ": the last of six lofts", many("loft l", 6, " at 1,1;")
        + "pigeon p of l6 in l6; letter l in l6 by p;");
    DUE.right(sentence + ": the last of twenty pigeons", "loft a at 1,1;"
        + many("pigeon p", 20, " of a;") + "letter l in a by p20,p20 and p1;");
    LoftPost post = Due.post(BIRDS);
    DUE.is(sentence + ": a loft of an earlier text", "3 at 12",
        () -> Due.tell(post, "pigeon p of a;") + " at " + post.errorAt());
    DUE.is(sentence + ": a pigeon of an earlier text", "3 at 32",
        () -> Due.tell(post, "loft a at 1,2; letter l in a by p;") + " at " + post.errorAt());
    DUE.is(sentence + ": the lofts of a text with an error", "3 at 12",
        () -> Due.tell(post, "pigeon p of a;") + " at " + post.errorAt());
  }

  private static String many(String before, int count, String behind) {
    StringBuilder text = new StringBuilder();
    for (int i = 1; i <= count; i++) {
      text.append(before).append(i).append(behind);
    }
    return text.toString();
  }

  private static void oneTooMany() {
    String sentence = "Terms: error 4, ";
    String lofts = many("loft l", 6, " at 1,1;");
    DUE.right(sentence + "6 lofts", lofts);
    DUE.wrong(sentence + "the name of the 7th loft", 4, lofts + "loft |l7 at 1,1;");
    DUE.wrong(sentence + "the name of the 7th loft, not of the 8th", 4, lofts
        + "loft |l7 at 1,1;loft l8 at 1,1;");
    String pigeons = "loft a at 1,1;" + many("pigeon p", 20, " of a;");
    DUE.right(sentence + "20 pigeons", pigeons);
    DUE.wrong(sentence + "the name of the 21st pigeon", 4, pigeons + "pigeon |p21 of a;");
    DUE.wrong(sentence + "the name of the 21st pigeon, not of the 22nd", 4, pigeons
        + "pigeon |p21 of x;pigeon p22 of a;");
    String letters = BIRDS + many("letter t", 12, " in a by p;");
    DUE.right(sentence + "12 letters", letters);
    DUE.wrong(sentence + "the name of the 13th letter", 4, letters + "letter |t13 in a by p;");
    DUE.wrong(sentence + "the name of the 13th letter, not of the 14th", 4, letters
        + "letter |t13 in x by p;letter t14 in a by p;");
    String hawks = "hawk at 1,1 reach 1;".repeat(6);
    DUE.right(sentence + "6 hawks", hawks);
    DUE.wrong(sentence + "the hawk of the 7th hawk", 4, hawks + " |hawk at 1,1 reach 1;");
    DUE.wrong(sentence + "the hawk of the 7th hawk, not of the 8th", 4, hawks
        + " |hawk at 1,1 reach 1;hawk at 1,1 reach 1;");
    String spots = "loft a at 1,1" + " then 1,1".repeat(5);
    DUE.right(sentence + "6 spots", spots + ";");
    DUE.wrong(sentence + "the then of the 7th spot", 4, spots + " |then 1,1;");
    DUE.wrong(sentence + "the then of the 7th spot, not of the 8th", 4, spots
        + " |then 1,1 then 1,1;");
    DUE.right(sentence + "6 spots of each loft", spots + ";" + spots.replace(" a ", " b ") + ";");
    String stages = BIRDS + "letter l in a by p and q,p,p,p,p,q and p";
    DUE.right(sentence + "6 stages", stages + ";");
    DUE.wrong(sentence + "the first name of the 7th stage", 4, stages + ",|q;");
    DUE.wrong(sentence + "the first name of the 7th stage, not the next", 4, stages
        + ",|q and q and r,x;");
    DUE.right(sentence + "6 stages of each letter", stages + ";letter m in a by p,p,p,p,p,r;");
    StringBuilder stage = new StringBuilder("p1");
    for (int i = 2; i <= 20; i++) {
      stage.append(" and p").append(i);
    }
    DUE.right("Terms: 20 pigeons of one stage", pigeons + "letter l in a by " + stage + ";");
    DUE.wrong("Terms: a 21st of one stage stands in it already", 7, pigeons + "letter l in a by "
        + stage + " and |p1;");
    // All at its most at once.
    DUE.right("Terms: 6 lofts, 20 pigeons, 6 hawks and 12 letters", Busy.TEXT);
    String[] beyond = {"loft |x at 1,1;", "pigeon |x of l0;", "|hawk at 1,1 reach 1;",
        "letter |x in l0 by p0;"};
    for (String line : beyond) {
      DUE.wrong("Terms: one more than 6 lofts, 20 pigeons, 6 hawks or 12 letters", 4, Busy.TEXT
          + line);
    }
  }

  /** Least to most is taken; the numbers beyond them are errors 5. */
  private static void range(String what, String before, int least, int most, String behind) {
    String sentence = "Terms: error 5, " + what + " " + least + " to " + most;
    for (int number : new int[] {least, least + 1, most - 1, most}) {
      DUE.right(sentence, before + number + behind);
    }
    List<Integer> beyond = new ArrayList<>(List.of(most + 1, most + 2, 10 * most, 999999));
    if (least > 0) {
      beyond.add(least - 1);
    }
    for (int number : beyond) {
      DUE.wrong(sentence, 5, before + "|" + number + behind);
    }
    DUE.wrong(sentence + ", no sign", 1, before + "|-" + least + behind);
  }

  private static void ranges() {
    range("x of a loft", "loft a at ", 0, 63, ",5;");
    range("y of a loft", "loft a at 5,", 0, 63, ";");
    range("x of the next spot", "loft a at 1,1 then ", 0, 63, ",5;");
    range("y of the next spot", "loft a at 1,1 then 5,", 0, 63, " speed 5;");
    range("x of the sixth spot", "loft a at 1,1" + " then 1,1".repeat(4) + " then ", 0, 63, ",5;");
    range("speed of a loft", "loft a at 1,1 speed ", 0, 5, ";");
    range("speed of a loft behind then", "loft a at 1,1 then 2,2 speed ", 0, 5, ";");
    range("speed of a pigeon", BIRDS + "pigeon s of a speed ", 1, 20, ";");
    range("speed of a pigeon behind in", BIRDS + "pigeon s of a in b speed ", 1, 20, " sight 0;");
    range("sight", BIRDS + "pigeon s of a sight ", 0, 20, ";");
    range("sight behind speed", BIRDS + "pigeon s of a speed 1 sight ", 0, 20, ";");
    range("x of a hawk", "hawk at ", 0, 63, ",5 reach 1;");
    range("y of a hawk", "hawk at 5,", 0, 63, " reach 1;");
    range("reach", "hawk at 1,1 reach ", 0, 20, ";");
    range("rests", "hawk at 1,1 reach 1 rests ", 1, 24, ";");
  }

  private static void anotherHome() {
    String sentence = "Terms: error 6, another home than the first one of this stage";
    DUE.wrong(sentence, 6, BIRDS + "letter l in a by p and |r;");
    DUE.wrong(sentence, 6, BIRDS + "letter l in a by r and |p;");
    DUE.wrong(sentence + ", the third", 6, BIRDS + "letter l in a by p and q and |r;");
    DUE.wrong(sentence + ", the second stage", 6, BIRDS + "letter l in a by p,r and |q;");
    DUE.wrong(sentence + ", the sixth stage", 6, BIRDS + "letter l in a by p,r,p,r,p,q and |r;");
    DUE.right(sentence + ", other stages do not count", BIRDS
        + "letter l in a by p,r,q and p,r,p and q,r;");
    DUE.right(sentence + ", nor does where it is", BIRDS
        + "pigeon s of a in b; letter l in a by p and s;");
    DUE.wrong(sentence + ", nor where it is", 6, BIRDS
        + "pigeon s of b in a; letter l in a by p and |s;");
    DUE.right(sentence + ", nor where the letter is", BIRDS + "letter l in b by p and q;");
    // b stands at the spot of a, and is another one.
    DUE.wrong(sentence + ", though at the same spot", 6, "loft a at 1,1;loft b at 1,1;"
        + "pigeon p of a;pigeon q of b;letter l in a by p and |q;");
  }

  private static void twiceInAStage() {
    String sentence = "Terms: error 7, it stands in this stage already";
    DUE.wrong(sentence, 7, BIRDS + "letter l in a by p and |p;");
    DUE.wrong(sentence + ", the third", 7, BIRDS + "letter l in a by p and q and |p;");
    DUE.wrong(sentence + ", the third", 7, BIRDS + "letter l in a by p and q and |q;");
    DUE.wrong(sentence + ", the second stage", 7, BIRDS + "letter l in a by q,p and |p;");
    DUE.wrong(sentence + ", the sixth stage", 7, BIRDS + "letter l in a by r,r,r,r,r,p and |p;");
    DUE.right(sentence + ", another stage does not count", BIRDS
        + "letter l in a by p and q,q and p,p,q,p;");
    DUE.right(sentence + ", nor does another letter", BIRDS
        + "letter l in a by p and q;letter m in a by p and q;");
    DUE.wrong(sentence + ", though a pigeon of another letter is ahead", 7, BIRDS
        + "letter l in a by p and q;letter m in a by q and |q;");
  }

  private static void numberedFromZero() {
    String sentence = "Terms: numbered from 0 in the order in which they are told: ";
    LoftPost post = Due.post("hawk at 10,0 reach 0;loft z at 20,0;hawk at 11,0 reach 0;"
        + "loft y at 21,0;pigeon z of y;loft x at 22,0;pigeon y of z in x;"
        + "letter z in x by y,z;hawk at 12,0 reach 0;letter y in z by z;");
    for (int i = 0; i < 3; i++) {
      int number = i;
      DUE.is(sentence + "lofts", 20 + i, () -> post.loft(number, 0));
      DUE.is(sentence + "hawks", 10 + i, () -> post.hawk(number, 0));
    }
    DUE.is(sentence + "pigeons", "1 1 0 2", () -> post.pigeon(0, 3) + " " + post.pigeon(0, 4) + " "
        + post.pigeon(1, 3) + " " + post.pigeon(1, 4));
    DUE.is(sentence + "letters", "2 2 0 1", () -> post.letter(0, 0) + " " + post.letter(0, 2) + " "
        + post.letter(1, 0) + " " + post.letter(1, 2));
  }
}
