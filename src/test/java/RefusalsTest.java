/**
 * Each exception of the face: the first inputs beyond those that are taken, which one comes first
 * where several apply, and that the call which throws it changes nothing. The same for the calls
 * that only tell: they change nothing either.
 */
public final class RefusalsTest {
  private static final Due DUE = new Due();
  private static final int LEAST = Integer.MIN_VALUE;
  private static final int MOST = Integer.MAX_VALUE;
  private static final int LOFTS = 6;
  private static final int PIGEONS = 20;
  private static final int HAWKS = 6;
  private static final int LETTERS = 12;
  private static final String UNTOUCHED = Busy.whole(Busy.post());
  private static final String UNTOUCHED_FULL = Busy.whole(Busy.fullPost());

  private interface On {
    Object answer(LoftPost post);
  }

  private interface Numbered {
    Object answer(LoftPost post, int number);
  }

  public static void main(String[] args) {
    busyPostIsBusy();
    feeding();
    trimming();
    numbersOfWhats();
    numbersOfThings();
    bringing();
    luring();
    hours();
    whichComesFirst();
    lookingAhead();
    telling();
    DUE.end();
  }

  /** The call throws this, and all that can be told of the post is as without the call. */
  private static void refuses(String what, String want, On call) {
    LoftPost post = Busy.post();
    DUE.is(what, want, () -> call.answer(post));
    DUE.is(what + ": changes nothing", UNTOUCHED, () -> Busy.whole(post));
  }

  private static void takes(String what, On call) {
    DUE.is(what + " is taken", "true",
        () -> !Due.answer(() -> call.answer(Busy.post())).startsWith("throws."));
  }

  /** The numbers 0 to COUNT - 1 are taken. */
  private static void numbers(String what, int count, Numbered call) {
    for (int number : new int[] {0, count - 1}) {
      takes(what + " " + number, post -> call.answer(post, number));
    }
    for (int number : new int[] {-1, count, count + 1, LEAST, MOST}) {
      refuses(what + " " + number, Due.OUT, post -> call.answer(post, number));
    }
  }

  /** That what is looked at in this test has something to lose. */
  private static void busyPostIsBusy() {
    LoftPost post = Busy.post();
    DUE.all("the busy post has all", what -> post.count(what + 1), LOFTS, PIGEONS, HAWKS, LETTERS);
    for (int what = 5; what < 12; what++) {
      int asked = what;
      DUE.is("the busy post has some of " + what, true, () -> post.count(asked) > 0);
    }
    DUE.is("a hawk rests", true, () -> post.hawk(0, 3) > 0);
    DUE.is("a pigeon searches", true, () -> post.pigeon(4, 0) == 1 && post.pigeon(4, 6) > 0);
    DUE.is("a late double flies", "1 1", () -> post.letter(1, 1) + " " + post.pigeon(2, 0));
    DUE.is("a letter has arrived, and one has not", "1 0", () -> post.letter(0, 3) + " "
        + post.letter(1, 3));
    LoftPost full = Busy.fullPost();
    DUE.is("the full tape is full", 2000, () -> full.count(11));
  }

  private static void feeding() {
    String sentence = "Promise 2: if there would be more than 2000";
    for (int number : new int[] {0, 0x20202020, 0x3b3b3b3b, -1, LEAST, MOST}) {
      LoftPost post = Busy.fullPost();
      DUE.is(sentence, Due.STATE, () -> post.feed(number, number, number, number, number));
      DUE.is(sentence + ": changes nothing", UNTOUCHED_FULL, () -> Busy.whole(post));
    }
    // One byte of the twenty would be too many: none of them is appended.
    LoftPost post = Busy.fullPost();
    post.trim(1981);
    DUE.is(sentence + ", by one", Due.STATE, () -> post.feed(0, 0, 0, 0, 0));
    DUE.is(sentence + ", by one: the tape stays", 1981, () -> post.count(11));
    DUE.is(sentence + ", by one: what it holds stays", 0, post::teach);
  }

  private static void trimming() {
    int bytes = Busy.TAPE.length();
    String sentence = "Promise 3: if n is not 0 to the number of bytes of the tape, ";
    for (int n : new int[] {-1, bytes + 1, bytes + 2, 2000, 2001, LEAST, MOST}) {
      refuses(sentence + n, Due.ILLEGAL, post -> post.trim(n));
    }
    takes(sentence + "0", post -> post.trim(0));
    takes(sentence + bytes, post -> post.trim(bytes));
  }

  private static void numbersOfWhats() {
    numbers("Promise 6: count, what", 12, (post, what) -> post.count(what));
    numbers("Promise 7: loft, what", 8, (post, what) -> post.loft(LOFTS - 1, what));
    numbers("Promise 8: pigeon, what", 8, (post, what) -> post.pigeon(PIGEONS - 1, what));
    numbers("Promise 9: hawk, what", 5, (post, what) -> post.hawk(HAWKS - 1, what));
    numbers("Promise 10: letter, what", 8, (post, what) -> post.letter(LETTERS - 1, what));
    numbers("Promise 14: foresee, what", 3, (post, what) -> post.foresee(200, what));
  }

  private static void numbersOfThings() {
    numbers("Promise 7: loft", LOFTS, (post, loft) -> post.loft(loft, 7));
    numbers("Promise 8: pigeon", PIGEONS, (post, pigeon) -> post.pigeon(pigeon, 7));
    numbers("Promise 9: hawk", HAWKS, (post, hawk) -> post.hawk(hawk, 4));
    numbers("Promise 10: letter", LETTERS, (post, letter) -> post.letter(letter, 7));
    numbers("Promise 12: lure, hawk", HAWKS, (post, hawk) -> post.lure(hawk, 9, 9));
    numbers("Promise 15: arrives", LETTERS, (post, letter) -> post.arrives(letter));
    numbers("Promise 16: where, loft", LOFTS, (post, loft) -> post.where(loft, 500));
    numbers("Promise 17: blame", LETTERS, (post, letter) -> post.blame(letter));
    numbers("Promise 18: doubles", LETTERS, (post, letter) -> post.doubles(letter));
    // One thing of each sort: the number 1 is the first one beyond.
    LoftPost one = Due.post("loft a at 1,1;pigeon p of a;hawk at 9,9 reach 1;letter l in a by p;");
    DUE.refuses("Promise 7: loft 1 of one", Due.OUT, one, () -> one.loft(1, 0));
    DUE.refuses("Promise 8: pigeon 1 of one", Due.OUT, one, () -> one.pigeon(1, 0));
    DUE.refuses("Promise 9: hawk 1 of one", Due.OUT, one, () -> one.hawk(1, 0));
    DUE.refuses("Promise 10: letter 1 of one", Due.OUT, one, () -> one.letter(1, 0));
    DUE.refuses("Promise 11: pigeon 1 of one", Due.OUT, one, () -> one.bring(1, 0));
    DUE.refuses("Promise 11: loft 1 of one", Due.OUT, one, () -> one.bring(0, 1));
    DUE.refuses("Promise 12: hawk 1 of one", Due.OUT, one, () -> one.lure(1, 0, 0));
    DUE.refuses("Promise 15: letter 1 of one", Due.OUT, one, () -> one.arrives(1));
    DUE.refuses("Promise 16: loft 1 of one", Due.OUT, one, () -> one.where(1, 0));
    DUE.refuses("Promise 17: letter 1 of one", Due.OUT, one, () -> one.blame(1));
    DUE.refuses("Promise 18: letter 1 of one", Due.OUT, one, () -> one.doubles(1));
  }

  private static void bringing() {
    String sentence = "Promise 11: if there is no such pigeon or loft, ";
    for (int pigeon : new int[] {-1, PIGEONS, PIGEONS + 1, LEAST, MOST}) {
      for (int loft : new int[] {0, LOFTS, -1}) {
        refuses(sentence + pigeon + "," + loft, Due.OUT, post -> post.bring(pigeon, loft));
      }
    }
    for (int loft : new int[] {-1, LOFTS, LOFTS + 1, LEAST, MOST}) {
      refuses(sentence + "19," + loft, Due.OUT, post -> post.bring(19, loft));
    }
    takes(sentence + "19,5", post -> post.bring(19, LOFTS - 1));
    takes(sentence + "6,0", post -> post.bring(6, 0));
    for (int loft = 0; loft < LOFTS; loft++) {
      int to = loft;
      refuses("Promise 11: if it is not in a cage, it flies", Due.STATE, post -> post.bring(2, to));
      refuses("Promise 11: if it is not in a cage, it searches", Due.STATE,
          post -> post.bring(4, to));
      refuses("Promise 11: if it is not in a cage, it is gone", Due.STATE,
          post -> post.bring(5, to));
    }
  }

  private static void luring() {
    String sentence = "Promise 12: if x or y is not 0 to 63, ";
    for (int wrong : new int[] {-1, 64, 65, LEAST, MOST}) {
      refuses(sentence + "x " + wrong, Due.ILLEGAL, post -> post.lure(0, wrong, 5));
      refuses(sentence + "y " + wrong, Due.ILLEGAL, post -> post.lure(0, 5, wrong));
      refuses(sentence + "both " + wrong, Due.ILLEGAL, post -> post.lure(5, wrong, wrong));
    }
    takes(sentence + "0,0", post -> post.lure(0, 0, 0));
    takes(sentence + "63,63", post -> post.lure(0, 63, 63));
    takes(sentence + "0,63", post -> post.lure(5, 0, 63));
  }

  private static void hours() {
    for (int hours : new int[] {0, -1, 201, 202, LEAST, MOST}) {
      refuses("Promise 13: if hours is not 1 to 200, " + hours, Due.ILLEGAL,
          post -> post.pass(hours));
      refuses("Promise 14: if hours is not 1 to 200, " + hours, Due.ILLEGAL,
          post -> post.foresee(hours, 0));
    }
    for (int hours : new int[] {1, 200}) {
      takes("Promise 13: 1 to 200, " + hours, post -> post.pass(hours));
      takes("Promise 14: 1 to 200, " + hours, post -> post.foresee(hours, 0));
    }
    for (int hours : new int[] {-1, 501, 502, LEAST, MOST}) {
      refuses("Promise 16: if hours is not 0 to 500, " + hours, Due.ILLEGAL,
          post -> post.where(5, hours));
    }
    for (int hours : new int[] {0, 500}) {
      takes("Promise 16: 0 to 500, " + hours, post -> post.where(5, hours));
    }
  }

  private static void whichComesFirst() {
    String sentence = "Terms: the exception that is named first is thrown, ";
    for (int wrong : new int[] {-1, LEAST, MOST}) {
      refuses(sentence + "bring of what flies", Due.OUT, post -> post.bring(2, wrong));
      refuses(sentence + "bring of what is gone", Due.OUT, post -> post.bring(5, wrong));
      refuses(sentence + "lure", Due.OUT, post -> post.lure(wrong, wrong, wrong));
      refuses(sentence + "foresee", Due.ILLEGAL, post -> post.foresee(wrong, wrong));
      refuses(sentence + "where", Due.OUT, post -> post.where(wrong, wrong));
    }
    refuses(sentence + "bring of what flies", Due.OUT, post -> post.bring(2, LOFTS));
    refuses(sentence + "bring of what is gone", Due.OUT, post -> post.bring(5, LOFTS));
    refuses(sentence + "lure", Due.OUT, post -> post.lure(HAWKS, 64, 0));
    refuses(sentence + "lure", Due.OUT, post -> post.lure(HAWKS, 0, 64));
    refuses(sentence + "foresee", Due.ILLEGAL, post -> post.foresee(0, 3));
    refuses(sentence + "foresee", Due.ILLEGAL, post -> post.foresee(201, 3));
    refuses(sentence + "where", Due.OUT, post -> post.where(LOFTS, 501));
    refuses(sentence + "where", Due.OUT, post -> post.where(LOFTS, -1));
  }

  /** The call answers, and changes nothing. */
  private static void tells(String what, On call) {
    LoftPost post = Busy.post();
    String first = Due.answer(() -> call.answer(post));
    DUE.is(what + ": the same once more", first, () -> call.answer(post));
    DUE.is(what + ": throws nothing", false, () -> first.startsWith("throws."));
    DUE.is(what + ": changes nothing", UNTOUCHED, () -> Busy.whole(post));
  }

  private static void lookingAhead() {
    for (int hours : new int[] {1, 2, 100, 200}) {
      for (int what = 0; what < 3; what++) {
        int asked = what;
        tells("Promise 14: foresee " + hours, post -> post.foresee(hours, asked));
      }
    }
    for (int letter = 0; letter < LETTERS; letter++) {
      int asked = letter;
      tells("Promise 15: arrives " + letter, post -> post.arrives(asked));
      tells("Promise 17: blame " + letter, post -> post.blame(asked));
      tells("Promise 18: doubles " + letter, post -> post.doubles(asked));
    }
    for (int loft = 0; loft < LOFTS; loft++) {
      int asked = loft;
      tells("Promise 16: where " + loft, post -> post.where(asked, 500));
    }
    tells("Promise 19: need", LoftPost::need);
    tells("Promise 20: mean", LoftPost::mean);
    tells("Promise 21: digest", LoftPost::digest);
    // One behind the other, so that none builds on what another one left.
    LoftPost all = Busy.post();
    LoftPost again = Busy.post();
    String forwards = "";
    String backwards = "";
    for (int letter = 0; letter < LETTERS; letter++) {
      forwards = forwards + all.arrives(letter) + " " + all.blame(letter) + " "
          + all.doubles(letter) + " " + all.need() + " " + all.foresee(50, 0) + ";";
      int other = LETTERS - 1 - letter;
      int foreseen = again.foresee(50, 0);
      int need = again.need();
      int doubles = again.doubles(other);
      int blame = again.blame(other);
      backwards = again.arrives(other) + " " + blame + " " + doubles + " " + need + " " + foreseen
          + ";" + backwards;
    }
    String due = forwards;
    String got = backwards;
    DUE.is("Promises 14 to 19: in any order", due, () -> got);
    DUE.is("Promises 14 to 19: nothing is changed", UNTOUCHED, () -> Busy.whole(all));
    DUE.is("Promises 14 to 19: nothing is changed", UNTOUCHED, () -> Busy.whole(again));
  }

  private static void telling() {
    tells("Promise 5: errorAt", LoftPost::errorAt);
    for (int what = 0; what < 12; what++) {
      int asked = what;
      tells("Promise 6: count " + what, post -> post.count(asked));
    }
    for (int what = 0; what < 8; what++) {
      int asked = what;
      tells("Promise 7: loft " + what, post -> post.loft(4, asked));
      tells("Promise 8: pigeon " + what, post -> post.pigeon(4, asked));
      tells("Promise 10: letter " + what, post -> post.letter(2, asked));
    }
    for (int what = 0; what < 5; what++) {
      int asked = what;
      tells("Promise 9: hawk " + what, post -> post.hawk(0, asked));
    }
  }
}
