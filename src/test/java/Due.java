import java.nio.charset.StandardCharsets;

/** What the tests share: telling a text to a post, and comparing answers with those that are due. */
final class Due {
  static final String OUT = "throws.IndexOutOfBoundsException";
  static final String ILLEGAL = "throws.IllegalArgumentException";
  static final String STATE = "throws.IllegalStateException";

  interface Call {
    Object answer();
  }

  private int wrong;
  private int asked;

  /** The answer of a call, or "throws." and the name of the exception. */
  static String answer(Call call) {
    try {
      return String.valueOf(call.answer());
    } catch (RuntimeException e) {
      return "throws." + e.getClass().getSimpleName();
    }
  }

  void is(String what, Object want, Call call) {
    String got = answer(call);
    asked++;
    if (!got.equals(String.valueOf(want))) {
      wrong++;
      System.out.println(what + " answered " + got + ", due is " + want);
    }
  }

  /** That the call throws this, and that the digest stays. */
  void refuses(String what, String want, LoftPost post, Call call) {
    long before = post.digest();
    int error = post.errorAt();
    is(what, want, call);
    is(what + ", then digest()", before, post::digest);
    is(what + ", then errorAt()", error, post::errorAt);
  }

  /** Ends the program with 1 if an answer was wrong. */
  void end() {
    System.out.println(asked + " answers, " + wrong + " of them wrong");
    if (wrong != 0 || asked == 0) {
      System.exit(1);
    }
  }

  interface Asked {
    int answer(int what);
  }

  /** What a call answers for 0, 1 and so on. */
  void all(String name, Asked asked, int... due) {
    for (int what = 0; what < due.length; what++) {
      int number = what;
      is(name + ", what " + what, due[what], () -> asked.answer(number));
    }
  }

  /** Reads the text on a new post; position -1 says that it has no error. */
  void reads(String what, String text, int error, int position) {
    LoftPost post = new LoftPost();
    feed(post, text);
    is(what + ": teach() of " + text, error, post::teach);
    is(what + ": errorAt() of " + text, position, post::errorAt);
    is(what + ": count(11) behind " + text, 0, () -> post.count(11));
  }

  void right(String what, String text) {
    reads(what, text, 0, -1);
  }

  /** The error is at the place of the bar, which is no part of the text. */
  void wrong(String what, int error, String marked) {
    int at = marked.indexOf('|');
    reads(what, marked.substring(0, at) + marked.substring(at + 1), error, at);
  }

  static int number(byte[] bytes, int at) {
    int number = 0;
    for (int i = at; i < at + 4; i++) {
      number = number << 8 | (i < bytes.length ? bytes[i] & 255 : ' ');
    }
    return number;
  }

  /** Feeds a text (its signs are bytes) and trims what stands behind it. */
  static void feed(LoftPost post, String text) {
    byte[] bytes = text.getBytes(StandardCharsets.ISO_8859_1);
    int before = post.count(11);
    for (int at = 0; at < bytes.length; at += 20) {
      post.feed(number(bytes, at), number(bytes, at + 4), number(bytes, at + 8),
          number(bytes, at + 12), number(bytes, at + 16));
    }
    post.trim(before + bytes.length);
  }

  static int tell(LoftPost post, String text) {
    feed(post, text);
    return post.teach();
  }

  static LoftPost post(String text) {
    LoftPost post = new LoftPost();
    int error = tell(post, text);
    if (error != 0) {
      throw new IllegalStateException("error " + error + " at " + post.errorAt() + " of " + text);
    }
    return post;
  }
}
