import java.math.BigInteger;

/** Promises 14 to 21: looking ahead. */
public final class AheadTest {
  private static final Due DUE = new Due();
  private static final int LEAST = Integer.MIN_VALUE;
  private static final int MOST = Integer.MAX_VALUE;

  public static void main(String[] args) {
    foreseeing();
    foreseenComesTrue();
    arriving();
    arrivingAtTheLimit();
    loftsAhead();
    blaming();
    blamingAtTheLimit();
    doubling();
    doublingForOthers();
    doublingAtTheLimit();
    needing();
    meaning();
    digesting();
    nothingIsChanged();
    DUE.end();
  }

  /** That a call refuses every number that is none of a letter (or loft), where there are two. */
  private interface Numbered {
    Object answer(int number);
  }

  private static void noSuch(String name, LoftPost post, Numbered call) {
    for (int number : new int[] {2, -1, LEAST, MOST}) {
      DUE.refuses(name + " " + number, Due.OUT, post, () -> call.answer(number));
    }
  }

  private static final String TWO = "loft a at 0,0; loft b at 12,0; pigeon p of b in a speed 4;"
      + "pigeon q of b in a speed 2; hawk at 4,0 reach 0 rests 3; letter k in a by p;"
      + "letter l in a by q;";

  private static void foreseeing() {
    LoftPost post = Due.post(TWO);
    // p is caught in the hour 1, q is at 4,0 while the hawk rests, and comes in the hour 6.
    DUE.is("hour 1", "0 1 1", () -> post.foresee(1, 0) + " " + post.foresee(1, 1) + " "
        + post.foresee(1, 2));
    DUE.is("hour 5", "0 1 1", () -> post.foresee(5, 0) + " " + post.foresee(5, 1) + " "
        + post.foresee(5, 2));
    DUE.is("hour 6", "1 1 1", () -> post.foresee(6, 0) + " " + post.foresee(6, 1) + " "
        + post.foresee(6, 2));
    DUE.is("hour 200", "1 1 1", () -> post.foresee(200, 0) + " " + post.foresee(200, 1) + " "
        + post.foresee(200, 2));
    post.pass(3);
    DUE.is("hour 3 and 2", 0, () -> post.foresee(2, 0));
    DUE.is("hour 3 and 3", 1, () -> post.foresee(3, 0));
    for (int hours : new int[] {0, -1, 201, LEAST, MOST}) {
      DUE.refuses("foresee " + hours + ",0", Due.ILLEGAL, post, () -> post.foresee(hours, 0));
      DUE.refuses("foresee " + hours + ",3", Due.ILLEGAL, post, () -> post.foresee(hours, 3));
    }
    for (int what : new int[] {-1, 3, LEAST, MOST}) {
      DUE.refuses("foresee 1," + what, Due.OUT, post, () -> post.foresee(1, what));
    }
  }

  private static void foreseenComesTrue() {
    String text = "loft a at 0,0 then 9,30 speed 3; loft b at 40,0 then 3,40 then 9,9 speed 2;"
        + "pigeon p of b in a speed 4 sight 9; pigeon q of b in a speed 3;"
        + "pigeon r of a in b speed 5; hawk at 20,20 reach 9 rests 9; hawk at 9,9 reach 3;"
        + "letter k in a by p and q, r; letter l in b by r,p; letter m in a by q,r;";
    for (int hours = 1; hours <= 200; hours += hours < 40 ? 1 : 40) {
      int passed = hours;
      LoftPost post = Due.post(text);
      LoftPost later = Due.post(text);
      later.pass(hours);
      DUE.is("arrived behind " + hours, later.count(8), () -> post.foresee(passed, 0));
      DUE.is("lost behind " + hours, later.count(9), () -> post.foresee(passed, 1));
      DUE.is("gone behind " + hours, later.count(7), () -> post.foresee(passed, 2));
      DUE.is("a behind " + hours, 64 * later.loft(0, 1) + later.loft(0, 0),
          () -> post.where(0, passed));
    }
  }

  private static void arriving() {
    LoftPost post = Due.post(TWO);
    DUE.is("k", -1, () -> post.arrives(0));
    DUE.is("l", 6, () -> post.arrives(1));
    post.pass(4);
    DUE.is("l, hour 4", 2, () -> post.arrives(1));
    post.pass(2);
    DUE.is("l has arrived", 0, () -> post.arrives(1));
    post.pass(2);
    DUE.is("l has arrived long ago", 0, () -> post.arrives(1));
    DUE.is("k is lost", -1, () -> post.arrives(0));
    noSuch("arrives", post, post::arrives);
  }

  /** Four stages of 63 hours, and one of so many: arrives behind 252 hours more than these. */
  private static String chain(int hours) {
    return "loft a at 0,0; loft b at 63,63; loft c at " + hours + ",0;"
        + "pigeon p0 of b in a speed 1; pigeon p1 of a in b speed 1; pigeon p2 of b in a speed 1;"
        + "pigeon p3 of a in b speed 1; pigeon p4 of c in a speed 1;"
        + "hawk at 5,60 reach 0; hawk at " + (hours - 1) + ",0 reach 0; hawk at 3,0 reach 0 rests 24;"
        + "letter l in a by p0,p1,p2,p3,p4;";
  }

  /** The chain without the hawks that catch its last pigeon. */
  private static LoftPost freeChain(int hours) {
    LoftPost post = Due.post(chain(hours));
    post.lure(1, 5, 60);
    post.lure(2, 5, 60);
    return post;
  }

  private static void arrivingAtTheLimit() {
    DUE.is("behind 300", 300, () -> freeChain(48).arrives(0));
    DUE.is("behind 301", -1, () -> freeChain(49).arrives(0));
    LoftPost post = freeChain(49);
    post.pass(1);
    DUE.is("behind 300, an hour later", 300, () -> post.arrives(0));
    DUE.is("it arrives then", 0, () -> post.pass(200) + post.pass(99));
    DUE.is("it arrives now", 1, () -> post.pass(1));
  }

  private static void loftsAhead() {
    LoftPost post = Due.post("loft a at 3,7; loft b at 0,0 then 63,63 speed 1;");
    DUE.is("a, 500", 64 * 7 + 3, () -> post.where(0, 500));
    DUE.is("b, 0", 0, () -> post.where(1, 0));
    DUE.is("b, 1", 65, () -> post.where(1, 1));
    DUE.is("b, 63", 65 * 63, () -> post.where(1, 63));
    DUE.is("b, 64", 65 * 62, () -> post.where(1, 64));
    DUE.is("b, 126", 0, () -> post.where(1, 126));
    DUE.is("b, 500", 65 * 4, () -> post.where(1, 500));
    post.pass(4);
    DUE.is("b, 0, hour 4", 65 * 4, () -> post.where(1, 0));
    DUE.is("b, 500, hour 4", 0, () -> post.where(1, 500));
    noSuch("where", post, number -> post.where(number, 0));
    noSuch("where, wrong hours", post, number -> post.where(number, 501));
    for (int hours : new int[] {-1, 501, LEAST, MOST}) {
      DUE.refuses("where 0," + hours, Due.ILLEGAL, post, () -> post.where(0, hours));
    }
  }

  private static String path(String hawks, String letter) {
    return "loft a at 0,0; loft b at 20,0; pigeon p of b in a speed 2; pigeon q of b in a speed 5;"
        + hawks + letter;
  }

  private static int blamed(String hawks, String letter) {
    return Due.post(path(hawks, letter)).blame(0);
  }

  private static void blaming() {
    String both = "letter l in a by p and q;";
    String alone = "letter l in a by p;";
    DUE.is("no hawk", -1, () -> blamed("", both));
    DUE.is("no hawk catches", -1, () -> blamed("hawk at 3,0 reach 0;", alone));
    DUE.is("the second hawk", 1, () -> blamed("hawk at 3,0 reach 0; hawk at 4,0 reach 0;", alone));
    DUE.is("each of two would do", -1,
        () -> blamed("hawk at 2,0 reach 0; hawk at 4,0 reach 0;", alone));
    DUE.is("it arrives later with the hawk", 0, () -> blamed("hawk at 5,0 reach 0;", both));
    DUE.is("it arrives as early with the hawk", -1, () -> blamed("hawk at 2,0 reach 0;", both));
    // Without the first one p arrives in the hour 10, without the second one q in the hour 4.
    DUE.is("the earliest", 1, () -> blamed("hawk at 2,0 reach 0; hawk at 5,0 reach 0;", both));
    // Each of the two lets q through, if the other one is not there.
    DUE.is("the smallest number", 1, () -> Due.post("loft a at 0,0; loft b at 20,0;"
        + "pigeon p of b in a speed 2; pigeon q of b in a speed 2; hawk at 9,9 reach 0;"
        + "hawk at 2,0 reach 0; hawk at 4,0 reach 0;" + both).blame(0));
    // A hawk that rests is not to blame for what it does not catch, but for what it caught no more.
    LoftPost post = Due.post(path("hawk at 2,0 reach 0;", "letter k in a by p; letter l in a by q;"));
    DUE.is("k", 0, () -> post.blame(0));
    DUE.is("l", -1, () -> post.blame(1));
    post.pass(1);
    DUE.is("k is lost", -1, () -> post.blame(0));
    post.pass(9);
    DUE.is("l has arrived", -1, () -> post.blame(1));
    noSuch("blame", post, post::blame);
  }

  private static void blamingAtTheLimit() {
    LoftPost late = Due.post(chain(48));
    late.lure(2, 5, 60);
    DUE.is("arrives with the hawk", -1, () -> late.arrives(0));
    DUE.is("behind 300 without it", 1, () -> late.blame(0));
    LoftPost tooLate = Due.post(chain(49));
    tooLate.lure(2, 5, 60);
    DUE.is("behind 301 without it", -1, () -> tooLate.blame(0));
    DUE.is("each of two would do", -1, () -> Due.post(chain(48)).blame(0));
  }

  private static int needed(String text) {
    return Due.post("loft a at 0,0; loft b at 20,0; " + text).doubles(0);
  }

  private static void doubling() {
    String three = "pigeon p of b in a speed 2; pigeon q of b in a speed 2;"
        + "pigeon r of b in a speed 2;";
    String all = "letter l in a by p and q and r;";
    DUE.is("one", 1, () -> needed(three + all));
    DUE.is("two", 2, () -> needed(three + "hawk at 2,0 reach 0 rests 9;" + all));
    DUE.is("three", 3, () -> needed(three + "hawk at 2,0 reach 0; hawk at 4,0 reach 0;" + all));
    DUE.is("not even three", -1, () -> needed(three + "hawk at 2,0 reach 0; hawk at 4,0 reach 0;"
        + "hawk at 6,0 reach 0;" + all));
    DUE.is("none sets out", -1, () -> needed("pigeon p of b; letter l in a by p;"));
    // r is caught, q comes: it counts which one stands first in the stage.
    String unlike = "pigeon r of b in a speed 3; pigeon q of b in a speed 2; hawk at 3,0 reach 0;";
    DUE.is("r first", 2, () -> needed(unlike + "letter l in a by r and q;"));
    DUE.is("q first", 1, () -> needed(unlike + "letter l in a by q and r;"));
    // The stage is enough: that the letter is lost behind it does not count.
    LoftPost post = Due.post("loft a at 0,0; loft b at 20,0; pigeon p of b in a speed 10;"
        + "pigeon s of a; letter k in a by p,s; letter l in a by s;");
    DUE.is("its stage", 1, () -> post.doubles(0));
    post.pass(1);
    DUE.is("p flies, and none sets out", -1, () -> post.doubles(0));
    DUE.is("l has arrived", 0, () -> post.doubles(1));
    post.pass(1);
    DUE.is("the next stage", -1, () -> post.doubles(0));
    post.bring(1, 1);
    DUE.is("the next stage, with a pigeon", 1, () -> post.doubles(0));
    noSuch("doubles", post, post::doubles);
    // With a double on its way already one more is enough, whatever becomes of it.
    LoftPost later = Due.post("loft a at 0,0; loft b at 20,0; loft c at 0,20;"
        + "pigeon p of b in a speed 3; pigeon q of b in c speed 2; hawk at 2,0 reach 0;"
        + "letter l in a by p and q;");
    later.pass(1);
    later.bring(1, 0);
    DUE.is("with p on its way", 1, () -> later.doubles(0));
  }

  private static void doublingForOthers() {
    // The letter k takes p, so that only q would set out with l.
    LoftPost post = Due.post("loft a at 0,0; loft b at 20,0; pigeon p of b in a speed 2;"
        + "pigeon q of b in a speed 2; letter k in a by p; letter l in a by p and q;");
    DUE.is("k", 1, () -> post.doubles(0));
    DUE.is("l", 1, () -> post.doubles(1));
    // r of another letter stays, and is caught in the place of the first double.
    LoftPost other = Due.post("loft a at 0,0; loft b at 20,0; pigeon r of b in a speed 2;"
        + "pigeon p of b in a speed 2; pigeon q of b in a speed 2; hawk at 2,0 reach 0;"
        + "letter k in a by p and q; letter l in a by r;");
    DUE.is("with r", 1, () -> other.doubles(0));
    DUE.is("r itself", -1, () -> other.doubles(1));
  }

  private static void doublingAtTheLimit() {
    LoftPost right = Due.post("loft a at 0,0; loft b at 49,31 then 5,26 then 48,25 then 37,52 speed 2;"
        + "pigeon p of b in a speed 1 sight 6; letter l in a by p;");
    DUE.is("arrives behind 100", 100, () -> right.arrives(0));
    DUE.is("comes behind 100", 1, () -> right.doubles(0));
    LoftPost late = Due.post("loft a at 0,0; loft b at 61,29 then 37,62 then 20,20 then 28,35 speed 1;"
        + "pigeon p of b in a speed 1 sight 13; letter l in a by p;");
    DUE.is("arrives behind 101", 101, () -> late.arrives(0));
    DUE.is("comes behind 101", -1, () -> late.doubles(0));
  }

  private static void needing() {
    String world = "loft a at 0,0; loft b at 20,0; pigeon p of b in a speed 10; pigeon s of b;"
        + "pigeon r of a; ";
    DUE.is("no letter", -1, () -> Due.post(world).need());
    DUE.is("it arrives", -1, () -> Due.post(world + "letter l in a by p;").need());
    DUE.is("the lost one", 1,
        () -> Due.post(world + "letter k in a by p,s; letter l in a by s;").need());
    DUE.is("the most stages", 2, () -> Due.post(world
        + "letter k in a by s; letter l in a by s,s; letter m in a by s,p,p;").need());
    DUE.is("the smallest number", 1, () -> Due.post(world
        + "letter k in a by s; letter l in a by s,p; letter m in a by s,p;").need());
    // The stages that are left count, and those behind it do not.
    LoftPost post = Due.post(world + "letter k in a by p,r,p; letter l in a by s,p;");
    DUE.is("three stages left", 0, post::need);
    post.pass(2);
    DUE.is("two and two stages left", 0, post::need);
    LoftPost other = Due.post(world + "letter k in a by r,r,p,r; letter l in a by s,p,p;");
    DUE.is("four stages left", 0, other::need);
    other.pass(2);
    DUE.is("two stages left, and three", 1, other::need);
    DUE.is("behind 300", -1, () -> freeChain(48).need());
    DUE.is("behind 301", 0, () -> freeChain(49).need());
  }

  private static void meaning() {
    LoftPost post = Due.post("loft a at 0,0; loft b at 20,0; pigeon p of b in a speed 10;"
        + "pigeon q of b in a speed 4; pigeon r of b in a speed 5; letter k in a by p;"
        + "letter l in a by q; letter m in a by r;");
    DUE.is("none", 0.0, post::mean);
    post.pass(1);
    DUE.is("none yet", 0.0, post::mean);
    post.pass(1);
    DUE.is("1", 1.0, post::mean);
    post.pass(2);
    DUE.is("1 and 3", 2.0, post::mean);
    post.pass(5);
    DUE.is("1 and 3 and 4", 8.0 / 3.0, post::mean);
    Due.tell(post, "loft a at 0,0; pigeon r of a; letter k in a by r;");
    DUE.is("none of those told now", 0.0, post::mean);
    post.pass(1);
    DUE.is("9", 9.0, post::mean);
    LoftPost first = Due.post("loft a at 0,0; pigeon r of a; letter k in a by r;");
    first.pass(1);
    DUE.is("the hour 0", 0.0, first::mean);
  }

  private static long folded(LoftPost post) {
    BigInteger d = BigInteger.valueOf(733);
    BigInteger by = BigInteger.valueOf(31);
    for (int what = 0; what < 12; what++) {
      d = d.multiply(by).add(BigInteger.valueOf(post.count(what)));
    }
    int[] whats = {8, 8, 5, 8};
    for (int group = 0; group < 4; group++) {
      for (int i = 0; i < post.count(group + 1); i++) {
        for (int what = 0; what < whats[group]; what++) {
          int told = switch (group) {
            case 0 -> post.loft(i, what);
            case 1 -> post.pigeon(i, what);
            case 2 -> post.hawk(i, what);
            default -> post.letter(i, what);
          };
          d = d.multiply(by).add(BigInteger.valueOf(told));
        }
      }
    }
    return d.longValue();
  }

  private static void digesting() {
    LoftPost post = new LoftPost();
    DUE.is("new", BigInteger.valueOf(733).multiply(BigInteger.valueOf(31).pow(12)).longValue(),
        post::digest);
    Due.tell(post, TWO);
    for (int hour = 0; hour < 9; hour++) {
      DUE.is("digest, hour " + hour, folded(post), post::digest);
      post.pass(1);
    }
    post.feed(0, 0, 0, 0, 0);
    DUE.is("digest with a tape", folded(post), post::digest);
  }

  private static void nothingIsChanged() {
    LoftPost post = Due.post(chain(48));
    for (int hour = 0; hour < 400; hour += 50) {
      long before = post.digest();
      for (int what = 0; what < 3; what++) {
        post.foresee(200, what);
      }
      post.arrives(0);
      post.where(1, 500);
      post.blame(0);
      post.doubles(0);
      post.need();
      post.mean();
      post.digest();
      DUE.is("the digest behind looking ahead, hour " + hour, before, post::digest);
      post.pass(50);
    }
    // What was looked at ahead leaves nothing in what comes.
    LoftPost plain = Due.post(chain(48));
    plain.pass(200);
    plain.pass(200);
    DUE.is("the digest of one that never looked ahead", plain.digest(), post::digest);
  }
}
