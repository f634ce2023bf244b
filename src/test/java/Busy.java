/** A post in the midst of all that can go on, for calls that have to change nothing. */
final class Busy {
  /** As many lofts, pigeons, hawks and letters as the document allows. */
  static final String TEXT = "loft l0 at 0,0;loft l1 at 30,0;loft l2 at 30,30 then 30,40 speed 1;"
      + "loft l3 at 0,30;loft l4 at 10,10 then 40,10 then 40,50 speed 5;loft l5 at 63,63;"
      + "pigeon p0 of l1 in l0;pigeon p1 of l1 in l0 speed 10;pigeon p2 of l1 in l0 speed 1;"
      + "pigeon p3 of l0 in l1 speed 2;pigeon p4 of l4 in l0 speed 6 sight 0;"
      + "pigeon p5 of l5 in l3 speed 1;pigeon p6 of l5;pigeon p7 of l1 in l2;"
      + "pigeon p8 of l2 in l1;pigeon p9 of l3 in l5 speed 1;pigeon p10 of l3 in l5 speed 20;"
      + "pigeon p11 of l5 in l3 speed 5;pigeon p12 of l2;pigeon p13 of l4;pigeon p14 of l4;"
      + "pigeon p15 of l0 in l4 speed 3 sight 20;pigeon p16 of l2 in l3 speed 3 sight 1;"
      + "pigeon p17 of l3 in l0 speed 2;pigeon p18 of l3 in l0 speed 2;pigeon p19 of l0;"
      + "hawk at 4,34 reach 3 rests 24;hawk at 0,20 reach 1 rests 2;hawk at 63,0 reach 0;"
      + "hawk at 40,62 reach 2 rests 9;hawk at 20,20 reach 1;hawk at 1,1 reach 0;"
      + "letter t0 in l0 by p0;letter t1 in l0 by p1 and p2,p3;letter t2 in l0 by p4;"
      + "letter t3 in l3 by p5;letter t4 in l0 by p6;letter t5 in l2 by p7,p8,p7;"
      + "letter t6 in l5 by p9 and p10,p11;letter t7 in l2 by p12,p12,p12,p12;"
      + "letter t8 in l4 by p13 and p14;letter t9 in l4 by p15;letter t10 in l3 by p16;"
      + "letter t11 in l0 by p17 and p18;";

  /** What stands on the tape of the busy post: a text that would be read without an error. */
  static final String TAPE = "loft z at 7,8;hawk at 9,10 reach 11;";

  private static final int HOURS_GONE_BY = 7;
  private static final int HOURS_SHOWN = 80;

  private Busy() {
  }

  static LoftPost post() {
    LoftPost post = Due.post(TEXT);
    post.pass(HOURS_GONE_BY);
    Due.feed(post, TAPE);
    return post;
  }

  /** The busy post with a full tape. */
  static LoftPost fullPost() {
    LoftPost post = post();
    Due.feed(post, " ".repeat(4));
    Due.feed(post, " ".repeat(2000 - post.count(11)));
    return post;
  }

  /** All that can be told of a post, and what becomes of it; errorAt() comes first. */
  static String whole(LoftPost post) {
    StringBuilder shown = new StringBuilder();
    shown.append(post.errorAt()).append("; ").append(post.digest());
    for (int hour = 0; hour < HOURS_SHOWN; hour++) {
      shown.append(' ').append(post.pass(1)).append(' ').append(post.digest());
    }
    shown.append(' ').append(post.mean()).append(' ').append(post.teach());
    shown.append(' ').append(post.errorAt()).append(' ').append(post.digest());
    return shown.toString();
  }
}
