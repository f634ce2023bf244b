/** Promises 1 to 6, and section 1 of the document. */
public final class LanguageTest {
  private static final Due DUE = new Due();
  private static final String LOFTS = "loft a at 1,2; loft b at 3,4; ";
  private static final String BIRDS = LOFTS + "pigeon p of a; pigeon q of a; pigeon r of b; ";

  public static void main(String[] args) {
    newObject();
    feeding();
    trimming();
    rightTexts();
    defaults();
    tokenErrors();
    grammarErrors();
    cutOffLines();
    longestText();
    nameErrors();
    numberErrors();
    stageErrors();
    tooMany();
    whichErrorIsTold();
    teachingAnew();
    counting();
    DUE.end();
  }

  private static void reads(String text, int error, int position) {
    DUE.reads("text", text, error, position);
  }

  private static void right(String text) {
    DUE.right("right", text);
  }

  private static void wrong(int error, String marked) {
    DUE.wrong("wrong", error, marked);
  }

  private static void newObject() {
    LoftPost post = new LoftPost();
    for (int what = 0; what < 12; what++) {
      int asked = what;
      DUE.is("new: count " + what, 0, () -> post.count(asked));
    }
    DUE.is("new: errorAt", -1, post::errorAt);
    DUE.is("new: need", -1, post::need);
    DUE.is("new: mean", 0.0, post::mean);
    DUE.is("new: pass", 0, () -> post.pass(200));
    DUE.is("new: hour", 200, () -> post.count(0));
    DUE.refuses("new: loft", Due.OUT, post, () -> post.loft(0, 0));
  }

  private static void feeding() {
    LoftPost post = new LoftPost();
    DUE.is("feed", 20, () -> post.feed(0x6c6f6674, 0x20612061, 0x7420352c, 0x363b2020, 0x20202020));
    DUE.is("feed: teach", 0, post::teach);
    DUE.is("feed: the highest byte first", "5 6", () -> post.loft(0, 0) + " " + post.loft(0, 1));
    for (int i = 1; i <= 100; i++) {
      int fed = 20 * i;
      DUE.is("feed " + i, fed, () -> post.feed(0x20202020, -1, Integer.MIN_VALUE, 0, 1));
    }
    DUE.refuses("feed 101", Due.STATE, post, () -> post.feed(1, 2, 3, 4, 5));
    DUE.is("trim 1981", 1981, () -> post.trim(1981));
    DUE.refuses("feed beyond 2000", Due.STATE, post, () -> post.feed(1, 2, 3, 4, 5));
    DUE.is("trim 1980", 1980, () -> post.trim(1980));
    DUE.is("feed to 2000", 2000, () -> post.feed(1, 2, 3, 4, 5));
    DUE.is("a byte 255", 1, post::teach);
    DUE.is("a byte 255 is no token", 4, post::errorAt);
    DUE.is("the tape is empty again", 20, () -> post.feed(1, 2, 3, 4, 5));
  }

  private static void trimming() {
    LoftPost post = new LoftPost();
    DUE.is("trim 0", 0, () -> post.trim(0));
    DUE.refuses("trim 1", Due.ILLEGAL, post, () -> post.trim(1));
    post.feed(0, 0, 0, 0, 0);
    DUE.refuses("trim -1", Due.ILLEGAL, post, () -> post.trim(-1));
    DUE.refuses("trim 21", Due.ILLEGAL, post, () -> post.trim(21));
    DUE.refuses("trim least", Due.ILLEGAL, post, () -> post.trim(Integer.MIN_VALUE));
    DUE.refuses("trim most", Due.ILLEGAL, post, () -> post.trim(Integer.MAX_VALUE));
    DUE.is("trim 20", 20, () -> post.trim(20));
    DUE.is("trim 7", 7, () -> post.trim(7));
    DUE.is("count 11", 7, () -> post.count(11));
    DUE.is("feed behind a trim", 27, () -> post.feed(0, 0, 0, 0, 0));
  }

  private static void rightTexts() {
    right("");
    right(" \n\n ");
    right("loft a at 1,2;");
    right("\nloft\na\nat\n1\n,\n2\n;\n");
    right("loft a at 0,63then 63,0then 5,5speed 5;");
    right("loft a at 000001,000063;");
    right("loft abcdefghij at 1,2;");
    right("loft a123456789 at 1,2;");
    right("loft at1 at 1,2;");
    right("loft zaz at 1,2; pigeon zz of zaz; loft a09z90 at 1,2; loft a09 at 09,19;");
    right("loft a at 1,2;pigeon a of a;letter a in a by a;");
    right(BIRDS + "letter l in b by p and q,r,p,q and p;");
    right("hawk at 0,0 reach 0; hawk at 63,63 reach 20 rests 24;");
    right(LOFTS + "pigeon p of a in b speed 1 sight 0; pigeon q of b speed 20 sight 20;");
  }

  private static void defaults() {
    LoftPost post = Due.post(BIRDS + "hawk at 9,1 reach 2; letter l in a by p;");
    DUE.is("a loft's speed without one", 0, () -> post.loft(0, 2));
    DUE.is("a pigeon is in its home without in", 1, () -> post.pigeon(2, 4));
    // Speed 8 and sight 3 without others, rests 4 without it: seen in what hours do.
    LoftPost speed = Due.post("loft a at 0,0; loft b at 50,0; pigeon p of b in a;"
        + "hawk at 24,0 reach 0; letter l in a by p;");
    speed.pass(2);
    DUE.is("a pigeon's speed without one", 16, () -> speed.pigeon(0, 1));
    speed.pass(1);
    DUE.is("a hawk's rests without one", 4, () -> speed.hawk(0, 3));
  }

  private static void tokenErrors() {
    wrong(1, "loft |abcdefghijk at 1,2;");
    wrong(1, "|abcdefghijk");
    wrong(1, "loft a at |1234567,2;");
    wrong(1, "loft a at |0000001,2;");
    wrong(1, "loft |A at 1,2;");
    wrong(1, "loft a|B at 1,2;");
    wrong(1, "loft a at 1,2|.");
    wrong(1, "loft a at |-1,2;");
    wrong(1, "loft a at 1,2;|\t");
    wrong(1, "loft a at 1,2;|\r\n");
    wrong(1, "|\0");
    wrong(1, "loft a at 1,2;|\u00e1");
    wrong(1, "loft a |at1,2;");
    wrong(1, "loft a |atspeed 1,2;");
    wrong(1, "loft |1a at 1,2;");
    wrong(1, "loft a at 1,2|`;");
    wrong(1, "loft a at 1,2|{;");
    wrong(1, "loft a at 1,2|/;");
    wrong(1, "loft a at 1,2|:;");
  }

  private static void grammarErrors() {
    wrong(1, "|;");
    wrong(1, "|a");
    wrong(1, "loft a at 1,2;|;");
    wrong(1, "loft|");
    wrong(1, "loft  \n|");
    wrong(1, "loft a at 1,2|");
    wrong(1, "loft a at 1,2 |hawk");
    wrong(1, "loft |loft at 1,2;");
    wrong(1, "loft |and at 1,2;");
    wrong(1, "loft a |1,2;");
    wrong(1, "loft a at 1|;");
    wrong(1, "loft a at 1 |2;");
    wrong(1, "loft a at 1,|;");
    wrong(1, "loft a at 1,2 then|;");
    wrong(1, "loft a at 1,2 speed|;");
    wrong(1, "loft a at 1,2 speed 3 |then 1,2;");
    wrong(1, "loft a at 1,2 speed 3 |speed 3;");
    wrong(1, "pigeon p |in a;");
    wrong(1, "pigeon p of |1;");
    wrong(1, "pigeon p of a speed 3 |in a;");
    wrong(1, "pigeon p of a sight 3 |speed 3;");
    wrong(1, "pigeon p of a in a |in a;");
    wrong(1, "hawk |h at 1,1 reach 1;");
    wrong(1, "hawk at 1,1|;");
    wrong(1, "hawk at 1,1 |rests 1;");
    wrong(1, "hawk at 1,1 reach 1 rests|;");
    wrong(1, "letter l |of a by p;");
    wrong(1, "letter l in a by|;");
    wrong(1, "letter l in a by p,|;");
    wrong(1, "letter l in a by p and|;");
    wrong(1, "letter l in a by p |q;");
    wrong(1, "letter l in a by p and q,|and r;");
    wrong(1, "letter l in a|;");
    // One token left out.
    wrong(1, "loft |at 1,2;");
    wrong(1, "loft a at |,2;");
    wrong(1, "loft a at 1,2 |3,4;");
    wrong(1, "loft a at 1,2 |3;");
    wrong(1, "pigeon |of a;");
    wrong(1, "pigeon p |a;");
    wrong(1, "pigeon p of |in a;");
    wrong(1, "pigeon p of a |a;");
    wrong(1, "pigeon p of a in |speed 1;");
    wrong(1, "pigeon p of a |5;");
    wrong(1, "pigeon p of a speed |sight 5;");
    wrong(1, "hawk |1,2 reach 3;");
    wrong(1, "hawk at |reach 3;");
    wrong(1, "hawk at 1,2 |3;");
    wrong(1, "hawk at 1,2 reach |rests 4;");
    wrong(1, "hawk at 1,2 reach 3 |4;");
    wrong(1, "letter |in a by p;");
    wrong(1, "letter l |a by p;");
    wrong(1, "letter l in |by p;");
    wrong(1, "letter l in a |p;");
    wrong(1, "letter l in a by |and p;");
    wrong(1, "letter l in a by |, p;");
    wrong(1, "letter l in a by p |p;");
    wrong(1, "|a at 1,2;");
  }

  /** Each line, cut off by a semicolon or by the end where it can't end. */
  private static void cutOffLines() {
    String[] lines = {"loft a at 1 , 2 then 3 , 4 speed 5", "pigeon p of a in a speed 5 sight 5",
        "hawk at 1 , 2 reach 3 rests 4", "letter l in a by p and p , p and p"};
    String ends = "loft a at 1,2;loft a at 1,2 then 3,4;loft a at 1,2 then 3,4 speed 5;"
        + "pigeon p of a;pigeon p of a in a;pigeon p of a in a speed 5;"
        + "pigeon p of a in a speed 5 sight 5;hawk at 1,2 reach 3;hawk at 1,2 reach 3 rests 4;"
        + "letter l in a by p;letter l in a by p and p;letter l in a by p and p,p;"
        + "letter l in a by p and p,p and p;";
    for (String line : lines) {
      StringBuilder part = new StringBuilder();
      for (String token : line.split(" ")) {
        part.append(part.length() == 0 ? "" : " ").append(token);
        String told = part.toString().replace(" , ", ",") + ";";
        if (!(";" + ends).contains(";" + told)) {
          wrong(1, part + "|;");
          wrong(1, part + "|");
          wrong(1, part + " |loft");
        }
      }
    }
  }

  private static void longestText() {
    StringBuilder text = new StringBuilder();
    for (int i = 0; i < 6; i++) {
      text.append("loft l").append(i).append(" at 1,1");
      text.append(" then 1,1 then 1,1 then 1,1 then 1,1 then 1,1 speed 1;");
    }
    for (int i = 0; i < 19; i++) {
      text.append("pigeon p").append(i).append(" of l0 in l0 speed 1 sight 2;");
    }
    text.append("pigeon q of l0 speed 1 sight 2;hawk at 1,1 reach 1;");
    // 6 * 29 + 19 * 11 + 9 + 8 = 400 tokens.
    right(text.toString());
    right(text + "  \n");
    wrong(1, text + "|hawk");
    wrong(1, text + " |; ");
    wrong(1, text + "\n|\u00ff");
    wrong(1, text.substring(0, text.length() - 1) + " rests |4;");
    // Exactly 2000 bytes.
    right(text + " ".repeat(2000 - text.length()));
    wrong(1, text.substring(0, text.length() - 1) + " ".repeat(2001 - text.length()) + "|");
    // The end at the length is told, though 400 tokens are there already.
    wrong(1, text.substring(0, text.length() - 1) + " rests  |");
    // An error 4 is there long before; error 1 goes ahead of it.
    reads("hawk at 1,1 reach 1;".repeat(50), 4, 120);
    reads("hawk at 1,1 reach 1;".repeat(50) + "hawk", 1, 1000);
    reads("hawk at 1,1 reach 1;".repeat(49) + "hawk at 1,1 reach 1 ", 1, 1000);
  }

  private static void nameErrors() {
    wrong(2, "loft a at 1,2; loft |a at 3,4;");
    wrong(2, BIRDS + "pigeon |q of a;");
    wrong(2, BIRDS + "letter l in a by p; letter |l in a by p;");
    wrong(3, "pigeon p of |a;");
    wrong(3, "pigeon p of |a; loft a at 1,2;");
    wrong(3, LOFTS + "pigeon p of a in |p;");
    wrong(3, LOFTS + "pigeon p of a in |c;");
    wrong(3, LOFTS + "pigeon p of |ab;");
    wrong(3, "loft ab at 1,1; pigeon p of |a;");
    wrong(3, BIRDS + "letter l in |p by p;");
    wrong(3, BIRDS + "letter l in a by |a;");
    wrong(3, BIRDS + "letter l in a by |l;");
    wrong(3, BIRDS + "letter l in a by p and |s;");
    wrong(3, BIRDS + "letter l in a by p, |s; pigeon s of a;");
    // Names told before are forgotten.
    LoftPost post = Due.post(LOFTS);
    DUE.is("a loft told before", 3, () -> Due.tell(post, "pigeon p of a;"));
    DUE.is("a loft told before is free", 0, () -> Due.tell(post, "loft a at 1,1;"));
  }

  private static void numberErrors() {
    wrong(5, "loft a at |64,0;");
    wrong(5, "loft a at 0,|64;");
    wrong(5, "loft a at 0,0 then |999999,0;");
    wrong(5, "loft a at 0,0 then 63,|100;");
    wrong(5, "loft a at 0,0 speed |6;");
    wrong(5, LOFTS + "pigeon p of a speed |0;");
    wrong(5, LOFTS + "pigeon p of a speed |21;");
    wrong(5, LOFTS + "pigeon p of a sight |21;");
    wrong(5, "hawk at |64,0 reach 0;");
    wrong(5, "hawk at 0,|64 reach 0;");
    wrong(5, "hawk at 0,0 reach |21;");
    wrong(5, "hawk at 0,0 reach 0 rests |0;");
    wrong(5, "hawk at 0,0 reach 0 rests |25;");
    wrong(5, "hawk at 0,0 reach 0 rests |000000;");
  }

  private static void stageErrors() {
    wrong(6, BIRDS + "letter l in a by p and |r;");
    wrong(6, BIRDS + "letter l in a by p, r and |q;");
    wrong(6, BIRDS + "letter l in a by p and q and |r;");
    wrong(7, BIRDS + "letter l in a by p and |p;");
    wrong(7, BIRDS + "letter l in a by p and q and |q;");
    wrong(7, BIRDS + "letter l in a by p, q and p and |q;");
    right(BIRDS + "letter l in a by p,p,p,p,p,p;");
  }

  private static String many(String before, int from, int to, String behind) {
    StringBuilder text = new StringBuilder();
    for (int i = from; i <= to; i++) {
      text.append(before).append(i).append(behind);
    }
    return text.toString();
  }

  private static void tooMany() {
    right(many("loft l", 1, 6, " at 1,1;"));
    wrong(4, many("loft l", 1, 6, " at 1,1;") + "loft |l7 at 1,1;");
    wrong(2, many("loft l", 1, 6, " at 1,1;") + "loft |l6 at 1,1;");
    right(LOFTS + many("pigeon p", 1, 20, " of a;"));
    wrong(4, LOFTS + many("pigeon p", 1, 20, " of a;") + "pigeon |p0 of a;");
    wrong(2, LOFTS + many("pigeon p", 1, 20, " of a;") + "pigeon |p20 of a;");
    right("hawk at 1,1 reach 1;".repeat(6));
    wrong(4, "hawk at 1,1 reach 1;".repeat(6) + " |hawk at 64,1 reach 1;");
    right(BIRDS + many("letter t", 1, 12, " in a by p;"));
    wrong(4, BIRDS + many("letter t", 1, 12, " in a by p;") + "letter |t13 in a by p;");
    wrong(2, BIRDS + many("letter t", 1, 12, " in a by p;") + "letter |t1 in a by p;");
    right("loft a at 1,1" + " then 1,1".repeat(5) + ";");
    wrong(4, "loft a at 1,1" + " then 1,1".repeat(5) + " |then 64,1;");
    wrong(4, BIRDS + "letter l in a by p,p,p,p,p,p,|p;");
    wrong(3, BIRDS + "letter l in a by p,p,p,p,p,p,|s;");
    // All twenty pigeons in one stage.
    StringBuilder stage = new StringBuilder("p1");
    for (int i = 2; i <= 20; i++) {
      stage.append(" and p").append(i);
    }
    right(LOFTS + many("pigeon p", 1, 20, " of a;") + "letter l in b by " + stage + ";");
    wrong(7, LOFTS + many("pigeon p", 1, 20, " of a;") + "letter l in b by " + stage
        + " and |p20;");
  }

  private static void whichErrorIsTold() {
    wrong(1, "pigeon p of a; loft a at 99,99; loft|;");
    wrong(5, "loft a at |64,99; pigeon p of x;");
    wrong(3, "pigeon p of |x speed 0; loft a at 64,1;");
    wrong(2, "loft a at 1,1; loft |a at 64,1;");
    wrong(4, BIRDS + "letter l in a by p,p,p,p,p,p,|p and r and r;");
    wrong(6, BIRDS + "letter l in a by p and |r and p; loft a at 1,1;");
  }

  private static void teachingAnew() {
    LoftPost post = Due.post(BIRDS + "hawk at 5,5 reach 5; letter l in a by p and q;");
    post.pass(1);
    DUE.is("one double too many", 1, () -> post.count(10));
    DUE.is("arrived", 1, () -> post.count(8));
    long before = post.digest();
    Due.feed(post, "loft x at 1,1; loft x");
    DUE.is("teach with an error", 1, post::teach);
    DUE.is("teach with an error: errorAt", 21, post::errorAt);
    DUE.is("teach with an error: all stays", before, post::digest);
    DUE.is("teach with an error 2", 2, () -> Due.tell(post, "loft x at 1,1; loft x at 1,1;"));
    DUE.is("teach with an error 2: errorAt", 20, post::errorAt);
    DUE.is("teach with an error 2: all stays", before, post::digest);
    DUE.is("errorAt stays", 20, () -> {
      post.pass(1);
      return post.errorAt();
    });
    DUE.is("teach anew", 0, () -> Due.tell(post, "loft n at 7,8; pigeon s of n;"));
    DUE.is("teach anew: errorAt", -1, post::errorAt);
    DUE.is("teach anew: the hour stays", 2, () -> post.count(0));
    DUE.is("teach anew: lofts", 1, () -> post.count(1));
    DUE.is("teach anew: pigeons", 1, () -> post.count(2));
    DUE.is("teach anew: hawks", 0, () -> post.count(3));
    DUE.is("teach anew: letters", 0, () -> post.count(4));
    DUE.is("teach anew: arrived", 0, () -> post.count(8));
    DUE.is("teach anew: too many stays", 1, () -> post.count(10));
    DUE.is("teach anew: mean", 0.0, post::mean);
    DUE.is("teach anew: the loft", "7 8", () -> post.loft(0, 0) + " " + post.loft(0, 1));
    DUE.is("teach of nothing", 0, post::teach);
    DUE.is("teach of nothing: lofts", 0, () -> post.count(1));
    DUE.is("teach of nothing: the hour stays", 2, () -> post.count(0));
  }

  private static void counting() {
    LoftPost post = Due.post(BIRDS + "loft far at 60,60; pigeon s of far in a speed 1;"
        + "pigeon t of far in a; hawk at 8,8 reach 6 rests 2; letter k in a by s and t;"
        + "letter l in a by p; letter m in b by p;");
    post.feed(0, 0, 0, 0, 0);
    // Behind the hour s is at 2,3, t at 9,10; the hawk at 8,8 catches t, the nearest.
    post.pass(1);
    int[] due = {1, 3, 5, 1, 3, 3, 1, 1, 1, 1, 0, 20};
    for (int what = 0; what < 12; what++) {
      int asked = what;
      DUE.is("count " + what, due[what], () -> post.count(asked));
    }
    DUE.refuses("count 12", Due.OUT, post, () -> post.count(12));
    DUE.refuses("count -1", Due.OUT, post, () -> post.count(-1));
    DUE.refuses("count least", Due.OUT, post, () -> post.count(Integer.MIN_VALUE));
    DUE.refuses("count most", Due.OUT, post, () -> post.count(Integer.MAX_VALUE));
  }
}
