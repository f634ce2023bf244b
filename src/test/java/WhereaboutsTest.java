/** Promises 7 to 12: what is where. */
public final class WhereaboutsTest {
  private static final Due DUE = new Due();
  private static final int LEAST = Integer.MIN_VALUE;
  private static final int MOST = Integer.MAX_VALUE;

  public static void main(String[] args) {
    loftsMove();
    loftCounts();
    pigeonInCageInFlightAtHome();
    pigeonGone();
    pigeonSearching();
    hawks();
    letters();
    lostLetters();
    bringing();
    luring();
    DUE.end();
  }

  private static void loftsMove() {
    LoftPost post = Due.post("loft a at 0,0 then 5,2 then 5,2 then 0,0 speed 2;"
        + "loft b at 3,3 then 3,3 then 9,9; loft c at 7,8 speed 5;"
        + "loft d at 10,10 then 9,0 speed 5;");
    DUE.all("a, at first", what -> post.loft(0, what), 0, 0, 2, 4, 1, 0, 0, 0);
    DUE.all("b, at first", what -> post.loft(1, what), 3, 3, 0, 3, 1, 0, 0, 0);
    DUE.all("c, at first", what -> post.loft(2, what), 7, 8, 5, 1, 0, 0, 0, 0);
    int[][] a = {{2, 2, 1}, {4, 2, 1}, {5, 2, 2}, {5, 2, 3}, {3, 0, 3}, {1, 0, 3}, {0, 0, 0},
        {0, 0, 1}, {2, 2, 1}};
    int[][] d = {{9, 5, 1}, {9, 0, 0}, {10, 5, 0}, {10, 10, 1}};
    for (int hour = 1; hour <= a.length; hour++) {
      int[] due = a[hour - 1];
      post.pass(1);
      DUE.all("a, hour " + hour, what -> post.loft(0, what), due[0], due[1], 2, 4, due[2]);
      // It is at its second spot at once, and has no speed to go on.
      DUE.all("b, hour " + hour, what -> post.loft(1, what), 3, 3, 0, 3, 2);
      DUE.all("c, hour " + hour, what -> post.loft(2, what), 7, 8, 5, 1, 0);
      int[] other = d[(hour - 1) % 4];
      DUE.all("d, hour " + hour, what -> post.loft(3, what), other[0], other[1], 5, 2, other[2]);
    }
  }

  private static void loftCounts() {
    LoftPost post = Due.post("loft a at 0,0; loft b at 10,0; pigeon p of b in a speed 4;"
        + "pigeon q of b in a speed 2; pigeon r of a; letter k in a by p and q; letter l in a by p;"
        + "letter m in b by q;");
    DUE.all("a", what -> post.loft(0, what + 5), 3, 0, 2);
    DUE.all("b", what -> post.loft(1, what + 5), 0, 0, 1);
    post.pass(1);
    DUE.all("a, hour 1", what -> post.loft(0, what + 5), 1, 0, 2);
    DUE.all("b, hour 1", what -> post.loft(1, what + 5), 0, 2, 1);
    post.pass(2);
    // The letter k has arrived in b and lies there.
    DUE.all("a, hour 3", what -> post.loft(0, what + 5), 1, 0, 1);
    DUE.all("b, hour 3", what -> post.loft(1, what + 5), 1, 1, 2);
    int[][] wrong = {{2, 0}, {-1, 0}, {0, 8}, {0, -1}, {LEAST, LEAST}, {MOST, MOST}, {0, MOST}};
    for (int[] w : wrong) {
      DUE.refuses("loft " + w[0] + "," + w[1], Due.OUT, post, () -> post.loft(w[0], w[1]));
    }
  }

  private static void pigeonInCageInFlightAtHome() {
    LoftPost post = Due.post("loft a at 0,0; loft b at 10,3; pigeon o of a;"
        + "pigeon p of b in a speed 4 sight 3; letter k in b by o; letter l in a by p;");
    DUE.all("o", what -> post.pigeon(0, what), 0, 0, 0, 0, 0, -1, 0, 0);
    DUE.all("p", what -> post.pigeon(1, what), 0, 0, 0, 1, 0, -1, 0, 10);
    post.pass(1);
    DUE.all("o, hour 1", what -> post.pigeon(0, what), 0, 0, 0, 0, 0, -1, 0, 0);
    DUE.all("p, hour 1", what -> post.pigeon(1, what), 1, 4, 3, 1, -1, 1, 0, 6);
    post.pass(1);
    DUE.all("p, hour 2", what -> post.pigeon(1, what), 1, 8, 3, 1, -1, 1, 0, 2);
    post.pass(1);
    DUE.all("p, hour 3", what -> post.pigeon(1, what), 0, 10, 3, 1, 1, -1, 0, 0);
    int[][] wrong = {{2, 0}, {-1, 0}, {0, 8}, {0, -1}, {LEAST, LEAST}, {MOST, MOST}, {0, MOST}};
    for (int[] w : wrong) {
      DUE.refuses("pigeon " + w[0] + "," + w[1], Due.OUT, post, () -> post.pigeon(w[0], w[1]));
    }
    // In a cage of a loft that moves, it moves with it.
    LoftPost moving = Due.post("loft a at 0,0 then 9,9 speed 2; loft b at 10,0;"
        + "pigeon p of b in a;");
    moving.pass(2);
    DUE.all("p in a moving loft", what -> moving.pigeon(0, what), 0, 4, 4, 1, 0, -1, 0, 6);
  }

  private static void pigeonGone() {
    LoftPost post = Due.post("loft a at 0,0; loft b at 10,0 then 40,0 speed 5;"
        + "pigeon p of b in a speed 4; hawk at 4,0 reach 0; letter l in a by p;");
    post.pass(1);
    DUE.all("p caught", what -> post.pigeon(0, what), 2, 4, 0, 1, -1, -1, 0, 11);
    post.pass(3);
    DUE.all("p caught, later", what -> post.pigeon(0, what), 2, 4, 0, 1, -1, -1, 0, 26);
    DUE.is("gone", 1, () -> post.count(7));
  }

  private static void pigeonSearching() {
    // The loft goes twice as fast: the pigeon is at the old spot from the hour 2 on.
    LoftPost post = Due.post("loft a at 0,0; loft b at 0,1 then 63,1 then 63,63 then 0,63 speed 2;"
        + "pigeon p of b in a speed 1 sight 0; letter l in a by p;");
    post.pass(1);
    DUE.all("p, hour 1", what -> post.pigeon(0, what), 1, 1, 1, 1, -1, 0, 0, 1);
    for (int hour = 2; hour <= 25; hour++) {
      post.pass(1);
      DUE.all("p, hour " + hour, what -> post.pigeon(0, what), 1, 2, 1, 1, -1, 0,
          // From the hour 2 on one more each hour.
          post.count(0) - 1, 2 * post.count(0) - 2);
    }
    DUE.is("lost, hour 25", 0, () -> post.letter(0, 4));
    post.pass(1);
    DUE.all("p, hour 26", what -> post.pigeon(0, what), 2, 2, 1, 1, -1, -1, 0, 50);
    DUE.is("lost, hour 26", 1, () -> post.letter(0, 4));
  }

  private static void hawks() {
    LoftPost post = Due.post("loft a at 0,0; loft b at 30,0; pigeon p of b in a speed 4;"
        + "pigeon q of b in a speed 5; hawk at 6,1 reach 2 rests 3; hawk at 63,0 reach 20;"
        + "letter l in a by p and q;");
    DUE.all("h", what -> post.hawk(0, what), 6, 1, 2, 0, 0);
    DUE.all("other", what -> post.hawk(1, what), 63, 0, 20, 0, 0);
    post.pass(1);
    DUE.all("h, hour 1", what -> post.hawk(0, what), 6, 1, 2, 3, 1);
    DUE.is("q, the nearer one, is caught", 2, () -> post.pigeon(1, 0));
    post.pass(1);
    DUE.all("h, hour 2", what -> post.hawk(0, what), 6, 1, 2, 2, 1);
    post.pass(2);
    DUE.all("h, hour 4", what -> post.hawk(0, what), 6, 1, 2, 0, 1);
    post.pass(1);
    DUE.all("h, hour 5", what -> post.hawk(0, what), 6, 1, 2, 0, 1);
    DUE.all("other, hour 5", what -> post.hawk(1, what), 63, 0, 20, 0, 0);
    int[][] wrong = {{2, 0}, {-1, 0}, {0, 5}, {0, -1}, {LEAST, LEAST}, {MOST, MOST}, {0, MOST}};
    for (int[] w : wrong) {
      DUE.refuses("hawk " + w[0] + "," + w[1], Due.OUT, post, () -> post.hawk(w[0], w[1]));
    }
  }

  private static void letters() {
    LoftPost post = Due.post("loft a at 0,0; loft b at 10,0; loft c at 10,9;"
        + "pigeon p of b in a speed 5; pigeon q of b in a speed 1; pigeon r of c in b speed 3;"
        + "letter k in c by p; letter l in a by p and q, r;");
    DUE.all("k", what -> post.letter(0, what), 2, 0, 1, 0, 1, 0, 0, -1);
    DUE.all("l", what -> post.letter(1, what), 0, 0, 2, 0, 0, 0, 0, -1);
    post.pass(1);
    DUE.all("l, hour 1", what -> post.letter(1, what), 0, 0, 2, 0, 0, 2, 2, -1);
    post.pass(1);
    DUE.all("l, hour 2", what -> post.letter(1, what), 1, 1, 2, 0, 0, 1, 2, -1);
    post.pass(1);
    // The double of q is one too many already, but it flies.
    DUE.all("l, hour 3", what -> post.letter(1, what), 1, 1, 2, 0, 0, 2, 3, -1);
    post.pass(2);
    DUE.all("l, hour 5", what -> post.letter(1, what), 2, 2, 2, 1, 0, 1, 3, 4);
    DUE.is("too many, hour 9", 0, () -> {
      post.pass(4);
      return post.count(10);
    });
    DUE.is("too many, hour 10", 1, () -> {
      post.pass(1);
      return post.count(10);
    });
    DUE.all("l, hour 10", what -> post.letter(1, what), 2, 2, 2, 1, 0, 0, 3, 4);
    int[][] wrong = {{2, 0}, {-1, 0}, {0, 8}, {0, -1}, {LEAST, LEAST}, {MOST, MOST}, {0, MOST}};
    for (int[] w : wrong) {
      DUE.refuses("letter " + w[0] + "," + w[1], Due.OUT, post, () -> post.letter(w[0], w[1]));
    }
  }

  private static void lostLetters() {
    // s never comes to b: the letter is lost there, though a late double of it flies.
    LoftPost post = Due.post("loft a at 0,0; loft b at 10,0; pigeon p of b in a speed 5;"
        + "pigeon q of b in a speed 1; pigeon s of a; letter l in a by p and q, s;");
    DUE.is("not lost yet", 0, () -> post.letter(0, 4));
    post.pass(2);
    DUE.all("l", what -> post.letter(0, what), 1, 1, 2, 0, 1, 1, 2, -1);
    post.bring(2, 1);
    DUE.is("lost no more, behind bring", 0, () -> post.letter(0, 4));
    DUE.is("lost letters", 0, () -> post.count(9));
    post.bring(2, 0);
    DUE.is("lost once more", 1, () -> post.count(9));
  }

  private static void bringing() {
    LoftPost post = Due.post("loft a at 0,0; loft b at 10,0; loft c at 20,20; pigeon p of b in a;"
        + "pigeon q of b in a speed 1; pigeon r of a; hawk at 8,0 reach 0; letter l in a by p;"
        + "letter m in a by q;");
    DUE.is("bring r to c", 0, () -> post.bring(2, 2));
    DUE.all("r", what -> post.pigeon(2, what), 0, 20, 20, 0, 2, -1, 0, 20);
    DUE.is("bring r to c, where it is", 2, () -> post.bring(2, 2));
    DUE.is("bring r to b", 2, () -> post.bring(2, 1));
    DUE.is("bring r home", 1, () -> post.bring(2, 0));
    post.pass(1);
    DUE.refuses("bring what is gone", Due.STATE, post, () -> post.bring(0, 1));
    DUE.refuses("bring what flies", Due.STATE, post, () -> post.bring(1, 1));
    DUE.refuses("bring what flies to no loft", Due.OUT, post, () -> post.bring(1, 3));
    DUE.refuses("bring what is gone to no loft", Due.OUT, post, () -> post.bring(0, -1));
    int[][] wrong = {{3, 0}, {-1, 0}, {2, 3}, {2, -1}, {LEAST, 0}, {MOST, 0}, {2, LEAST},
        {2, MOST}};
    for (int[] w : wrong) {
      DUE.refuses("bring " + w[0] + "," + w[1], Due.OUT, post, () -> post.bring(w[0], w[1]));
    }
  }

  private static void luring() {
    LoftPost post = Due.post("hawk at 5,5 reach 1; hawk at 9,0 reach 0;");
    DUE.is("lure", 58, () -> post.lure(0, 0, 63));
    DUE.all("lured", what -> post.hawk(0, what), 0, 63, 1, 0, 0);
    DUE.is("lure to its spot", 0, () -> post.lure(0, 0, 63));
    DUE.is("lure across", 63, () -> post.lure(0, 63, 0));
    DUE.is("lure, x farther", 54, () -> post.lure(1, 63, 7));
    int[][] wrong = {{64, 0}, {-1, 0}, {0, 64}, {0, -1}, {LEAST, 0}, {MOST, 0}, {0, LEAST},
        {0, MOST}};
    for (int[] w : wrong) {
      String name = " to " + w[0] + "," + w[1];
      DUE.refuses("lure" + name, Due.ILLEGAL, post, () -> post.lure(1, w[0], w[1]));
      DUE.refuses("lure of no hawk" + name, Due.OUT, post, () -> post.lure(2, w[0], w[1]));
    }
    DUE.refuses("lure of no hawk", Due.OUT, post, () -> post.lure(2, 1, 1));
    DUE.refuses("lure -1", Due.OUT, post, () -> post.lure(-1, 1, 1));
    DUE.refuses("lure least", Due.OUT, post, () -> post.lure(LEAST, 1, 1));
    DUE.refuses("lure most", Due.OUT, post, () -> post.lure(MOST, 1, 1));
    // It catches where it was lured to, and rests on where it is lured then.
    LoftPost hunt = Due.post("loft a at 0,0; loft b at 30,0; pigeon p of b in a speed 3;"
        + "hawk at 50,50 reach 0 rests 5; letter l in a by p;");
    hunt.lure(0, 3, 0);
    hunt.pass(1);
    DUE.all("lured hunter", what -> hunt.hawk(0, what), 3, 0, 0, 5, 1);
    hunt.lure(0, 4, 4);
    DUE.all("lured, resting", what -> hunt.hawk(0, what), 4, 4, 0, 5, 1);
  }
}
