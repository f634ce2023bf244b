/**
 * Promises 7 to 13: what is where, and hours, at each boundary that a sentence names. What these
 * calls refuse stands in RefusalsTest.
 */
public final class WhereaboutsEdgesTest {
  private static final Due DUE = new Due();

  public static void main(String[] args) {
    loftWithOneSpot();
    fullLoft();
    homePigeonsThatFly();
    lettersThatLie();
    pigeonInACage();
    pigeonThatFlies();
    pigeonThatIsGone();
    pigeonFarFromHome();
    hawksAnswers();
    lettersAnswers();
    bringing();
    broughtOnes();
    luring();
    leastAndMostHours();
    lastCalls();
    lettersThatArrive();
    hoursAddUp();
    DUE.end();
  }

  private static String many(String before, int count, String behind) {
    StringBuilder text = new StringBuilder();
    for (int i = 0; i < count; i++) {
      text.append(before).append(i).append(behind);
    }
    return text.toString();
  }

  // ---- promise 7

  private static void loftWithOneSpot() {
    String sentence = "Promise 7: the number of the spot that is next, 0 with one spot";
    LoftPost post = Due.post("loft a at 0,63 speed 5;loft b at 63,0 then 62,1;"
        + "loft c at 63,63 then 1,1 then 1,1 then 1,1 then 1,1 then 1,1 speed 5;");
    DUE.all(sentence, what -> post.loft(0, what), 0, 63, 5, 1, 0, 0, 0, 0);
    DUE.all(sentence + ", two spots", what -> post.loft(1, what), 63, 0, 0, 2, 1, 0, 0, 0);
    DUE.all(sentence + ", six spots", what -> post.loft(2, what), 63, 63, 5, 6, 1, 0, 0, 0);
    post.pass(200);
    DUE.is(sentence + ", later", 0, () -> post.loft(0, 4));
  }

  private static void fullLoft() {
    LoftPost post = Due.post("loft a at 0,0;loft b at 40,0;" + many("pigeon p", 10, " of b in a;")
        + many("pigeon q", 10, " of a;") + many("letter t", 12, " in a by p0;"));
    DUE.all("Promise 7: 20 pigeons and 12 letters in a loft", what -> post.loft(0, what + 5), 20, 0,
        12);
    DUE.all("Promise 7: none in the other loft", what -> post.loft(1, what + 5), 0, 0, 0);
    post.pass(1);
    DUE.all("Promise 7: one of them flies", what -> post.loft(0, what + 5), 19, 0, 12);
    DUE.all("Promise 7: it is of the other loft", what -> post.loft(1, what + 5), 0, 1, 0);
  }

  private static String stageOf(int count) {
    StringBuilder stage = new StringBuilder("p0");
    for (int i = 1; i < count; i++) {
      stage.append(" and p").append(i);
    }
    return stage.toString();
  }

  private static void homePigeonsThatFly() {
    LoftPost post = Due.post("loft a at 0,0;loft b at 40,0;" + many("pigeon p", 20, " of b in a;")
        + "letter l in a by " + stageOf(20) + ";");
    post.pass(1);
    DUE.is("Promise 7: 20 home pigeons that fly", "20 0", () -> post.loft(1, 6) + " "
        + post.loft(0, 6));
    DUE.is("Promise 7: none is in a cage", "0 0", () -> post.loft(0, 5) + " " + post.loft(1, 5));
    DUE.is("Promise 6: 20 pigeons that fly", "0 20 0", () -> post.count(5) + " " + post.count(6)
        + " " + post.count(7));
    DUE.is("Promise 10: 20 doubles fly", "20 20", () -> post.letter(0, 5) + " "
        + post.letter(0, 6));
    post.pass(4);
    DUE.is("Promise 7: all 20 came home", "20 0", () -> post.loft(1, 5) + " " + post.loft(1, 6));
    DUE.is("Promise 6: 19 doubles were one too many", 19, () -> post.count(10));
    LoftPost caught = Due.post("loft a at 0,0;loft b at 40,0;pigeon p of b in a;"
        + "hawk at 8,0 reach 0;letter l in a by p;");
    caught.pass(1);
    DUE.is("Promise 7: one that is gone is neither in a cage nor flies", "0 0 0 0",
        () -> caught.loft(0, 5) + " " + caught.loft(0, 6) + " " + caught.loft(1, 5) + " "
            + caught.loft(1, 6));
  }

  private static void lettersThatLie() {
    String sentence = "Promise 7: letters that lie there, also those that have arrived there";
    LoftPost post = Due.post("loft a at 0,0;loft b at 16,0;pigeon p of b in a;pigeon q of b;"
        + "letter k in a by p;letter l in b by q;letter m in a by q;");
    DUE.is(sentence + ", at first", "2 1", () -> post.loft(0, 7) + " " + post.loft(1, 7));
    post.pass(1);
    DUE.is(sentence + ", it lies there while its double flies", "2 1",
        () -> post.loft(0, 7) + " " + post.loft(1, 7));
    DUE.is(sentence + ", l has arrived", 1, () -> post.letter(1, 3));
    post.pass(1);
    DUE.is(sentence + ", k has arrived", "1 2", () -> post.loft(0, 7) + " " + post.loft(1, 7));
  }

  // ---- promise 8

  private static void pigeonInACage() {
    String sentence = "Promise 8: in a cage, the spot of the loft";
    LoftPost post = Due.post("loft a at 1,2 then 63,2 speed 5;loft b at 3,4;pigeon p of b in a;"
        + "pigeon q of a;letter l in b by q;");
    DUE.all(sentence, what -> post.pigeon(0, what), 0, 1, 2, 1, 0, -1, 0, 2);
    DUE.all(sentence, what -> post.pigeon(1, what), 0, 1, 2, 0, 0, -1, 0, 0);
    post.pass(1);
    DUE.all(sentence + ", which has moved", what -> post.pigeon(0, what), 0, 6, 2, 1, 0, -1, 0, 3);
    DUE.all(sentence + ", which has moved", what -> post.pigeon(1, what), 0, 6, 2, 0, 0, -1, 0, 0);
  }

  private static void pigeonThatFlies() {
    String sentence = "Promise 8: if it flies";
    LoftPost post = Due.post("loft a at 0,0;loft b at 5,0 then 63,0 then 63,63 then 63,0 speed 5;"
        + "pigeon p of b in a speed 9 sight 0;" + many("letter t", 11, " in b by p;")
        + "letter u in a by p;");
    post.pass(1);
    DUE.all(sentence + ", the 12th letter", what -> post.pigeon(0, what), 1, 9, 0, 1, -1, 11, 0, 1);
    post.pass(3);
    DUE.all(sentence + ", searched", what -> post.pigeon(0, what), 1, 10, 0, 1, -1, 11, 3, 15);
    post.pass(22);
    DUE.all("Promise 8: 0 if it does not fly, gone", what -> post.pigeon(0, what), 2, 10, 0, 1, -1,
        -1, 0, 58);
  }

  private static void pigeonThatIsGone() {
    String sentence = "Promise 8: where it went, if it is gone";
    LoftPost post = Due.post("loft a at 0,0;loft b at 40,30 then 40,63 speed 1;pigeon p of b in a;"
        + "hawk at 16,20 reach 4;letter l in a by p;");
    post.pass(1);
    DUE.all(sentence + ", not yet", what -> post.pigeon(0, what), 1, 8, 8, 1, -1, 0, 0, 32);
    post.pass(1);
    DUE.all(sentence, what -> post.pigeon(0, what), 2, 16, 16, 1, -1, -1, 0, 24);
    post.lure(0, 63, 63);
    post.pass(20);
    // Its home goes on: it is 40,52 in the hour 22.
    DUE.all(sentence + ", later", what -> post.pigeon(0, what), 2, 16, 16, 1, -1, -1, 0, 36);
  }

  private static void pigeonFarFromHome() {
    String sentence = "Promise 8: its distance from its home, ";
    int[][] spots = {{0, 0, 63, 63, 63}, {63, 63, 0, 0, 63}, {0, 0, 63, 0, 63}, {0, 63, 0, 0, 63},
        {5, 5, 5, 5, 0}, {5, 9, 8, 5, 4}, {5, 5, 8, 9, 4}, {8, 5, 4, 8, 4}, {7, 7, 6, 6, 1}};
    for (int[] s : spots) {
      LoftPost post = Due.post("loft a at " + s[0] + "," + s[1] + ";loft b at " + s[2] + "," + s[3]
          + ";pigeon p of b in a;");
      DUE.is(sentence + s[4], s[4], () -> post.pigeon(0, 7));
    }
  }

  // ---- promise 9

  private static void hawksAnswers() {
    LoftPost post = Due.post("loft a at 0,0;loft b at 63,0;"
        + many("pigeon p", 20, " of b in a speed 1;") + "hawk at 63,63 reach 0 rests 24;"
        + "hawk at 32,0 reach 20 rests 1;letter l in a by " + stageOf(20) + ";");
    DUE.all("Promise 9: at first", what -> post.hawk(0, what), 63, 63, 0, 0, 0);
    DUE.all("Promise 9: at first", what -> post.hawk(1, what), 32, 0, 20, 0, 0);
    // The second one catches one each second hour, from the hour 12 on.
    post.pass(12);
    DUE.all("Promise 9: caught one", what -> post.hawk(1, what), 32, 0, 20, 1, 1);
    post.pass(37);
    DUE.all("Promise 9: caught 19", what -> post.hawk(1, what), 32, 0, 20, 0, 19);
    post.pass(1);
    DUE.all("Promise 9: caught 20 in all", what -> post.hawk(1, what), 32, 0, 20, 1, 20);
    DUE.all("Promise 9: caught none", what -> post.hawk(0, what), 63, 63, 0, 0, 0);
    DUE.is("Promise 6: 20 pigeons are gone", 20, () -> post.count(7));
  }

  // ---- promise 10

  private static void lettersAnswers() {
    LoftPost post = Due.post("loft a at 0,0;loft b at 8,0;pigeon p of b in a;pigeon q of a in b;"
        + "pigeon r of a in b;letter k in a by p,q,p,q,p,q;letter l in b by q;letter m in a by r;");
    DUE.all("Promise 10: at first", what -> post.letter(0, what), 0, 0, 6, 0, 0, 0, 0, -1);
    for (int stage = 1; stage < 6; stage++) {
      post.pass(1);
      int lies = stage % 2;
      // q flies with l in the first hour, and has to be brought back to carry k.
      if (stage == 1) {
        DUE.is("Promise 10: arrived in the hour 0, not -1", "1 0", () -> post.letter(1, 3) + " "
            + post.letter(1, 7));
        post.bring(1, 1);
      } else {
        post.bring(stage % 2, stage % 2);
      }
      DUE.all("Promise 10: before stage " + stage, what -> post.letter(0, what), lies, stage, 6, 0,
          0, 0, stage, -1);
    }
    post.pass(1);
    DUE.all("Promise 10: as many as it has, if it has arrived", what -> post.letter(0, what), 0, 6,
        6, 1, 0, 0, 6, 5);
    DUE.is("Promise 10: a letter that is lost", "0 1 -1", () -> post.letter(2, 3) + " "
        + post.letter(2, 4) + " " + post.letter(2, 7));
    post.pass(200);
    DUE.all("Promise 10: long ago", what -> post.letter(0, what), 0, 6, 6, 1, 0, 0, 6, 5);
  }

  // ---- promise 11

  private static void bringing() {
    String sentence = "Promise 11: returns the loft where it was";
    LoftPost post = Due.post(many("loft l", 6, " at 9,9;") + many("pigeon p", 20, " of l0;"));
    for (int loft = 1; loft < 6; loft++) {
      int to = loft;
      DUE.is(sentence + ", to loft " + loft, loft - 1, () -> post.bring(19, to));
      DUE.is(sentence + ", and it is there", loft, () -> post.pigeon(19, 4));
    }
    DUE.is(sentence + ", to where it is", 5, () -> post.bring(19, 5));
    DUE.is(sentence + ", and home", 5, () -> post.bring(19, 0));
    DUE.is(sentence + ", the first pigeon", 0, () -> post.bring(0, 5));
    DUE.is("Promise 11: at once", "19 1 0", () -> post.loft(0, 5) + " " + post.loft(5, 5) + " "
        + post.count(0));
  }

  private static void broughtOnes() {
    String sentence = "Promise 11: a pigeon in a cage";
    LoftPost post = Due.post("loft a at 0,0;loft b at 16,0;loft c at 0,40;pigeon p of b in c;"
        + "pigeon q of b in a speed 1;hawk at 1,0 reach 0;letter k in a by p;letter l in a by q;");
    DUE.is(sentence + " is brought", 2, () -> post.bring(0, 0));
    post.pass(1);
    DUE.refuses(sentence + ", not one that flies", Due.STATE, post, () -> post.bring(0, 0));
    DUE.refuses(sentence + ", not one that is gone", Due.STATE, post, () -> post.bring(1, 0));
    post.pass(1);
    DUE.is(sentence + ", one that came home again", 1, () -> post.bring(0, 2));
    DUE.is(sentence + ", it keeps its home", "1 2", () -> post.pigeon(0, 3) + " "
        + post.pigeon(0, 4));
  }

  // ---- promise 12

  private static void luring() {
    String sentence = "Promise 12: returns the distance of both";
    LoftPost post = Due.post("hawk at 1,1 reach 0;".repeat(5) + "hawk at 5,9 reach 1;");
    int[][] ways = {{5, 9, 0}, {0, 0, 9}, {63, 63, 63}, {63, 0, 63}, {0, 63, 63}, {0, 62, 1},
        {63, 60, 63}, {60, 50, 10}, {50, 53, 10}};
    for (int[] way : ways) {
      DUE.is(sentence + ", to " + way[0] + "," + way[1], way[2],
          () -> post.lure(5, way[0], way[1]));
      DUE.all("Promise 12: it is there", what -> post.hawk(5, what), way[0], way[1], 1, 0, 0);
    }
    DUE.is(sentence + ", the first hawk", 62, () -> post.lure(0, 63, 0));
    DUE.is(sentence + ", the others stay", "1 1", () -> post.hawk(1, 0) + " " + post.hawk(4, 1));
  }

  // ---- promise 13

  private static void leastAndMostHours() {
    String sentence = "Promise 13: 1 to 200 hours";
    LoftPost post = new LoftPost();
    DUE.is(sentence + ", 1", "0 1", () -> post.pass(1) + " " + post.count(0));
    DUE.is(sentence + ", 2", "0 3", () -> post.pass(2) + " " + post.count(0));
    DUE.is(sentence + ", 199", "0 202", () -> post.pass(199) + " " + post.count(0));
    DUE.is(sentence + ", 200", "0 402", () -> post.pass(200) + " " + post.count(0));
    for (int hours : new int[] {0, -1, 201, 202, Integer.MIN_VALUE, Integer.MAX_VALUE}) {
      DUE.refuses(sentence + ", " + hours, Due.ILLEGAL, post, () -> post.pass(hours));
    }
    DUE.is(sentence + ", none went by", 402, () -> post.count(0));
  }

  private static void lastCalls() {
    String sentence = "What it is: at most 512 calls";
    LoftPost hours = new LoftPost();
    for (int calls = 1; calls <= 511; calls++) {
      hours.pass(200);
    }
    DUE.is(sentence + ", the 512th tells the hour", 102200, () -> hours.count(0));
    LoftPost texts = new LoftPost();
    for (int calls = 1; calls <= 255; calls++) {
      texts.feed(0x6861776b, 0x20617420, 0x312c3120, 0x72656163, 0x6820313b);
      DUE.is(sentence + ", a text more", 0, texts::teach);
    }
    DUE.is(sentence + ", the 511th tells the hawks", 1, () -> texts.count(3));
    DUE.is(sentence + ", the 512th tells the reach", 1, () -> texts.hawk(0, 2));
  }

  private static void lettersThatArrive() {
    String sentence = "Promise 13: returns how many letters arrive in them";
    String pigeons = "loft a at 0,0;loft b at 20,0;" + many("pigeon p", 12, " of b in a speed 2;");
    StringBuilder text = new StringBuilder(pigeons);
    for (int i = 0; i < 12; i++) {
      text.append("letter t").append(i).append(" in a by p").append(i).append(';');
    }
    LoftPost post = Due.post(text.toString());
    DUE.is(sentence + ", none", 0, () -> post.pass(9));
    DUE.is(sentence + ", all twelve in the last hour", 12, () -> post.pass(1));
    DUE.is(sentence + ", not once more", 0, () -> post.pass(1));
    LoftPost first = Due.post(text.toString());
    DUE.is(sentence + ", all twelve in the 10th of 200", 12, () -> first.pass(200));
    DUE.is(sentence + ", not once more", 0, () -> first.pass(200));
    LoftPost later = Due.post(Relay.text(200));
    DUE.is(sentence + ", in the last of 200", 1, () -> later.pass(200));
    LoftPost tooLate = Due.post(Relay.text(201));
    DUE.is(sentence + ", behind the last of 200", 0, () -> tooLate.pass(200));
    DUE.is(sentence + ", in the hour then", 1, () -> tooLate.pass(1));
    LoftPost stages = Due.post("loft a at 0,0;pigeon p of a;letter l in a by p,p;");
    DUE.is(sentence + ", not those that come to a later stage", 0, () -> stages.pass(1));
    DUE.is(sentence + ", but those behind their last one", 1, () -> stages.pass(1));
  }

  private static void hoursAddUp() {
    LoftPost post = Due.post(Busy.TEXT);
    LoftPost other = Due.post(Busy.TEXT);
    post.pass(200);
    for (int hour = 0; hour < 200; hour++) {
      other.pass(1);
    }
    DUE.is("Promise 13: 200 hours are 200 times one", other.digest(), post::digest);
  }
}
