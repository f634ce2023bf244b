/**
 * Section 2 of the document (lofts, pigeons, hawks, letters and each step of an hour), at each
 * boundary that a sentence names.
 */
public final class HoursEdgesTest {
  private static final Due DUE = new Due();

  public static void main(String[] args) {
    loftsGoNotBeyond();
    loftsOnEachWay();
    oneSpot();
    roundTheSpots();
    defaultsOfLoftsAndPigeons();
    speedsOfPigeons();
    setsOutWhenLoftsHaveGone();
    setsOutFromTheCageOfTheLetter();
    setsOutForItsStageAlone();
    setsOutForNoLetterThatHasArrived();
    setsOutForTheFirstLetter();
    setsOutInEachStage();
    setsOutWithoutASearch();
    flightsNotBeyond();
    homeInSight();
    sightAndSearchAdded();
    sightOfTwenty();
    lastAimStays();
    homeAheadOfTheAim();
    homeWhereItSetOut();
    firstPigeonFirst();
    doublesTooMany();
    searchedFor24Hours();
    seesAtLast();
    reachOfHawks();
    nearestOfSeveral();
    onePigeonAnHour();
    cagesAreSafe();
    restsOfHawks();
    hoursOfArrival();
    notLost();
    lost();
    DUE.end();
  }

  private static String spot(LoftPost post, int pigeon) {
    return post.pigeon(pigeon, 0) + ": " + post.pigeon(pigeon, 1) + "," + post.pigeon(pigeon, 2);
  }

  private static String loft(LoftPost post, int loft) {
    return post.loft(loft, 0) + "," + post.loft(loft, 1) + " to " + post.loft(loft, 4);
  }

  /** The loft 0 at first, and behind each hour. */
  private static void route(String sentence, String text, String... due) {
    LoftPost post = Due.post(text);
    for (int hour = 0; hour < due.length; hour++) {
      DUE.is(sentence + ", " + text + " behind " + hour, due[hour], () -> loft(post, 0));
      post.pass(1);
    }
  }

  /** Pigeon 0 behind each hour. */
  private static void flight(String sentence, LoftPost post, String... due) {
    for (int hour = 1; hour <= due.length; hour++) {
      post.pass(1);
      DUE.is(sentence + ", hour " + hour, due[hour - 1], () -> spot(post, 0));
    }
  }

  // ---- step 1

  private static void loftsGoNotBeyond() {
    String sentence = "Terms, step 1: by its speed, but not beyond the next spot";
    route(sentence, "loft a at 0,0 then 4,4 speed 5;", "0,0 to 1", "4,4 to 0", "0,0 to 1");
    route(sentence, "loft a at 0,0 then 5,5 speed 5;", "0,0 to 1", "5,5 to 0", "0,0 to 1");
    route(sentence, "loft a at 0,0 then 6,6 speed 5;", "0,0 to 1", "5,5 to 1", "6,6 to 0", "1,1 to 0",
        "0,0 to 1");
    route(sentence, "loft a at 0,0 then 6,2 speed 5;", "0,0 to 1", "5,2 to 1", "6,2 to 0", "1,0 to 0",
        "0,0 to 1");
    route(sentence, "loft a at 0,0 then 2,6 speed 5;", "0,0 to 1", "2,5 to 1", "2,6 to 0", "0,1 to 0",
        "0,0 to 1");
    route(sentence, "loft a at 63,63 then 0,63 speed 1;", "63,63 to 1", "62,63 to 1", "61,63 to 1");
  }

  private static void loftsOnEachWay() {
    int[][] ways = {{-9, 0}, {9, 0}, {0, -9}, {0, 9}, {-9, -9}, {9, 9}, {-9, 9}, {9, -9}};
    for (int[] way : ways) {
      String text = "loft a at 30,30 then " + (30 + way[0]) + "," + (30 + way[1]) + " speed 3;";
      String[] due = new String[4];
      for (int hour = 0; hour < 4; hour++) {
        due[hour] = (30 + way[0] / 3 * hour) + "," + (30 + way[1] / 3 * hour)
            + (hour == 3 ? " to 0" : " to 1");
      }
      route("Terms: x and y become each as much nearer", text, due);
    }
  }

  private static void oneSpot() {
    String sentence = "Terms, step 1: one with more than one spot goes";
    route(sentence, "loft a at 7,8 speed 5;", "7,8 to 0", "7,8 to 0", "7,8 to 0");
    route(sentence, "loft a at 7,8;", "7,8 to 0", "7,8 to 0");
    route(sentence, "loft a at 7,8 then 8,8 speed 5;", "7,8 to 1", "8,8 to 0", "7,8 to 1");
    route(sentence + ", by 0 without a speed", "loft a at 7,8 then 8,8;", "7,8 to 1", "7,8 to 1",
        "7,8 to 1");
    route(sentence + ", by 0", "loft a at 7,8 then 8,8 speed 0;", "7,8 to 1", "7,8 to 1");
    route(sentence + ", by 1", "loft a at 7,8 then 9,8 speed 1;", "7,8 to 1", "8,8 to 1", "9,8 to 0");
  }

  private static void roundTheSpots() {
    String sentence = "Terms, step 1: behind the last one the first one";
    route(sentence, "loft a at 1,1" + " then 1,1".repeat(5) + ";", "1,1 to 1", "1,1 to 2",
        "1,1 to 3", "1,1 to 4", "1,1 to 5", "1,1 to 0", "1,1 to 1", "1,1 to 2");
    route(sentence, "loft a at 1,1 then 2,1 then 2,2 then 1,2 then 1,3 then 0,3 speed 1;",
        "1,1 to 1", "2,1 to 2", "2,2 to 3", "1,2 to 4", "1,3 to 5", "0,3 to 0", "1,2 to 0",
        "1,1 to 1", "2,1 to 2");
    route(sentence + ", one spot an hour at the most", "loft a at 1,1 then 2,1 then 3,1 speed 5;",
        "1,1 to 1", "2,1 to 2", "3,1 to 0", "1,1 to 1");
    LoftPost post = Due.post("loft a at 1,1 then 2,1 then 3,1 speed 5;");
    post.pass(200);
    post.pass(200);
    post.pass(101);
    DUE.is(sentence + ", behind 501 hours", "1,1 to 1", () -> loft(post, 0));
  }

  // ---- pigeons and their flights

  private static void defaultsOfLoftsAndPigeons() {
    LoftPost post = Due.post("loft a at 0,0; loft b at 9,9; pigeon p of b; pigeon q of b in a;"
        + "hawk at 9,0 reach 0; letter l in a by p;");
    DUE.is("Terms: a loft's speed is 0 without one", 0, () -> post.loft(0, 2));
    DUE.is("Terms: a pigeon is in its home without in", "1 0",
        () -> post.pigeon(0, 4) + " " + post.pigeon(1, 4));
    DUE.is("Terms: a hawk rests 0 hours at first", 0, () -> post.hawk(0, 3));
    DUE.is("Terms: a letter lies before the stage 0 at first", 0, () -> post.letter(0, 1));
    // The home moves on by 3 and by 4: only a sight of 3 tells them apart.
    String moving = "loft a at 0,0; loft b at 10,0 then 10,60 speed SPEED; pigeon p of b in a;"
        + "letter l in a by p;";
    flight("Terms: a pigeon's speed is 8 and its sight 3 without one",
        Due.post(moving.replace("SPEED", "3")), "1: 8,3", "0: 10,6");
    flight("Terms: a pigeon's speed is 8 and its sight 3 without one",
        Due.post(moving.replace("SPEED", "4")), "1: 8,4", "1: 10,4");
    LoftPost still = Due.post(moving.replace("SPEED", "4"));
    still.pass(2);
    DUE.is("Terms: its sight is 3 without one: it has searched", 1, () -> still.pigeon(0, 6));
  }

  private static LoftPost straight(int far, int speed) {
    return Due.post("loft a at 0,0; loft b at " + far + ",0; pigeon p of b in a speed " + speed
        + "; letter l in a by p;");
  }

  private static void speedsOfPigeons() {
    String sentence = "Terms, step 3: by its speed to its aim, but not beyond it";
    flight(sentence + ", 19 by 20", straight(19, 20), "0: 19,0");
    flight(sentence + ", 20 by 20", straight(20, 20), "0: 20,0");
    flight(sentence + ", 21 by 20", straight(21, 20), "1: 20,0", "0: 21,0");
    flight(sentence + ", 63 by 20", straight(63, 20), "1: 20,0", "1: 40,0", "1: 60,0", "0: 63,0");
    flight(sentence + ", 1 by 1", straight(1, 1), "0: 1,0");
    flight(sentence + ", 2 by 1", straight(2, 1), "1: 1,0", "0: 2,0");
    LoftPost slow = straight(63, 1);
    slow.pass(62);
    flight(sentence + ", 63 by 1", slow, "0: 63,0");
  }

  private static void flightsNotBeyond() {
    String sentence = "Terms: x and y become each as much nearer, but not beyond";
    int[][] ways = {{-9, 0}, {9, 0}, {0, -9}, {0, 9}, {-9, -4}, {9, 4}, {-4, 9}, {4, -9}, {6, 5}};
    for (int[] way : ways) {
      LoftPost post = Due.post("loft a at 30,30; loft b at " + (30 + way[0]) + "," + (30 + way[1])
          + "; pigeon p of b in a speed 5; letter l in a by p;");
      int x = 30 + Math.max(-5, Math.min(5, way[0]));
      int y = 30 + Math.max(-5, Math.min(5, way[1]));
      flight(sentence, post, "1: " + x + "," + y, "0: " + (30 + way[0]) + "," + (30 + way[1]));
    }
  }

  // ---- step 2

  private static void setsOutWhenLoftsHaveGone() {
    String sentence = "Terms, step 2: from the spot of this loft, to where its home is now";
    // a goes from 0,0 to 5,0, and b from 20,10 to 20,15, before p sets out.
    LoftPost post = Due.post("loft a at 0,0 then 60,0 speed 5; loft b at 20,10 then 20,60 speed 5;"
        + "pigeon p of b in a speed 14 sight 0; letter l in a by p;");
    flight(sentence, post, "1: 19,14", "1: 20,15");
    DUE.is(sentence + ", searched where its home was", 1, () -> post.pigeon(0, 6));
    // It is home at once where b comes to in this hour.
    flight(sentence, Due.post("loft a at 0,0 then 60,0 speed 5; loft b at 20,10 then 20,9 speed 1;"
        + "pigeon p of b in a speed 15 sight 0; letter l in a by p;"), "0: 20,9");
  }

  private static void setsOutFromTheCageOfTheLetter() {
    String sentence = "Terms, step 2: each pigeon that is in a cage in the loft where it lies";
    // c stands at the spot of a, and is another loft.
    LoftPost post = Due.post("loft a at 0,0; loft b at 40,0; loft c at 0,0; pigeon p of b in a;"
        + "pigeon q of b in c; pigeon r of b in a; pigeon s of b;"
        + "letter l in a by p and q and r and s;");
    post.pass(1);
    DUE.is(sentence, "1 0 1 0", () -> post.pigeon(0, 0) + " " + post.pigeon(1, 0) + " "
        + post.pigeon(2, 0) + " " + post.pigeon(3, 0));
    DUE.is(sentence + ", doubles", 2, () -> post.letter(0, 6));
    post.bring(1, 0);
    post.pass(1);
    DUE.is(sentence + ", one that was brought there", "1 3",
        () -> post.pigeon(1, 0) + " " + post.letter(0, 6));
    DUE.is(sentence + ", from there", "8,0", () -> post.pigeon(1, 1) + "," + post.pigeon(1, 2));
  }

  private static void setsOutForItsStageAlone() {
    String sentence = "Terms, step 2: each pigeon of its stage";
    LoftPost post = Due.post("loft a at 0,0; loft b at 40,0; pigeon p of b in a speed 20;"
        + "pigeon q of a; pigeon r of b in a; pigeon s of a in b; letter l in a by p,s,r;");
    post.pass(1);
    DUE.is(sentence + ", neither one of a later stage nor one of none", "1 0 0 0",
        () -> post.pigeon(0, 0) + " " + post.pigeon(1, 0) + " " + post.pigeon(2, 0) + " "
            + post.pigeon(3, 0));
    post.pass(2);
    DUE.is(sentence + ", the second stage", "0 0 0 1", () -> post.pigeon(0, 0) + " "
        + post.pigeon(1, 0) + " " + post.pigeon(2, 0) + " " + post.pigeon(3, 0));
    DUE.is(sentence + ", a double of the second stage", "0 1 2",
        () -> post.pigeon(3, 5) + " " + post.letter(0, 5) + " " + post.letter(0, 6));
  }

  private static void setsOutForNoLetterThatHasArrived() {
    String sentence = "Terms, step 2: of one that has not arrived";
    LoftPost post = Due.post("loft a at 0,0; pigeon p of a; pigeon q of a; letter l in a by p,q;"
        + "letter m in a by p,p,p,p,p,p;");
    post.pass(2);
    DUE.is(sentence + ", arrived", 1, () -> post.letter(0, 3));
    post.pass(50);
    DUE.is(sentence + ", no more doubles", "2 6", () -> post.letter(0, 6) + " " + post.letter(1, 6));
    DUE.is(sentence + ", none is too many", 0, () -> post.count(10));
  }

  private static void setsOutForTheFirstLetter() {
    String sentence = "Terms, step 2: letters, by numbers";
    LoftPost post = Due.post("loft a at 0,0; loft b at 40,0; pigeon p of b in a;"
        + "pigeon q of b in a; letter k in a by q; letter l in a by p and q; letter m in a by p;");
    post.pass(1);
    DUE.is(sentence + ", p with l and q with k", "1 0", () -> post.pigeon(0, 5) + " "
        + post.pigeon(1, 5));
    DUE.is(sentence + ", doubles", "1 1 0", () -> post.letter(0, 6) + " " + post.letter(1, 6) + " "
        + post.letter(2, 6));
  }

  private static void setsOutInEachStage() {
    String sentence = "Terms, step 2: that did not carry it in this stage yet";
    LoftPost post = Due.post("loft a at 0,0; loft b at 16,0; pigeon p of b in a;"
        + "letter l in a by p,p,p;");
    post.pass(2);
    DUE.is(sentence + ", the first stage", "1 1", () -> post.letter(0, 1) + " " + post.letter(0, 6));
    post.pass(1);
    DUE.is(sentence + ", once more in the second", "2 2",
        () -> post.letter(0, 1) + " " + post.letter(0, 6));
    post.pass(1);
    DUE.is(sentence + ", and in the third", "3 3 1", () -> post.letter(0, 1) + " "
        + post.letter(0, 6) + " " + post.letter(0, 3));
    // q is late with a double of the first stage, and can carry the second one then.
    LoftPost late = Due.post("loft a at 0,0; loft b at 16,0; pigeon p of b in a;"
        + "pigeon q of b in a speed 4; letter l in a by p and q,q;");
    late.pass(4);
    DUE.is(sentence + ", late with the first stage", "1 2 1 0", () -> late.letter(0, 1) + " "
        + late.letter(0, 6) + " " + late.count(10) + " " + late.letter(0, 4));
    late.pass(1);
    DUE.is(sentence + ", and then with the second", "2 3 1", () -> late.letter(0, 1) + " "
        + late.letter(0, 6) + " " + late.letter(0, 3));
  }

  private static void setsOutWithoutASearch() {
    String sentence = "Terms, step 2: and has searched for 0 hours";
    // p has searched for 2 hours when it sees b, and comes home in the hour 4.
    LoftPost post = Due.post(SEARCHING.replace("SIGHT", "3") + "letter m in a by p;");
    post.pass(4);
    DUE.is(sentence + ", it came home", "0 1", () -> post.pigeon(0, 0) + " " + post.letter(0, 3));
    post.bring(0, 0);
    post.pass(1);
    DUE.is(sentence + ", once more", "1 0", () -> post.pigeon(0, 0) + " " + post.pigeon(0, 6));
  }

  // ---- step 3

  /** Hour 1: p is at 5,4, and b leaves 10,4 for 10,9, where it stays to the hour 5. */
  private static final String SEARCHING = "loft a at 0,4; loft b at 10,4 then 10,4 then 10,9"
      + " then 10,9 then 10,9 then 10,9 speed 5; pigeon p of b in a speed 5 sight SIGHT;"
      + "letter l in a by p;";

  private static LoftPost searching(int sight) {
    return Due.post(SEARCHING.replace("SIGHT", String.valueOf(sight)));
  }

  private static void homeInSight() {
    String sentence = "Terms, step 3: if its home is not farther than its sight";
    flight(sentence + ", 5 of 6", searching(6), "1: 5,4", "0: 10,9");
    flight(sentence + ", 5 of 5", searching(5), "1: 5,4", "0: 10,9");
    flight(sentence + ", 5 of 4", searching(4), "1: 5,4", "1: 10,4");
  }

  private static void sightAndSearchAdded() {
    String sentence = "Terms, step 3: its sight and the hours that it has searched, added";
    flight(sentence + ", 4 and 1", searching(4), "1: 5,4", "1: 10,4", "0: 10,9");
    flight(sentence + ", 3 and 2", searching(3), "1: 5,4", "1: 10,4", "1: 10,4", "0: 10,9");
    flight(sentence + ", 2 and 3", searching(2), "1: 5,4", "1: 10,4", "1: 10,4", "1: 10,4",
        "0: 10,9");
    LoftPost post = searching(2);
    int[] searched = {0, 1, 2, 3, 0};
    for (int hour = 0; hour < searched.length; hour++) {
      post.pass(1);
      DUE.is(sentence + ", searched, hour " + (hour + 1), searched[hour], () -> post.pigeon(0, 6));
    }
    // With 1 and 4 its home comes back to it first.
    LoftPost back = searching(1);
    back.pass(4);
    flight(sentence + ", 1 and 3", back, "1: 10,4", "0: 10,4");
  }

  private static void sightOfTwenty() {
    String sentence = "Terms, step 3: a sight of ";
    for (int sight : new int[] {18, 19, 20}) {
      for (int far = sight - 1; far <= sight + 1; far++) {
        // Behind the hour 1 p is at 1,5; b goes from FAR,5 to FAR,10 then.
        LoftPost post = Due.post("loft a at 0,5; loft b at " + (far + 1) + ",0 then " + (far + 1)
            + ",63 speed 5; pigeon p of b in a speed 1 sight " + sight + "; letter l in a by p;");
        flight(sentence + sight + ", home " + far + " away", post, "1: 1,5",
            far <= sight ? "1: 2,6" : "1: 2,5");
      }
    }
    // A sight of 0: 1 away is too far at first, and is not when it has searched.
    LoftPost blind = Due.post("loft a at 0,4; loft b at 10,4 then 10,4 then 10,5 then 10,5"
        + " then 10,5 then 10,5 speed 1; pigeon p of b in a speed 9 sight 0; letter l in a by p;");
    flight(sentence + "0, home 1 away", blind, "1: 9,4", "1: 10,4", "0: 10,5");
  }

  private static void lastAimStays() {
    String sentence = "Terms, step 3: this spot is its aim from now on";
    // In the hour 2 b is at 5,10 and 5 away; from the hour 3 on it is too far, and goes on.
    LoftPost post = Due.post("loft a at 0,5; loft b at 5,0 then 5,63 speed 5;"
        + "pigeon p of b in a speed 1 sight 5; letter l in a by p;");
    flight(sentence, post, "1: 1,5", "1: 2,6", "1: 3,7", "1: 4,8", "1: 5,9");
    DUE.is(sentence + ", not searched yet", 0, () -> post.pigeon(0, 6));
    flight(sentence + ", behind 5", post, "1: 5,10", "1: 5,10");
    DUE.is(sentence + ", searched", 2, () -> post.pigeon(0, 6));
  }

  private static void homeAheadOfTheAim() {
    String sentence = "Terms, step 3: if its home is at the spot where it is then";
    // The aim is 0,8; in the hour 2 both come to 0,4, and p did not see its home before.
    LoftPost post = Due.post("loft a at 0,0; loft b at 5,13 then 0,8 then 0,4 speed 5;"
        + "pigeon p of b in a speed 2 sight 0; letter l in a by p;");
    flight(sentence + ", not its aim", post, "1: 0,2", "0: 0,4");
    DUE.is(sentence + ", it is in a cage there", "1 -1 0 0", () -> post.pigeon(0, 4) + " "
        + post.pigeon(0, 5) + " " + post.pigeon(0, 6) + " " + post.pigeon(0, 7));
    DUE.is(sentence + ", its double has come", "1 1 1", () -> post.letter(0, 0) + " "
        + post.letter(0, 1) + " " + post.letter(0, 3));
    // Another loft on its way is none.
    LoftPost other = Due.post("loft a at 0,0; loft b at 0,40; loft c at 0,8; pigeon p of b in a;"
        + "letter l in a by p;");
    flight(sentence + ", another loft", other, "1: 0,8", "1: 0,16");
  }

  private static void homeWhereItSetOut() {
    String sentence = "Terms, step 3: home where it set out, in the same hour";
    LoftPost post = Due.post("loft a at 5,5; loft b at 5,5; pigeon p of a; pigeon q of b in a;"
        + "hawk at 5,5 reach 20; letter l in a by p,q; letter m in b by p;");
    DUE.is(sentence + ", hour 1", 0, () -> post.pass(1));
    DUE.is(sentence + ", before the second stage", "0 1 1", () -> post.letter(0, 0) + " "
        + post.letter(0, 1) + " " + post.letter(0, 6));
    DUE.is(sentence + ", hour 2, another loft at the spot", 1, () -> post.pass(1));
    DUE.is(sentence + ", it lies in that one", "1 2 1", () -> post.letter(0, 0) + " "
        + post.letter(0, 1) + " " + post.letter(0, 7));
    DUE.is(sentence + ", caught in the meantime", 0, () -> post.hawk(0, 4));
    DUE.is(sentence + ", the other letter is lost", 1, () -> post.letter(1, 4));
  }

  private static void firstPigeonFirst() {
    String sentence = "Terms, step 3: flying, by numbers";
    // The order in the stage says nothing.
    LoftPost post = Due.post("loft a at 0,0; loft b at 8,0; pigeon p of b in a; pigeon q of b in a;"
        + "letter k in a by q and p,p and q;");
    DUE.is(sentence + ", both in one hour", 0, () -> post.pass(1));
    DUE.is(sentence + ", the other one is one too many", "1 1",
        () -> post.letter(0, 1) + " " + post.count(10));
    DUE.is(sentence + ", the last stage", 1, () -> post.pass(1));
    DUE.is(sentence + ", one too many behind the last stage", "2 2",
        () -> post.letter(0, 1) + " " + post.count(10));
    DUE.is(sentence + ", it lies there once", 1, () -> post.loft(1, 7));
  }

  private static void doublesTooMany() {
    String sentence = "Terms, step 3: otherwise the double is one too many";
    LoftPost post = Due.post("loft a at 0,0; loft b at 16,0; loft c at 0,63;"
        + "pigeon p of b in a speed 16; pigeon q of b in a speed 8; pigeon r of b in a speed 4;"
        + "pigeon s of c in b speed 20; pigeon t of a in c speed 1; letter l in a by r and q and p,s,t;");
    post.pass(1);
    DUE.is(sentence + ", the first is not", "1 0 1", () -> post.letter(0, 1) + " " + post.count(10)
        + " " + post.letter(0, 0));
    post.pass(1);
    DUE.is(sentence + ", while the next stage flies", "1 1 1", () -> post.letter(0, 1) + " "
        + post.count(10) + " " + post.letter(0, 0));
    post.pass(2);
    DUE.is(sentence + ", one more", "1 2 1", () -> post.letter(0, 1) + " " + post.count(10)
        + " " + post.letter(0, 0));
    post.pass(1);
    DUE.is(sentence + ", the next stage is done", "2 2 2", () -> post.letter(0, 1) + " "
        + post.count(10) + " " + post.letter(0, 0));
    DUE.is(sentence + ", its pigeons are in cages", "1 1 1", () -> post.pigeon(0, 4) + " "
        + post.pigeon(1, 4) + " " + post.pigeon(2, 4));
  }

  private static void searchedFor24Hours() {
    String sentence = "Terms, step 3: with more than 24 it is gone";
    // From the hour 2 on p is at its aim 10,0 and searches; b is always farther than it sees.
    LoftPost post = Due.post("loft a at 0,0; loft b at 5,0 then 63,0 then 63,63 then 63,0 speed 5;"
        + "pigeon p of b in a speed 9 sight 0; letter l in a by p;");
    post.pass(1);
    DUE.is(sentence + ", not at its aim yet", "9 0", () -> post.pigeon(0, 1) + " " + post.pigeon(0, 6));
    post.pass(23);
    DUE.is(sentence + ", 23", "1 23 0 0", () -> post.pigeon(0, 0) + " " + post.pigeon(0, 6) + " "
        + post.letter(0, 4) + " " + post.count(7));
    post.pass(1);
    DUE.is(sentence + ", 24", "1 24 0 0", () -> post.pigeon(0, 0) + " " + post.pigeon(0, 6) + " "
        + post.letter(0, 4) + " " + post.count(7));
    post.pass(1);
    DUE.is(sentence + ", 25", "2 0 1 1", () -> post.pigeon(0, 0) + " " + post.pigeon(0, 6) + " "
        + post.letter(0, 4) + " " + post.count(7));
    DUE.is(sentence + ", at its aim", "2: 10,0", () -> spot(post, 0));
  }

  /** From the hour 2 on p is at its aim 10,30; from the hour 8 on b is so far from it, always. */
  private static LoftPost patient(int far) {
    int x = 10 + far;
    return Due.post("loft a at 0,30; loft b at 6,30 then " + x + ",30 then " + x + ",50 then " + x
        + ",10 then " + x + ",50 then " + x + ",10 speed 4; pigeon p of b in a speed 9 sight 0;"
        + "letter l in a by p;");
  }

  private static void seesAtLast() {
    String sentence = "Terms, step 3: it has searched for 24 hours, ";
    LoftPost sees = patient(24);
    sees.pass(25);
    DUE.is(sentence + "waits", "1: 10,30 24", () -> spot(sees, 0) + " " + sees.pigeon(0, 6));
    sees.pass(1);
    DUE.is(sentence + "and sees its home, 24 away", "1 19 24",
        () -> sees.pigeon(0, 0) + " " + sees.pigeon(0, 1) + " " + sees.pigeon(0, 6));
    DUE.is(sentence + "and comes home", 1, () -> sees.pass(200));
    LoftPost blind = patient(25);
    blind.pass(25);
    DUE.is(sentence + "waits for one 25 away", "1: 10,30 24",
        () -> spot(blind, 0) + " " + blind.pigeon(0, 6));
    blind.pass(1);
    DUE.is(sentence + "and does not see it, 25 away", "2: 10,30", () -> spot(blind, 0));
  }

  // ---- step 4

  private static void reachOfHawks() {
    String sentence = "Terms, step 4: if it is not farther than its reach";
    for (int reach : new int[] {0, 1, 2, 19, 20}) {
      LoftPost post = Due.post("loft a at 0,0; loft b at 63,0; pigeon p of b in a speed 1;"
          + "hawk at 40," + (reach > 1 ? 2 : 0) + " reach " + reach + "; letter l in a by p;");
      post.pass(39 - reach);
      DUE.is(sentence + ", " + (reach + 1) + " of " + reach, 1, () -> post.pigeon(0, 0));
      post.pass(1);
      DUE.is(sentence + ", " + reach + " of " + reach, "2: " + (40 - reach) + ",0",
          () -> spot(post, 0));
    }
    LoftPost beside = Due.post("loft a at 0,0; loft b at 63,0; pigeon p of b in a speed 1;"
        + "hawk at 40,3 reach 2; hawk at 20,1 reach 0; letter l in a by p;");
    DUE.is(sentence + ", it passes by", 1, () -> beside.pass(63));
  }

  private static void nearestOfSeveral() {
    String sentence = "Terms, step 4: the nearest, of several the one with the smallest number";
    // Behind the hour 1 p is at 10,0, q at 12,0 and r at 14,0.
    String text = "loft a at 8,0; loft b at 60,0; pigeon p of b in a speed 2;"
        + "pigeon q of b in a speed 4; pigeon r of b in a speed 6;"
        + "hawk at SPOT reach 20; letter l in a by r and q and p;";
    String[][] due = {{"12,5", "2 1 1"}, {"12,2", "2 1 1"}, {"12,1", "1 2 1"}, {"12,0", "1 2 1"},
        {"11,0", "2 1 1"}, {"13,0", "1 2 1"}, {"14,1", "1 1 2"}, {"14,2", "1 2 1"},
        {"15,0", "1 1 2"}, {"10,1", "2 1 1"}, {"34,0", "1 1 2"}, {"35,0", "1 1 1"}};
    for (String[] one : due) {
      LoftPost post = Due.post(text.replace("SPOT", one[0]));
      post.pass(1);
      DUE.is(sentence + ", hawk at " + one[0], one[1], () -> post.pigeon(0, 0) + " "
          + post.pigeon(1, 0) + " " + post.pigeon(2, 0));
    }
  }

  private static void onePigeonAnHour() {
    String sentence = "Terms, step 4: hawks, by numbers, each one pigeon an hour";
    LoftPost post = Due.post("loft a at 0,0; loft b at 60,0; pigeon p of b in a speed 2;"
        + "pigeon q of b in a speed 2; pigeon r of b in a speed 2; hawk at 9,0 reach 20 rests 1;"
        + "hawk at 2,0 reach 0 rests 9; letter l in a by p and q and r;");
    post.pass(1);
    DUE.is(sentence + ", the first hawk p, the second one q", "2 2 1 1 1", () -> post.pigeon(0, 0)
        + " " + post.pigeon(1, 0) + " " + post.pigeon(2, 0) + " " + post.hawk(0, 4) + " "
        + post.hawk(1, 4));
    DUE.is(sentence + ", and rest", "1 9", () -> post.hawk(0, 3) + " " + post.hawk(1, 3));
  }

  private static void cagesAreSafe() {
    String sentence = "Terms, step 4: a pigeon that flies";
    LoftPost post = Due.post("loft a at 0,0; loft b at 8,0; pigeon p of b in a; pigeon q of a;"
        + "hawk at 8,0 reach 20; hawk at 0,0 reach 20; letter l in a by p;");
    DUE.is(sentence + ", not one that came home in this hour", 1, () -> post.pass(1));
    post.pass(20);
    DUE.is(sentence + ", not those in cages", "0 0 0", () -> post.count(7) + " " + post.hawk(0, 4)
        + " " + post.hawk(1, 4));
    // What is gone by its search in this hour is not caught, and what was caught is not once more.
    LoftPost gone = Due.post("loft a at 0,0; loft b at 5,0 then 63,0 then 63,63 then 63,0 speed 5;"
        + "pigeon p of b in a speed 9 sight 0; hawk at 63,63 reach 0; letter l in a by p;");
    gone.pass(25);
    gone.lure(0, 10, 0);
    gone.pass(1);
    DUE.is(sentence + ", not one that is gone", "2 0 0", () -> gone.pigeon(0, 0) + " "
        + gone.hawk(0, 3) + " " + gone.hawk(0, 4));
    LoftPost twice = Due.post("loft a at 0,0; loft b at 60,0; pigeon p of b in a;"
        + "hawk at 8,0 reach 0 rests 1; hawk at 8,0 reach 0 rests 1; letter l in a by p;");
    twice.pass(9);
    DUE.is(sentence + ", not one that was caught", "1 0", () -> twice.hawk(0, 4) + " "
        + twice.hawk(1, 4));
  }

  /** p and q fly side by side; the hawk reaches them from the hour 12 to the hour 52. */
  private static LoftPost resting(String rests) {
    return Due.post("loft a at 0,0; loft b at 63,0; pigeon p of b in a speed 1;"
        + "pigeon q of b in a speed 1; hawk at 32,0 reach 20" + rests + "; letter l in a by p and q;");
  }

  private static void restsOfHawks() {
    String sentence = "Terms, step 4: one that rests has an hour less to rest, rests ";
    for (int rests : new int[] {1, 2, 4, 23, 24}) {
      LoftPost post = resting(rests == 4 ? "" : " rests " + rests);
      post.pass(11);
      DUE.is(sentence + rests + ", none yet", "0 0", () -> post.hawk(0, 3) + " " + post.hawk(0, 4));
      for (int left = rests; left >= 0; left--) {
        post.pass(1);
        DUE.is(sentence + rests + ", left", left + " 1 1",
            () -> post.hawk(0, 3) + " " + post.hawk(0, 4) + " " + post.pigeon(1, 0));
      }
      post.pass(1);
      DUE.is(sentence + rests + ", the next one", rests + " 2 2: " + (13 + rests) + ",0",
          () -> post.hawk(0, 3) + " " + post.hawk(0, 4) + " " + spot(post, 1));
      post.pass(rests);
      DUE.is(sentence + rests + ", to the end", 0, () -> post.hawk(0, 3));
      post.pass(1);
      DUE.is(sentence + rests + ", and not below", 0, () -> post.hawk(0, 3));
    }
  }

  // ---- step 5, and what is lost

  private static void hoursOfArrival() {
    String sentence = "Terms, step 5: the hour is 1 greater, ";
    LoftPost post = Due.post("loft a at 0,0; pigeon p of a; letter k in a by p; letter l in a by p;");
    DUE.is(sentence + "at first", 0, () -> post.count(0));
    post.pass(1);
    DUE.is(sentence + "behind step 3", "1 0 -1", () -> post.count(0) + " " + post.letter(0, 7) + " "
        + post.letter(1, 7));
    post.pass(1);
    DUE.is(sentence + "once more", "2 0 1", () -> post.count(0) + " " + post.letter(0, 7) + " "
        + post.letter(1, 7));
    post.pass(200);
    DUE.is(sentence + "200 more", "202 0 1", () -> post.count(0) + " " + post.letter(0, 7) + " "
        + post.letter(1, 7));
  }

  private static final String LOST = "loft a at 0,0; loft b at 16,0; loft c at 40,40;";

  private static void notLost() {
    String sentence = "Terms: a letter is not lost, ";
    LoftPost waits = Due.post(LOST + "pigeon p of b in a; letter l in a by p;");
    DUE.is(sentence + "if a pigeon of its stage waits for it", 0, () -> waits.letter(0, 4));
    waits.pass(1);
    DUE.is(sentence + "if a double of its stage flies", 0, () -> waits.letter(0, 4));
    waits.pass(1);
    DUE.is(sentence + "if it has arrived", 0, () -> waits.letter(0, 4));
    waits.pass(100);
    DUE.is(sentence + "if it arrived long ago", 0, () -> waits.letter(0, 4) + waits.count(9));
    LoftPost last = Due.post(LOST + "pigeon o of b in c; pigeon p of b in a;"
        + "letter l in a by o and p;");
    DUE.is(sentence + "if the last pigeon of its stage waits", 0, () -> last.letter(0, 4));
    LoftPost one = Due.post(LOST + "pigeon p of b in a speed 1; pigeon q of b in a speed 1;"
        + "hawk at 1,0 reach 0; letter l in a by p and q;");
    one.pass(1);
    DUE.is(sentence + "if one of two doubles still flies", "1 0", () -> one.count(7) + " "
        + one.letter(0, 4));
  }

  private static void lost() {
    String sentence = "Terms: a letter is lost, ";
    LoftPost elsewhere = Due.post(LOST + "pigeon p of b in c; pigeon q of b in a; pigeon r of b;"
        + "letter l in a by p and r;");
    DUE.is(sentence + "if no pigeon of its stage is where it lies", 1, () -> elsewhere.letter(0, 4));
    elsewhere.bring(0, 0);
    DUE.is(sentence + "but not when one was brought", 0, () -> elsewhere.letter(0, 4));
    elsewhere.bring(0, 1);
    DUE.is(sentence + "and once more", 1, () -> elsewhere.letter(0, 4));
    LoftPost stages = Due.post(LOST + "pigeon p of b in c; pigeon q of b in a; letter l in a by p,q;");
    DUE.is(sentence + "though one of a later stage waits", 1, () -> stages.letter(0, 4));
    LoftPost caught = Due.post(LOST + "pigeon p of b in a; hawk at 8,0 reach 0; letter l in a by p;");
    caught.pass(1);
    DUE.is(sentence + "if its double is caught", 1, () -> caught.letter(0, 4));
    LoftPost late = Due.post(LOST + "pigeon p of b in a; pigeon q of b in a speed 1;"
        + "pigeon r of a in c; letter l in a by p and q,r;");
    late.pass(2);
    DUE.is(sentence + "though a double of an earlier stage flies", "1 1 1", () -> late.letter(0, 5)
        + " " + late.letter(0, 4) + " " + late.count(9));
    LoftPost other = Due.post(LOST + "pigeon p of b in a; letter k in a by p; letter l in a by p;");
    DUE.is(sentence + "not before its pigeon sets out with another letter", "0 0",
        () -> other.letter(0, 4) + " " + other.letter(1, 4));
    other.pass(1);
    DUE.is(sentence + "though its pigeon flies with another letter", "0 1",
        () -> other.letter(0, 4) + " " + other.letter(1, 4));
    DUE.is(sentence + "and it alone", 1, () -> other.count(9));
  }
}
