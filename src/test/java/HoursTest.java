/** Promise 13, and the steps of an hour in section 2 of the document. */
public final class HoursTest {
  private static final Due DUE = new Due();

  public static void main(String[] args) {
    passing();
    loftsGoFirst();
    oneStageAnHour();
    firstLetterTakesThePigeon();
    firstPigeonComesFirst();
    sightAndSearch();
    homeAtTheSpotOfNoAim();
    lateDoubles();
    catching();
    resting();
    doublesWhereTheLetterLies();
    DUE.end();
  }

  private static String spot(LoftPost post, int pigeon) {
    return post.pigeon(pigeon, 0) + ": " + post.pigeon(pigeon, 1) + "," + post.pigeon(pigeon, 2);
  }

  private static void passing() {
    LoftPost post = Due.post("loft a at 0,0; loft b at 10,0; pigeon p of b in a speed 5;"
        + "pigeon q of b in a speed 5; pigeon r of b in a speed 2; letter k in a by p;"
        + "letter l in a by q; letter m in a by r;");
    DUE.refuses("pass 0", Due.ILLEGAL, post, () -> post.pass(0));
    DUE.refuses("pass -1", Due.ILLEGAL, post, () -> post.pass(-1));
    DUE.refuses("pass 201", Due.ILLEGAL, post, () -> post.pass(201));
    DUE.refuses("pass least", Due.ILLEGAL, post, () -> post.pass(Integer.MIN_VALUE));
    DUE.refuses("pass most", Due.ILLEGAL, post, () -> post.pass(Integer.MAX_VALUE));
    DUE.is("pass 1", 0, () -> post.pass(1));
    DUE.is("pass 1: two arrive", 2, () -> post.pass(1));
    DUE.is("pass 200: one arrives", 1, () -> post.pass(200));
    DUE.is("pass 200", 0, () -> post.pass(200));
    DUE.is("the hour", 402, () -> post.count(0));
    DUE.is("the hours of arrival", "1 1 4",
        () -> post.letter(0, 7) + " " + post.letter(1, 7) + " " + post.letter(2, 7));
  }

  private static void loftsGoFirst() {
    LoftPost post = Due.post("loft a at 0,0 then 20,0 speed 3; loft b at 0,40 then 40,40 speed 5;"
        + "pigeon p of b in a speed 2 sight 0; letter l in a by p;");
    post.pass(1);
    // From 3,0 to 5,40 and not farther than to x 5.
    DUE.is("hour 1", "1: 5,2", () -> spot(post, 0));
    post.pass(1);
    DUE.is("hour 2, the aim stays", "1: 5,4", () -> spot(post, 0));
    // Speed 5 is enough where the loft comes to meet it: it comes home to where b is now.
    LoftPost meeting = Due.post("loft a at 0,0; loft b at 10,5 then 5,5 speed 5;"
        + "pigeon p of b in a speed 5 sight 0; letter l in a by p;");
    DUE.is("meeting", 1, () -> meeting.pass(1));
  }

  private static void oneStageAnHour() {
    LoftPost post = Due.post("loft a at 1,1; pigeon r of a; letter n in a by r,r,r;");
    for (int hour = 0; hour < 3; hour++) {
      int due = hour == 2 ? 1 : 0;
      DUE.is("pass, hour " + hour, due, () -> post.pass(1));
      DUE.is("stage, hour " + hour, hour + 1, () -> post.letter(0, 1));
    }
    DUE.is("the hour of arrival", 2, () -> post.letter(0, 7));
    DUE.is("doubles", 3, () -> post.letter(0, 6));
  }

  private static void firstLetterTakesThePigeon() {
    LoftPost post = Due.post("loft a at 0,0; loft b at 9,0; pigeon p of b in a speed 3;"
        + "letter k in a by p; letter l in a by p;");
    post.pass(1);
    DUE.is("k is carried", "0 1", () -> post.pigeon(0, 5) + " " + post.letter(0, 6));
    DUE.is("l is not, and lost", "0 1", () -> post.letter(1, 6) + " " + post.letter(1, 4));
    DUE.is("k arrives", 1, () -> post.pass(2));
    post.bring(0, 0);
    DUE.is("l is not lost now", 0, () -> post.letter(1, 4));
    DUE.is("l arrives", 1, () -> post.pass(3));
    DUE.is("the hour in which l arrives", 5, () -> post.letter(1, 7));
  }

  private static void firstPigeonComesFirst() {
    // Both come in the same hour: the double of the smaller number counts, the other is too many.
    LoftPost post = Due.post("loft a at 0,0; loft b at 6,0; loft c at 6,6; pigeon p of b in a speed 3;"
        + "pigeon q of b in a speed 4; letter l in a by q and p;");
    DUE.is("pass 1", 0, () -> post.pass(1));
    DUE.is("pass 2", 1, () -> post.pass(1));
    DUE.is("one is too many", 1, () -> post.count(10));
    DUE.is("all in cages", 2, () -> post.loft(1, 5));
  }

  private static void sightAndSearch() {
    String text = "loft a at 0,0; loft b at 10,0 then 10,60 speed 5;"
        + "pigeon p of b in a speed 8 sight SIGHT; letter l in a by p;";
    // Behind the hour 1 it is at 8,5; b goes to 10,10, which is 5 away.
    LoftPost sees = Due.post(text.replace("SIGHT", "5"));
    sees.pass(1);
    DUE.is("hour 1", "1: 8,5", () -> spot(sees, 0));
    DUE.is("it sees its home", 1, () -> sees.pass(1));
    LoftPost blind = Due.post(text.replace("SIGHT", "4"));
    DUE.is("it does not see its home", 0, () -> blind.pass(2));
    DUE.is("it is at its aim", "1: 10,5", () -> spot(blind, 0));
    DUE.is("it has searched", 1, () -> blind.pigeon(0, 6));
    // Sight 0: b is 15 away in the hour 20, when the pigeon has searched for 18 hours.
    LoftPost patient = Due.post("loft a at 0,0; loft b at 10,0 then 10,60 speed 5;"
        + "pigeon p of b in a speed 5 sight 0; letter k in a by p; letter l in a by p;");
    patient.pass(19);
    DUE.is("searched, hour 19", 18, () -> patient.pigeon(0, 6));
    DUE.is("waits, hour 19", "1: 10,5", () -> spot(patient, 0));
    patient.pass(1);
    DUE.is("goes on, hour 20", "1: 10,10", () -> spot(patient, 0));
    DUE.is("searched, hour 20", 18, () -> patient.pigeon(0, 6));
    DUE.is("comes home, hour 21", 1, () -> patient.pass(1));
    DUE.is("searches no more", 0, () -> patient.pigeon(0, 6));
    // It sets out once more, with the other letter, and has searched for 0 hours then.
    patient.bring(0, 0);
    patient.pass(1);
    DUE.is("sets out once more", "1 1", () -> patient.pigeon(0, 0) + " " + patient.pigeon(0, 5));
    DUE.is("has not searched", 0, () -> patient.pigeon(0, 6));
  }

  private static void homeAtTheSpotOfNoAim() {
    // Its aim is 0,8; in the hour 2 it flies to 0,4, and so does its home, which it does not see.
    LoftPost crossing = Due.post("loft a at 0,0; loft b at 5,13 then 0,8 then 0,4 speed 5;"
        + "pigeon p of b in a speed 2 sight 0; letter l in a by p;");
    crossing.pass(1);
    DUE.is("crossing, hour 1", "1: 0,2", () -> spot(crossing, 0));
    DUE.is("crossing: home, though not at its aim", 1, () -> crossing.pass(1));
    DUE.is("crossing, hour 2", "0: 0,4", () -> spot(crossing, 0));
  }

  private static void lateDoubles() {
    // q comes when the letter lies before the next stage, r when it has arrived.
    LoftPost post = Due.post("loft a at 0,0; loft b at 12,0; pigeon p of b in a speed 6;"
        + "pigeon q of b in a speed 4; pigeon r of b in a speed 1; pigeon s of a in b speed 6;"
        + "letter l in a by p and q and r, s;");
    post.pass(2);
    DUE.is("p came", "1 0", () -> post.letter(0, 1) + " " + post.count(10));
    post.pass(1);
    DUE.is("q came too late", "1 1", () -> post.letter(0, 1) + " " + post.count(10));
    post.pass(1);
    DUE.is("arrived", "2 1", () -> post.letter(0, 1) + " " + post.count(10));
    post.pass(7);
    DUE.is("r flies", 1, () -> post.letter(0, 5));
    DUE.is("nothing more arrives", 0, () -> post.pass(1));
    DUE.is("r came too late", "2 2", () -> post.letter(0, 1) + " " + post.count(10));
    DUE.is("the letter stays in a", 0, () -> post.letter(0, 0));
  }

  private static void catching() {
    // Of two at one distance the smaller number; what is beyond its reach is not caught.
    String text = "loft a at 10,0; loft b at 30,0; pigeon p of b in a speed 4;"
        + "pigeon q of b in a speed 6; hawk at 15,5 reach REACH; letter l in a by q and p;";
    LoftPost near = Due.post(text.replace("REACH", "5"));
    near.pass(1);
    DUE.is("p and q are 5 away: p is caught", "2: 14,0 1: 16,0",
        () -> spot(near, 0) + " " + spot(near, 1));
    LoftPost far = Due.post(text.replace("REACH", "4"));
    far.pass(1);
    DUE.is("none is caught", "1: 14,0 1: 16,0", () -> spot(far, 0) + " " + spot(far, 1));
    // The first hawk catches first; the second one takes what is left, and what is in a cage is safe.
    LoftPost two = Due.post("loft a at 0,0; loft b at 5,0; loft c at 20,0; pigeon o of b in a;"
        + "pigeon p of c in a speed 5; pigeon q of c in a speed 3; hawk at 5,0 reach 9;"
        + "hawk at 5,0 reach 9; hawk at 5,0 reach 9; letter k in a by o; letter l in a by p and q;");
    DUE.is("o comes home", 1, () -> two.pass(1));
    DUE.is("hawks", "1 1 0", () -> two.hawk(0, 4) + " " + two.hawk(1, 4) + " " + two.hawk(2, 4));
    DUE.is("p and q are gone", "2: 5,0 2: 3,0", () -> spot(two, 1) + " " + spot(two, 2));
  }

  private static void resting() {
    // One pigeon sets out each hour, and is at the hawk's spot at its end.
    LoftPost post = Due.post("loft a at 0,0; loft b at 12,0; pigeon p0 of b in a speed 4;"
        + "pigeon p1 of b in a speed 4; pigeon p2 of b in a speed 4; pigeon p3 of b in a speed 4;"
        + "pigeon r1 of a; pigeon r2 of a; pigeon r3 of a; hawk at 4,0 reach 0 rests 2;"
        + "letter l0 in a by p0; letter l1 in a by r1,p1; letter l2 in a by r2,r2,p2;"
        + "letter l3 in a by r3,r3,r3,p3;");
    int[] rests = {2, 1, 0, 2};
    int[] caught = {1, 1, 1, 2};
    for (int hour = 0; hour < 4; hour++) {
      post.pass(1);
      DUE.is("hour " + hour, rests[hour] + " " + caught[hour],
          () -> post.hawk(0, 3) + " " + post.hawk(0, 4));
    }
    DUE.is("p3 is caught", 2, () -> post.pigeon(3, 0));
    DUE.is("p2 comes home", 1, () -> post.pass(1));
    DUE.is("p1 and p2 came home", 2, () -> post.count(8));
  }

  private static void doublesWhereTheLetterLies() {
    // q waits in c: it does not set out with the letter in a, and is in flight for no letter.
    LoftPost post = Due.post("loft a at 0,0; loft b at 12,0; loft c at 0,12; pigeon p of b in a;"
        + "pigeon q of b in c; letter l in a by q and p;");
    post.pass(1);
    DUE.is("only p", "1 0", () -> post.pigeon(0, 0) + " " + post.pigeon(1, 0));
    DUE.is("doubles", 1, () -> post.letter(0, 6));
    // A pigeon brought to the letter sets out later, with the same stage.
    LoftPost later = Due.post("loft a at 0,0; loft b at 40,0; loft c at 0,12;"
        + "pigeon p of b in a speed 1; pigeon q of b in c speed 20; letter l in a by q and p;");
    later.pass(5);
    later.bring(1, 0);
    DUE.is("q comes first", 1, () -> later.pass(2));
    DUE.is("doubles of both", 2, () -> later.letter(0, 6));
  }
}
