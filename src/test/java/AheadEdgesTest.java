import java.math.BigInteger;
import java.util.ArrayList;
import java.util.List;

/**
 * Promises 14 to 21: looking ahead, at the last hour that is looked at and the first one behind it,
 * and at each other boundary that a sentence names. What these calls refuse stands in RefusalsTest.
 */
public final class AheadEdgesTest {
  private static final Due DUE = new Due();

  public static void main(String[] args) {
    aheadIsWhatComes();
    foreseenHours();
    foreseenAtTheLimit();
    foreseenLossesAtTheLimit();
    foreseenWithoutHours();
    arrivesBehind();
    arrivesAtTheLimit();
    whereBehind();
    whereRoundTheSpots();
    whereInSpots();
    blamedAtTheLimit();
    blamedThoughItArrives();
    blamedAlone();
    blamedOfSeveral();
    blamedNone();
    doublesOfTwenty();
    doublesInTheOrderOfTheStage();
    doublesFewerThanAll();
    doublesAtTheLimit();
    doublesToALaterStage();
    doublesThatWouldSetOut();
    neediestAtTheLimit();
    neediestOfSeveral();
    neediestBehindHours();
    meanHour();
    digestOfANewPost();
    digestInItsOrder();
    DUE.end();
  }

  /** A post with this text, behind so many hours, which one call may not ask for. */
  private static LoftPost behind(int hours, String text) {
    LoftPost post = Due.post(text);
    for (int left = hours; left > 0; left -= 200) {
      post.pass(Math.min(left, 200));
    }
    return post;
  }

  private static String foreseen(LoftPost post, int hours) {
    return post.foresee(hours, 0) + " " + post.foresee(hours, 1) + " " + post.foresee(hours, 2);
  }

  /** What is seen ahead, from the midst of flights, searches and rests, is what comes. */
  private static void aheadIsWhatComes() {
    String sentence = "Promises 14 to 16: if nothing is done, from ";
    String moving = "loft a at 9,30 then 9,60 then 30,30 speed 3;loft b at 50,50 then 5,9 speed 2;"
        + "loft c at 20,60 then 60,20 then 1,1 speed 4;pigeon p of b in a speed 4 sight 9;"
        + "pigeon q of a in b speed 5 sight 1;pigeon r of c in a speed 7;pigeon s of a in c;"
        + "pigeon t of b in c speed 3;pigeon u of b in a speed 1;"
        + "hawk at 20,40 reach 5 rests 6;hawk at 40,40 reach 6;"
        + "letter h in c by t;letter i in b by q;letter j in a by r,s;letter k in a by u and p,q;"
        + "letter l in c by s and q,p,q;letter m in c by t,q,p;";
    for (String text : new String[] {moving, Busy.TEXT}) {
      for (int hours = 0; hours < 40; hours += 3) {
        comesBehind(sentence + hours + " hours, ", hours, text);
      }
    }
  }

  private static void comesBehind(String sentence, int hours, String text) {
    LoftPost post = behind(hours, text);
    LoftPost later = behind(hours, text);
    for (int ahead = 1; ahead <= 60; ahead++) {
      later.pass(1);
      int asked = ahead;
      DUE.is(sentence + "foresee " + ahead, later.count(8) + " " + later.count(9) + " "
          + later.count(7), () -> foreseen(post, asked));
    }
    for (int letter = 0; letter < later.count(4); letter++) {
      int number = letter;
      int came = later.letter(letter, 7);
      if (came >= 0) {
        DUE.is(sentence + "arrives " + letter, Math.max(0, came + 1 - hours),
            () -> post.arrives(number));
      }
    }
    for (int loft = 0; loft < later.count(1); loft++) {
      int number = loft;
      DUE.is(sentence + "where " + loft, 64 * later.loft(loft, 1) + later.loft(loft, 0),
          () -> post.where(number, 60));
    }
  }

  // ---- promise 14

  private static void foreseenHours() {
    String sentence = "Promise 14: letters that have arrived, that are lost, pigeons that are gone: ";
    LoftPost post = Due.post("loft a at 0,0;loft b at 40,0;pigeon p of b in a speed 20;"
        + "pigeon q of b in a speed 10;hawk at 30,0 reach 0;pigeon r of a;letter j in a by r;"
        + "letter k in a by p;letter l in a by q;letter m in b by r;");
    // r comes in the hour 1, p in the hour 2; q is caught in the hour 3; m is lost from the first.
    String[] due = {"1 1 0", "2 1 0", "2 2 1", "2 2 1"};
    for (int hours = 1; hours <= 4; hours++) {
      int asked = hours;
      DUE.is(sentence + hours, due[hours - 1], () -> foreseen(post, asked));
    }
    DUE.is(sentence + 200, "2 2 1", () -> foreseen(post, 200));
    for (int hours = 1; hours <= 4; hours++) {
      int asked = hours;
      DUE.is(sentence + "none of none, " + hours, "0 0 0",
          () -> foreseen(new LoftPost(), asked));
    }
    post.pass(2);
    DUE.is(sentence + "from the hour 2 on", "2 2 1", () -> foreseen(post, 1));
  }

  private static void foreseenAtTheLimit() {
    String sentence = "Promise 14: behind hours from 1 to 200, ";
    for (int hours : new int[] {2, 63, 64, 199, 200}) {
      LoftPost post = Due.post(Relay.text(hours));
      DUE.is(sentence + "an hour ahead of " + hours, 0, () -> post.foresee(hours - 1, 0));
      DUE.is(sentence + "in time, " + hours, 1, () -> post.foresee(hours, 0));
    }
    DUE.is(sentence + "1", 1, () -> Due.post(Relay.text(1)).foresee(1, 0));
    LoftPost late = Due.post(Relay.text(201));
    DUE.is(sentence + "an hour behind 200", 0, () -> late.foresee(200, 0));
    late.pass(1);
    DUE.is(sentence + "an hour later", "0 1", () -> late.foresee(199, 0) + " "
        + late.foresee(200, 0));
  }

  private static void foreseenLossesAtTheLimit() {
    String sentence = "Promise 14: lost and gone behind hours from 1 to 200, ";
    for (int hours : new int[] {2, 63, 65, 200, 201}) {
      // The last pigeon is caught an hour before it would come.
      LoftPost post = Due.post(Relay.caught(hours));
      if (hours > 2) {
        DUE.is(sentence + "not yet, " + hours, "0 0 0", () -> foreseen(post, hours - 2));
      }
      DUE.is(sentence + "in time, " + hours, "0 1 1", () -> foreseen(post, hours - 1));
    }
    LoftPost late = Due.post(Relay.caught(202));
    DUE.is(sentence + "an hour behind 200", "0 0 0", () -> foreseen(late, 200));
    late.pass(1);
    DUE.is(sentence + "an hour later", "0 1 1", () -> foreseen(late, 200));
  }

  private static void foreseenWithoutHours() {
    String sentence = "Promise 14: nothing can happen any more";
    LoftPost post = Due.post("loft a at 0,0;loft b at 9,9;pigeon p of a;letter l in b by p;");
    DUE.is(sentence, "0 1 0", () -> foreseen(post, 1));
    post.bring(0, 1);
    DUE.is(sentence + ", until a pigeon is brought", "0 0 0", () -> foreseen(post, 1));
    DUE.is(sentence + ", until a pigeon is brought", "1 0 0", () -> foreseen(post, 2));
  }

  // ---- promise 15

  private static void arrivesBehind() {
    String sentence = "Promise 15: behind how many hours it has arrived, ";
    for (int hours : new int[] {1, 2, 62, 63, 64, 126, 127, 252, 299}) {
      LoftPost post = Due.post(Relay.text(hours));
      DUE.is(sentence + hours, hours, () -> post.arrives(0));
    }
    LoftPost post = Due.post(Relay.text(2));
    post.pass(1);
    DUE.is(sentence + "an hour less later", 1, () -> post.arrives(0));
    post.pass(1);
    DUE.is(sentence + "0 if it has", 0, () -> post.arrives(0));
    post.pass(200);
    DUE.is(sentence + "0 if it has long ago", 0, () -> post.arrives(0));
    DUE.is(sentence + "-1 if its pigeon is caught", -1,
        () -> Due.post(Relay.caught(20)).arrives(0));
    DUE.is(sentence + "-1 if it is lost", -1, () -> Due.post(
        "loft a at 0,0;loft b at 9,9;pigeon p of a;letter l in b by p;").arrives(0));
  }

  private static void arrivesAtTheLimit() {
    String sentence = "Promise 15: at most 300, ";
    DUE.is(sentence + "300", 300, () -> Due.post(Relay.text(300)).arrives(0));
    for (int hours : new int[] {301, 302, 378}) {
      DUE.is(sentence + hours, -1, () -> Due.post(Relay.text(hours)).arrives(0));
      LoftPost post = behind(hours - 301, Relay.text(hours));
      DUE.is(sentence + "301 of " + hours, -1, () -> post.arrives(0));
      post.pass(1);
      DUE.is(sentence + "300 of " + hours, 300, () -> post.arrives(0));
    }
  }

  // ---- promise 16

  private static void whereBehind() {
    String sentence = "Promise 16: behind 0 to 500 hours, ";
    LoftPost post = Due.post("loft a at 63,0 then 63,63 speed 1;loft b at 5,6;"
        + "loft c at 0,0 then 63,63 speed 1;");
    int[][] due = {{0, 0}, {1, 1}, {62, 62}, {63, 63}, {64, 62}, {125, 1}, {126, 0}, {127, 1},
        {200, 52}, {201, 51}, {499, 5}, {500, 4}};
    for (int[] one : due) {
      DUE.is(sentence + one[0], 64 * one[1] + 63, () -> post.where(0, one[0]));
      DUE.is(sentence + one[0] + ", a loft that stays", 64 * 6 + 5, () -> post.where(1, one[0]));
      DUE.is(sentence + one[0] + ", the last loft", 65 * one[1], () -> post.where(2, one[0]));
    }
    post.pass(4);
    DUE.is(sentence + "0, 4 hours later", 64 * 4 + 63, () -> post.where(0, 0));
    DUE.is(sentence + "500, 4 hours later", 63, () -> post.where(0, 500));
    DUE.is(sentence + "496, 4 hours later", 64 * 4 + 63, () -> post.where(0, 496));
  }

  private static void whereRoundTheSpots() {
    String sentence = "Promise 16: round its spots, ";
    String text = "loft a at 3,9 then 20,9 then 20,31 then 2,60 then 2,60 then 63,1 speed 4;";
    for (int hours = 0; hours <= 500; hours++) {
      int asked = hours;
      LoftPost later = behind(hours, text);
      DUE.is(sentence + hours, 64 * later.loft(0, 1) + later.loft(0, 0),
          () -> Due.post(text).where(0, asked));
    }
  }

  private static void whereInSpots() {
    String sentence = "Promise 16: 64 * y + x";
    int[][] due = {{0, 0, 0}, {63, 0, 63}, {0, 63, 4032}, {63, 63, 4095}, {1, 2, 129},
        {2, 1, 66}};
    for (int[] one : due) {
      LoftPost post = Due.post("loft a at " + one[0] + "," + one[1] + " speed 5;");
      DUE.is(sentence, one[2], () -> post.where(0, 0));
      DUE.is(sentence + ", with one spot it stays", one[2], () -> post.where(0, 500));
    }
  }

  // ---- promise 17

  /**
   * The last stage has a pigeon that comes behind these hours, and one that would come an hour
   * earlier but for the second hawk; both start from a spot that is 3 away. The first hawk stands
   * in no one's way.
   */
  private static String detour(int hours) {
    int fourth = hours - 255;
    return "loft a at 0,0;loft b at 63,63;loft c at " + fourth + ",0;loft d at " + (fourth + 3)
        + ",0;hawk at 63,0 reach 0 rests 1;hawk at " + (fourth + 2) + ",0 reach 0 rests 24;"
        + "pigeon p0 of b in a speed 1;pigeon p1 of a in b speed 1;pigeon p2 of b in a speed 1;"
        + "pigeon p3 of a in b speed 1;pigeon p4 of c in a speed 1;pigeon slow of d in c speed 1;"
        + "pigeon fast of d in c speed 2;letter l in a by p0,p1,p2,p3,p4,slow and fast;";
  }

  private static void blamedAtTheLimit() {
    String sentence = "Promise 17: within 300 hours, ";
    for (int hours : new int[] {2, 63, 299, 300}) {
      DUE.is(sentence + "without it " + hours, 0, () -> Due.post(Relay.caught(hours)).blame(0));
    }
    DUE.is(sentence + "without it 301", -1, () -> Due.post(Relay.caught(301)).blame(0));
    LoftPost later = behind(1, Relay.caught(301));
    DUE.is(sentence + "without it 301, an hour later", 0, () -> later.blame(0));
  }

  private static void blamedThoughItArrives() {
    String sentence = "Promise 17: only if this is earlier than with all of them, ";
    int[][] due = {{300, 300, 1}, {301, -1, 1}, {302, -1, -1}};
    for (int[] one : due) {
      LoftPost post = Due.post(detour(one[0]));
      DUE.is(sentence + "with all of them " + one[0], one[1], () -> post.arrives(0));
      DUE.is(sentence + (one[0] - 1) + " and not " + one[0], one[2], () -> post.blame(0));
    }
    LoftPost later = behind(1, detour(302));
    DUE.is(sentence + "300 and not 301, an hour later", 1, () -> later.blame(0));
    // The hawk catches the slow one of two: that is no blame.
    LoftPost same = Due.post("loft a at 0,0;loft b at 40,0;pigeon p of b in a speed 10;"
        + "pigeon q of b in a speed 5;hawk at 5,0 reach 0;letter l in a by p and q;");
    DUE.is(sentence + "but not as early", "4 -1", () -> same.arrives(0) + " " + same.blame(0));
  }

  private static void blamedAlone() {
    String sentence = "Promise 17: without which, that one alone, ";
    String text = "loft a at 0,0;loft b at 40,0;pigeon p of b in a speed 10;"
        + "hawk at X,0 reach 0;hawk at Y,0 reach 0;letter l in a by p;";
    DUE.is(sentence + "each of two would do", -1,
        () -> Due.post(text.replace("X", "10").replace("Y", "20")).blame(0));
    DUE.is(sentence + "two at one spot", -1,
        () -> Due.post(text.replace("X", "10").replace("Y", "10")).blame(0));
    DUE.is(sentence + "the first one", 0,
        () -> Due.post(text.replace("X", "10").replace("Y", "21")).blame(0));
    DUE.is(sentence + "the second one", 1,
        () -> Due.post(text.replace("X", "11").replace("Y", "20")).blame(0));
    LoftPost resting = Due.post("loft a at 0,0;loft b at 40,0;pigeon p of b in a speed 10;"
        + "pigeon q of b in a speed 10;hawk at 10,0 reach 0 rests 9;letter k in a by p;"
        + "letter l in a by q;");
    // Without the hawk p comes, and q comes in each case, as the hawk catches p alone.
    DUE.is(sentence + "it is to blame for the one that it catches", "0 -1",
        () -> resting.blame(0) + " " + resting.blame(1));
  }

  private static void blamedOfSeveral() {
    String sentence = "Promise 17: of several the one with the smallest number, ";
    String far = "hawk at 63,63 reach 0;";
    // p and q are caught one by one, so that each of two hawks lets one through.
    String world = "loft a at 0,0;loft b at 40,0;pigeon p of b in a speed 10;"
        + "pigeon q of b in a speed 10;";
    String letter = "letter l in a by p and q;";
    String near = "hawk at 10,0 reach 0 rests 9;";
    DUE.is(sentence + "0 and 1", 0, () -> Due.post(world + near + near + letter).blame(0));
    DUE.is(sentence + "4 and 5", 4,
        () -> Due.post(world + far.repeat(4) + near + near + letter).blame(0));
    DUE.is(sentence + "1 and 5", 1,
        () -> Due.post(world + far + near + far.repeat(3) + near + letter).blame(0));
    String earliest = "Promise 17: it would have arrived earliest, ";
    String quick = "loft a at 0,0;loft b at 40,0;pigeon p of b in a speed 8;"
        + "pigeon q of b in a speed 10;";
    DUE.is(earliest + "the last of six", 5, () -> Due.post(quick + far.repeat(4)
        + "hawk at 8,0 reach 0;hawk at 10,0 reach 0;" + letter).blame(0));
    DUE.is(earliest + "the first of six", 0, () -> Due.post(quick + "hawk at 10,0 reach 0;"
        + far.repeat(4) + "hawk at 8,0 reach 0;" + letter).blame(0));
    DUE.is(earliest + "the last one alone", 5, () -> Due.post(quick.replace("speed 8", "speed 1")
        + far.repeat(5) + "hawk at 10,0 reach 0;" + letter).blame(0));
  }

  private static void blamedNone() {
    String sentence = "Promise 17: -1 if there is none, ";
    DUE.is(sentence + "no hawk", -1, () -> Due.post(Relay.text(20)).blame(0));
    DUE.is(sentence + "it arrives with all of them", -1,
        () -> Due.post("hawk at 63,0 reach 0;" + Relay.text(20)).blame(0));
    LoftPost arrived = behind(20, "hawk at 63,0 reach 0;" + Relay.text(20));
    DUE.is(sentence + "it has arrived", "0 -1", () -> arrived.arrives(0) + " " + arrived.blame(0));
    LoftPost caught = behind(18, Relay.caught(20));
    DUE.is(sentence + "not caught yet", 0, () -> caught.blame(0));
    caught.pass(1);
    DUE.is(sentence + "what it caught is gone", "1 -1", () -> caught.hawk(0, 4) + " "
        + caught.blame(0));
    LoftPost lost = Due.post("loft a at 0,0;loft b at 9,9;pigeon p of a;hawk at 0,0 reach 20;"
        + "letter l in b by p;");
    DUE.is(sentence + "it is lost in each case", -1, () -> lost.blame(0));
  }

  // ---- promise 18

  /**
   * Twenty of one stage; the hawks catch all but the quick one, which comes in the first hour and
   * stands at this place of the stage.
   */
  private static String twenty(int quick, int place) {
    StringBuilder text = new StringBuilder("loft a at 0,0;loft b at 20,0;");
    List<String> stage = new ArrayList<>();
    for (int i = 0; i < 20; i++) {
      text.append("pigeon p").append(i).append(" of b in a speed ").append(i == quick ? 20 : 1)
          .append(';');
      stage.add("p" + i);
    }
    stage.add(place, stage.remove(quick));
    return text + "hawk at 10,0 reach 20 rests 1;".repeat(6) + "letter l in a by "
        + String.join(" and ", stage) + ";";
  }

  private static void doublesOfTwenty() {
    String sentence = "Promise 18: the least number, 1 or more, ";
    for (int place = 0; place < 20; place++) {
      int due = place + 1;
      String text = twenty(place, place);
      DUE.is(sentence + "the quick one at the place " + place, due,
          () -> Due.post(text).doubles(0));
    }
    DUE.is("Promise 18: -1 if it would not even with all", -1,
        () -> Due.post(twenty(7, 7).replace("speed 20", "speed 1")).doubles(0));
    LoftPost arrived = behind(1, twenty(19, 19));
    DUE.is("Promise 18: 0 if it has arrived", 0, () -> arrived.doubles(0));
    DUE.is(sentence + "one of one", 1, () -> Due.post(Relay.text(20)).doubles(0));
    DUE.is("Promise 18: -1 if it would not even with all, one", -1,
        () -> Due.post(Relay.caught(20)).doubles(0));
  }

  private static void doublesInTheOrderOfTheStage() {
    String sentence = "Promise 18: from the first one on, as they stand in the stage, ";
    DUE.is(sentence + "p19 first", 1, () -> Due.post(twenty(19, 0)).doubles(0));
    DUE.is(sentence + "p19 in the middle", 7, () -> Due.post(twenty(19, 6)).doubles(0));
    DUE.is(sentence + "p0 last", 20, () -> Due.post(twenty(0, 19)).doubles(0));
    DUE.is(sentence + "p0 second", 2, () -> Due.post(twenty(0, 1)).doubles(0));
    // q stands first in the stage, but is not where the letter lies, and does not count.
    String some = "loft a at 0,0;loft b at 40,0;pigeon p of b in a speed 10;pigeon q of b;"
        + "pigeon r of b in a speed 10;pigeon s of b in a speed 10;hawk at 10,0 reach 0 rests 9;";
    DUE.is(sentence + "those alone that would set out", 2,
        () -> Due.post(some + "letter l in a by q and p and r and s;").doubles(0));
  }

  /** With q alone the hawk catches r and rests as q comes by; with p, too, it catches p and then q. */
  private static void doublesFewerThanAll() {
    String sentence = "Promise 18: the least number, though it would not with all";
    String world = "loft a at 0,0;loft b at 24,0;pigeon p of b in a speed 12;"
        + "pigeon q of b in a speed 4;pigeon r of b in a speed 6;hawk at 12,0 reach 0 rests 1;";
    DUE.is(sentence, "1 -1", () -> {
      LoftPost post = Due.post(world + "letter k in a by r;letter l in a by q and p;");
      return post.doubles(1) + " " + post.arrives(1);
    });
    DUE.is(sentence + ", p first", -1,
        () -> Due.post(world + "letter k in a by r;letter l in a by p and q;").doubles(1));
  }

  /** From 0,0 to where b was, and then towards b as it comes back: this has so many hours. */
  private static String search(int hours) {
    return "loft a at 0,0;loft b at " + (hours - 40) + ",63 then 0,63 speed 1;"
        + "pigeon p of b in a speed 1 sight 20;";
  }

  private static void doublesAtTheLimit() {
    String sentence = "Promise 18: within 100 hours, ";
    int[][] due = {{100, 1}, {101, -1}};
    for (int[] one : due) {
      LoftPost post = Due.post(search(one[0]) + "letter l in a by p;");
      DUE.is(sentence + one[0], one[0] + " " + one[1], () -> post.arrives(0) + " "
          + post.doubles(0));
    }
    // One double alone is caught; with both of them the second one comes.
    LoftPost two = Due.post(search(100) + "pigeon q of b in a speed 1 sight 20;"
        + "hawk at 1,1 reach 0 rests 9;letter l in a by q and p;");
    DUE.is(sentence + "the second one in 100", "100 2", () -> two.arrives(0) + " "
        + two.doubles(0));
    LoftPost late = Due.post(search(101) + "pigeon q of b in a speed 1 sight 20;"
        + "hawk at 1,1 reach 0 rests 9;letter l in a by q and p;");
    DUE.is(sentence + "the second one in 101", "101 -1", () -> late.arrives(0) + " "
        + late.doubles(0));
  }

  private static void doublesToALaterStage() {
    String sentence = "Promise 18: to a later stage, or have arrived, ";
    LoftPost post = Due.post("loft a at 0,0;loft b at 16,0;pigeon p of b in a;pigeon q of a;"
        + "pigeon r of a in b;letter k in a by p,q;letter l in a by p,r;");
    DUE.is(sentence + "though it is lost then", "1 -1", () -> post.doubles(0) + " "
        + post.arrives(0));
    DUE.is(sentence + "k takes p", -1, () -> post.doubles(1));
    LoftPost last = Due.post("loft a at 0,0;loft b at 16,0;pigeon p of b in a;pigeon r of a in b;"
        + "letter l in a by p,r;");
    last.pass(2);
    DUE.is(sentence + "the last stage", 1, () -> last.doubles(0));
    last.pass(1);
    DUE.is(sentence + "all set out, and none more would", -1, () -> last.doubles(0));
    last.pass(1);
    DUE.is(sentence + "arrived", 0, () -> last.doubles(0));
  }

  private static void doublesThatWouldSetOut() {
    String sentence = "Promise 18: that would set out in the next hour, ";
    DUE.is(sentence + "none, in another loft", -1, () -> Due.post("loft a at 0,0;loft b at 9,9;"
        + "pigeon p of a;letter l in b by p;").doubles(0));
    LoftPost taken = Due.post("loft a at 0,0;loft b at 40,0;pigeon p of b in a speed 10;"
        + "pigeon q of b in a speed 10;pigeon r of b in a speed 10;hawk at 10,0 reach 0 rests 9;"
        + "letter j in a by q;letter k in a by p and q and r;letter l in a by r and p;");
    // q sets out with j, so that k has p and r: p is caught, as it has the smallest number.
    DUE.is(sentence + "not those that an earlier letter takes", 2, () -> taken.doubles(1));
    DUE.is(sentence + "all taken by earlier letters", -1, () -> taken.doubles(2));
    DUE.is(sentence + "what a later letter wants", 1, () -> taken.doubles(0));
    // o flies with j, and is caught in the place of p.
    LoftPost others = Due.post("loft a at 0,0;loft b at 40,0;pigeon o of b in a speed 10;"
        + "pigeon p of b in a speed 10;hawk at 10,0 reach 0 rests 9;letter j in a by o;"
        + "letter k in a by o and p;");
    DUE.is(sentence + "the pigeons of other letters are there", 1, () -> others.doubles(1));
    LoftPost flying = Due.post("loft a at 0,0;loft b at 40,0;loft c at 0,40;"
        + "pigeon p of b in a speed 1;pigeon q of b in c speed 1;letter l in a by p and q;");
    flying.pass(1);
    DUE.is(sentence + "none beside the one that flies", -1, () -> flying.doubles(0));
    flying.bring(1, 0);
    DUE.is(sentence + "one more", 1, () -> flying.doubles(0));
  }

  // ---- promise 19

  private static void neediestAtTheLimit() {
    String sentence = "Promise 19: and would not within 300 hours, ";
    DUE.is(sentence + "300", -1, () -> Due.post(Relay.text(300)).need());
    DUE.is(sentence + "301", 0, () -> Due.post(Relay.text(301)).need());
    LoftPost post = Due.post(Relay.text(301));
    post.pass(1);
    DUE.is(sentence + "301, an hour later", -1, () -> post.need());
    DUE.is(sentence + "caught in 299", 0, () -> Due.post(Relay.caught(300)).need());
  }

  private static void neediestOfSeveral() {
    String world = "loft a at 0,0;loft b at 9,9;pigeon p of a;pigeon q of b;";
    String sentence = "Promise 19: the one with the most stages left, ";
    DUE.is(sentence + "no letter", -1, () -> Due.post(world).need());
    DUE.is(sentence + "one of one stage", 0, () -> Due.post(world + "letter l in b by p;").need());
    DUE.is(sentence + "the last of twelve", 11, () -> Due.post(world + letters(11, "q")
        + "letter l in a by q,q,q,q,q,q;").need());
    DUE.is(sentence + "the last of twelve, one stage", 11, () -> Due.post(world
        + letters(11, "p") + "letter l in a by q;").need());
    String several = "Promise 19: of several the one with the smallest number, ";
    DUE.is(several + "all of twelve", 0, () -> Due.post(world + letters(12, "q")).need());
    DUE.is(several + "two of three stages", 1, () -> Due.post(world + "letter j in a by q,q;"
        + "letter k in a by q,q,q;letter l in a by q,q,q;letter m in a by q,q;").need());
    DUE.is("Promise 19: of those that have not arrived", -1,
        () -> behind(1, world + "letter l in a by p;").need());
    DUE.is("Promise 19: of those that would not arrive", 1, () -> Due.post(world
        + "letter k in a by p,p,p,p,p,p;letter l in a by q;").need());
  }

  private static String letters(int count, String stage) {
    StringBuilder text = new StringBuilder();
    for (int i = 0; i < count; i++) {
      text.append("letter t").append(i).append(" in a by ").append(stage).append(';');
    }
    return text.toString();
  }

  private static void neediestBehindHours() {
    String sentence = "Promise 19: stages left, ";
    // k goes on by two stages, and waits there for q in vain.
    LoftPost post = Due.post("loft a at 0,0;loft b at 9,9;pigeon p of a;pigeon q of b;"
        + "letter k in a by p,p,q,q;letter l in a by q,q,q;letter m in a by p,p,p,p,p,p;");
    DUE.is(sentence + "4 and 3", 0, post::need);
    post.pass(1);
    DUE.is(sentence + "3 and 3", 0, post::need);
    post.pass(1);
    DUE.is(sentence + "2 and 3", 1, post::need);
    post.pass(20);
    DUE.is(sentence + "2 and 3, and 0 of the third", 1, post::need);
  }

  // ---- promise 20

  private static void meanHour() {
    String sentence = "Promise 20: the mean hour, ";
    DUE.is(sentence + "0 if none did", 0.0, () -> new LoftPost().mean());
    String text = "loft a at 0,0;loft b at 9,9;pigeon p of a;pigeon q of a;pigeon r of a in b;"
        + "letter j in a by p;letter k in a by q;letter l in a by p;letter m in a by r;";
    DUE.is(sentence + "0 if none did yet", 0.0, () -> Due.post(text).mean());
    LoftPost post = Due.post(text);
    post.pass(1);
    DUE.is(sentence + "two in the hour 0", "0.0 2", () -> post.mean() + " " + post.count(8));
    post.pass(1);
    DUE.is(sentence + "0, 0 and 1", 1.0 / 3.0, post::mean);
    post.pass(200);
    DUE.is(sentence + "it stays", 1.0 / 3.0, post::mean);
    post.bring(2, 0);
    post.pass(1);
    DUE.is(sentence + "0, 0, 1 and 202", 203.0 / 4.0, post::mean);
    DUE.is(sentence + "one alone, late", 300.0, () -> behind(301, Relay.text(301)).mean());
    DUE.is(sentence + "not yet", 0.0, () -> behind(300, Relay.text(301)).mean());
    Due.tell(post, text);
    DUE.is(sentence + "0 if none of those told now did", 0.0, post::mean);
    post.pass(1);
    DUE.is(sentence + "the hour goes on behind a teach()", 203.0, post::mean);
  }

  // ---- promise 21

  private static long folded(int... numbers) {
    BigInteger d = BigInteger.valueOf(733);
    for (int number : numbers) {
      d = d.multiply(BigInteger.valueOf(31)).add(BigInteger.valueOf(number));
    }
    return d.longValue();
  }

  private static void digestOfANewPost() {
    LoftPost post = new LoftPost();
    DUE.is("Promise 21: starts with 733, a new post", folded(new int[12]), post::digest);
    DUE.is("Promise 21: wraps around, a new post", "5507754232010874717", post::digest);
    post.feed(0, 0, 0, 0, 0);
    DUE.is("Promise 21: 20 bytes of the tape", folded(0, 0, 0, 0, 0, 0, 0, 0, 0, 0, 0, 20),
        post::digest);
    post.pass(200);
    DUE.is("Promise 21: 200 hours", folded(200, 0, 0, 0, 0, 0, 0, 0, 0, 0, 0, 20), post::digest);
  }

  private static void digestInItsOrder() {
    LoftPost post = Due.post("loft a at 1,2 then 3,4 speed 5;loft b at 60,9;pigeon p of a;"
        + "pigeon q of b in a speed 2;pigeon r of b speed 3;hawk at 6,7 reach 8;"
        + "hawk at 63,0 reach 1 rests 3;letter k in a by p;letter l in a by q;letter m in a by r;");
    post.feed(0, 0, 0, 0, 0);
    post.trim(3);
    DUE.is("Promise 21: in their order, at first", folded(
        0, 2, 3, 2, 3, 3, 0, 0, 0, 1, 0, 3,
        1, 2, 5, 2, 1, 2, 0, 3,
        60, 9, 0, 1, 0, 1, 0, 0,
        0, 1, 2, 0, 0, -1, 0, 0,
        0, 1, 2, 1, 0, -1, 0, 59,
        0, 60, 9, 1, 1, -1, 0, 0,
        6, 7, 8, 0, 0,
        63, 0, 1, 0, 0,
        0, 0, 1, 0, 0, 0, 0, -1,
        0, 0, 1, 0, 0, 0, 0, -1,
        0, 0, 1, 0, 1, 0, 0, -1), post::digest);
    post.pass(1);
    // q flies from 3,4 to 5,6, and is caught there.
    DUE.is("Promise 21: in their order, behind an hour", folded(
        1, 2, 3, 2, 3, 2, 0, 1, 1, 2, 0, 3,
        3, 4, 5, 2, 0, 1, 0, 3,
        60, 9, 0, 1, 0, 1, 0, 0,
        0, 3, 4, 0, 0, -1, 0, 0,
        2, 5, 6, 1, -1, -1, 0, 55,
        0, 60, 9, 1, 1, -1, 0, 0,
        6, 7, 8, 4, 1,
        63, 0, 1, 0, 0,
        0, 1, 1, 1, 0, 0, 1, 0,
        0, 0, 1, 0, 1, 0, 1, -1,
        0, 0, 1, 0, 1, 0, 0, -1), post::digest);
  }
}
