/**
 * A text whose letter, number 0, arrives behind as many hours as are asked for: pigeons of speed 1
 * carry it to and fro between the corners 0,0 and 63,63, and the last one along the edge.
 */
final class Relay {
  private static final int FLIGHT = 63;

  private Relay() {
  }

  /** The text for 1 to 378 hours. */
  static String text(int hours) {
    int whole = (hours - 1) / FLIGHT;
    int rest = hours - whole * FLIGHT;
    boolean atA = whole % 2 == 0;
    StringBuilder text = new StringBuilder("loft a at 0,0;loft b at 63,63;loft c at ")
        .append(atA ? rest + ",0;" : FLIGHT - rest + ",63;");
    StringBuilder stages = new StringBuilder("letter l in a by p0");
    for (int i = 0; i < whole; i++) {
      text.append("pigeon p").append(i).append(i % 2 == 0 ? " of b in a" : " of a in b")
          .append(" speed 1;");
      stages.append(",p").append(i + 1);
    }
    text.append("pigeon p").append(whole).append(atA ? " of c in a" : " of c in b")
        .append(" speed 1;");
    return text.append(stages).append(';').toString();
  }

  /**
   * The same with a hawk that catches the last pigeon an hour before it would come; for all hours
   * but 1, 64 and so on, where its flight has no such hour.
   */
  static String caught(int hours) {
    int whole = (hours - 1) / FLIGHT;
    int rest = hours - whole * FLIGHT;
    String spot = whole % 2 == 0 ? rest - 1 + ",0" : FLIGHT - rest + 1 + ",63";
    return "hawk at " + spot + " reach 0;" + text(hours);
  }
}
