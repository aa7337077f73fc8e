/** For each promise of the document: ordinary inputs, its edges and wrong inputs, worked out by hand. */
public final class PromiseTests {
  private static final String INDEX = "IndexOutOfBoundsException";
  private static final String ARGUMENT = "IllegalArgumentException";
  private static final String STATE = "IllegalStateException";

  private interface Call { int answer(); }

  private static int wrong = 0;
  private static int promise = 0;

  private static String outcome(Call call) {
    try {
      return Integer.toString(call.answer());
    } catch (RuntimeException e) {
      return e.getClass().getSimpleName();
    }
  }

  private static void due(String what, Call call, Object want) {
    String got = outcome(call);
    if (!got.equals(want.toString())) {
      wrong++;
      System.out.println("promise " + promise + ": " + what + " answered " + got + ", due is " + want);
    }
  }

  /** Game 0 of the teams 0 and 1 draws on sheet 0, whose ice is new. */
  private static HackHouse drawing() {
    HackHouse h = new HackHouse();
    h.plan(0, 1, 1, 0);
    h.pass(1);
    return h;
  }

  /** Game 0 plays on sheet 0; the second team has the last stone; only the cell 1 of lane 8 is worn. */
  private static HackHouse playing() {
    HackHouse h = drawing();
    lose(h, 0, 2);
    return h;
  }

  /** Stones that never get far. */
  private static void lose(HackHouse h, int game, int stones) {
    for (int i = 0; i < stones; i++) {
      due("a stone of weight 1", () -> h.shoot(game, 8, 1, 1, 1, 0), -1);
    }
  }

  /** A stone that is swept all the way, so that it goes straight: on new ice 7 of energy take it a cell on. */
  private static int straight(HackHouse h, int game, int lane, int weight) {
    return h.shoot(game, lane, weight, 1, 0, 60);
  }

  private static HackHouse threeGamesOver() {
    HackHouse h = new HackHouse();
    for (int sheet = 0; sheet < 3; sheet++) {
      h.plan(0, 1, 1, sheet);
    }
    h.pass(1);
    for (int game = 0; game < 3; game++) {
      lose(h, game, 26);
    }
    return h;
  }

  private static void newObject() {
    promise = 1;
    HackHouse h = new HackHouse();
    due("hour", h::hour, 0);
    due("no game", () -> h.ofGame(0, 0), INDEX);
    for (int i = 0; i < 3; i++) {
      int sheet = i;
      due("made", () -> h.ofSheet(sheet, 0), 1);
      due("free", () -> h.ofSheet(sheet, 1), -1);
      due("no wear", () -> h.ofSheet(sheet, 2), 0);
      due("no work", () -> h.ofSheet(sheet, 3), 0);
    }
    due("PLANNED", () -> HackHouse.PLANNED, 0);
    due("DRAWS", () -> HackHouse.DRAWS, 1);
    due("PLAYS", () -> HackHouse.PLAYS, 2);
    due("OVER", () -> HackHouse.OVER, 3);
  }

  private static void plan() {
    promise = 2;
    HackHouse h = new HackHouse();
    due("first -1", () -> h.plan(-1, 0, 1, 0), INDEX);
    due("first 6", () -> h.plan(6, 0, 1, 0), INDEX);
    due("second -1", () -> h.plan(0, -1, 1, 0), INDEX);
    due("second 6", () -> h.plan(0, 6, 1, 0), INDEX);
    due("sheet -1", () -> h.plan(0, 1, 1, -1), INDEX);
    due("sheet 3 ahead of the rest", () -> h.plan(0, 0, 0, 3), INDEX);
    due("same teams", () -> h.plan(3, 3, 1, 0), ARGUMENT);
    due("hour now", () -> h.plan(0, 1, 0, 0), ARGUMENT);
    due("hour 10000", () -> h.plan(0, 1, 10000, 0), ARGUMENT);
    due("hour far out", () -> h.plan(0, 1, Integer.MAX_VALUE, 0), ARGUMENT);
    due("hour 9999", () -> h.plan(5, 0, 9999, 2), 0);
    h.pass(3);
    due("hour 3 is now", () -> h.plan(0, 1, 3, 0), ARGUMENT);
    for (int i = 1; i < 12; i++) {
      due("number", () -> h.plan(0, 1, 4, 0), i);
    }
    due("thirteenth", () -> h.plan(0, 1, 4, 0), STATE);
    due("thirteenth, same teams", () -> h.plan(1, 1, 4, 0), ARGUMENT);
    due("thirteenth, no such team", () -> h.plan(1, 6, 4, 0), INDEX);
    due("no game 12", () -> h.ofGame(12, 0), INDEX);
  }

  private static void crew() {
    promise = 3;
    HackHouse h = threeGamesOver();
    due("0 hours", () -> h.crew(0), ARGUMENT);
    due("7 hours", () -> h.crew(7), ARGUMENT);
    due("1 hour", () -> h.crew(1), 2);
    due("6 hours", () -> h.crew(6), 1);
    due("3 hours", () -> h.crew(3), 6);
    h.pass(1);
    due("left", () -> h.ofSheet(0, 3), 3);
    due("1 hour for the next", () -> h.crew(1), 3);
    due("left of what was taken before", () -> h.ofSheet(0, 3), 3);
    h.pass(3);
    due("made", () -> h.ofSheet(0, 0), 1);
    due("next", () -> h.ofSheet(1, 3), 1);
    h.pass(1);
    due("next made", () -> h.ofSheet(1, 0), 1);
    due("the one behind it", () -> h.ofSheet(2, 3), 1);
  }

  private static void shootWrongly() {
    promise = 4;
    HackHouse h = new HackHouse();
    due("no game", () -> h.shoot(0, 9, 1, 1, 0, 0), INDEX);
    h.plan(0, 1, 1, 0);
    due("game -1", () -> h.shoot(-1, 4, 1, 1, 0, 0), INDEX);
    due("PLANNED", () -> h.shoot(0, 4, 1, 1, 0, 0), STATE);
    due("PLANNED and lane 9", () -> h.shoot(0, 9, 1, 1, 0, 0), ARGUMENT);
    h.pass(1);
    int[][] shots = {{-1, 1, 1, 0, 0}, {9, 1, 1, 0, 0}, {4, 0, 1, 0, 0}, {4, 101, 1, 0, 0}, {4, 1, 0, 0, 0},
        {4, 1, -2, 0, 0}, {4, 1, 2, 0, 0}, {4, 1, 1, -1, 0}, {4, 1, 1, 61, 0}, {4, 1, 1, 0, -1}, {4, 1, 1, 0, 61}};
    for (int[] s : shots) {
      due("a shot out of range", () -> h.shoot(0, s[0], s[1], s[2], s[3], s[4]), ARGUMENT);
    }
    due("nothing was thrown", () -> h.ofGame(0, 6), 0);
    lose(h, 0, 26);
    due("OVER", () -> h.shoot(0, 4, 1, 1, 0, 0), STATE);
  }

  private static void draws() {
    promise = 4;
    HackHouse first = drawing();
    due("draw to the middle", () -> straight(first, 0, 4, 35), 450);
    due("still draws", () -> first.ofGame(0, 0), 1);
    due("its stone is taken away, the ice is worn", () -> straight(first, 0, 4, 35), 443);
    due("first has 0", () -> first.ofTeam(0, 2), 0);
    due("second has 7", () -> first.ofTeam(1, 2), 7);
    due("first has the last stone", () -> first.ofGame(0, 7), 0);
    due("second throws", () -> first.ofGame(0, 6), 1);

    HackHouse second = drawing();
    due("lane 0, y 30", () -> straight(second, 0, 0, 21), 30);
    due("lane 8, y 35", () -> straight(second, 0, 8, 25), 835);
    due("first has 28", () -> second.ofTeam(0, 2), 28);
    due("second has 23", () -> second.ofTeam(1, 2), 23);
    due("second has the last stone", () -> second.ofGame(0, 7), 1);

    HackHouse equal = drawing();
    due("lane 3", () -> straight(equal, 0, 3, 35), 350);
    due("lane 5", () -> straight(equal, 0, 5, 35), 550);
    due("second has the last stone of equal ones", () -> equal.ofGame(0, 7), 1);
  }

  private static void iceWears() {
    promise = 4;
    HackHouse h = playing();
    for (int i = 1; i <= 10; i++) {
      due("over the end", () -> straight(h, 0, 4, 100), -1);
      int worn = Math.min(i, 9);
      due("first cell", () -> h.wear(0, 4, 1), worn);
      due("last cell", () -> h.wear(0, 4, 60), worn);
      due("all", () -> h.ofSheet(0, 2), 60 * worn + 1);
    }
    due("16 a cell", () -> straight(h, 0, 4, 80), 450);
  }

  private static void stonesPush() {
    promise = 4;
    HackHouse h = playing();
    due("to the middle", () -> straight(h, 0, 4, 35), 450);
    due("behind it", () -> straight(h, 0, 4, 45), 449);
    due("pushed by 43", () -> h.stone(0, 0, 0), 454);
    due("worn twice", () -> h.wear(0, 4, 49), 2);
    due("not moved to", () -> h.wear(0, 4, 50), 1);
    due("worn by the pushed one", () -> h.wear(0, 4, 54), 1);
    due("not reached", () -> h.wear(0, 4, 55), 0);
    due("pushes one that pushes one", () -> straight(h, 0, 4, 60), 448);
    due("stays at the other one", () -> h.stone(0, 1, 0), 453);
    due("leaves at 60", () -> h.stone(0, 0, 0), -1);
    due("worn at 60", () -> h.wear(0, 4, 60), 1);
    due("the thrown one", () -> h.stone(0, 0, 1), 448);

    HackHouse rounded = playing();
    straight(rounded, 0, 4, 35);
    due("79 of energy", () -> rounded.shoot(0, 4, 48, 1, 4, 60), 449);
    due("three quarters, rounded down", () -> rounded.stone(0, 0, 0), 455);

    HackHouse aside = playing();
    due("lane 5, y 39", () -> aside.shoot(0, 5, 28, 1, 2, 60), 539);
    due("39 of energy, no place aside", () -> aside.shoot(0, 4, 33, 1, 0, 33), 439);
    due("half of it, rounded down", () -> aside.stone(0, 0, 0), 540);

    HackHouse early = playing();
    due("y 30", () -> straight(early, 0, 4, 21), 430);
    due("stays at 29 and is taken away", () -> straight(early, 0, 4, 30), -1);
    due("pushed by 51", () -> early.stone(0, 0, 0), 435);

    HackHouse far = playing();
    due("y 30", () -> straight(far, 0, 4, 21), 430);
    due("stays at 29 and is taken away", () -> straight(far, 0, 4, 40), -1);
    due("pushed by 126: straight, with nothing swept", () -> far.stone(0, 0, 0), 442);
  }

  private static void endsAndGames() {
    promise = 4;
    HackHouse h = playing();
    int[][] stones = {{4, 450}, {3, 350}, {5, 550}, {2, 250}, {6, 650}, {1, 150}};
    for (int[] s : stones) {
      due("to y 50", () -> straight(h, 0, s[0], 35), s[1]);
    }
    due("an end", () -> h.ofGame(0, 5), 1);
    due("1 for the first team", () -> h.ofGame(0, 3), 1);
    due("0 for the second team", () -> h.ofGame(0, 4), 0);
    due("who scores throws first", () -> h.ofGame(0, 6), 0);
    due("stones are taken away", () -> h.stone(0, 0, 0), -1);
    lose(h, 0, 5);
    due("8 a cell", () -> straight(h, 0, 4, 40), 450);
    due("1 for the second team", () -> h.ofGame(0, 4), 1);
    due("it throws first", () -> h.ofGame(0, 6), 1);
    due("first has the last stone", () -> h.ofGame(0, 7), 0);
    lose(h, 0, 6);
    due("nobody scores: as it was", () -> h.ofGame(0, 7), 0);
    due("three ends", () -> h.ofGame(0, 5), 3);
    due("second team", () -> straight(h, 0, 7, 35), 750);
    lose(h, 0, 1);
    due("second team", () -> straight(h, 0, 6, 40), 650);
    lose(h, 0, 3);
    due("over", () -> h.ofGame(0, 0), 3);
    due("both stones count", () -> h.ofGame(0, 4), 3);
    due("won", () -> h.ofTeam(1, 0), 1);
    due("lost", () -> h.ofTeam(0, 0), 0);
    due("sheet is free", () -> h.ofSheet(0, 1), -1);
    due("sheet is not made", () -> h.ofSheet(0, 0), 0);
  }

  private static void pass() {
    promise = 5;
    HackHouse h = new HackHouse();
    due("0 hours", () -> h.pass(0), ARGUMENT);
    due("49 hours", () -> h.pass(49), ARGUMENT);
    for (int i = 0; i < 4; i++) {
      h.plan(i, i + 1, 1, 2);
    }
    h.plan(0, 1, 2, 0);
    due("an hour", () -> h.pass(1), 1);
    int[] sheets = {2, 0, 1, -1, -1};
    for (int i = 0; i < sheets.length; i++) {
      int game = i;
      due("sheet of game " + i, () -> h.ofGame(game, 2), sheets[game]);
    }
    due("moved", () -> h.ofGame(3, 1), 2);
    due("stays PLANNED", () -> h.ofGame(3, 0), 0);
    lose(h, 0, 26);
    due("taken", () -> h.pass(1), 2);
    due("2 hours to do", () -> h.ofSheet(2, 3), 2);
    due("an hour less", () -> h.pass(1), 3);
    due("1 hour to do", () -> h.ofSheet(2, 3), 1);
    due("worn until then", () -> h.ofSheet(2, 2), 1);
    due("not made until then", () -> h.ofSheet(2, 0), 0);
    due("made", () -> h.pass(1), 4);
    due("no wear", () -> h.ofSheet(2, 2), 0);
    due("least number of those that were moved begins", () -> h.ofSheet(2, 1), 3);
    due("not made any more", () -> h.ofSheet(2, 0), 0);
    due("the other one is moved", () -> h.ofGame(4, 1), 5);
  }

  private static void crewChooses() {
    promise = 5;
    HackHouse h = threeGamesOver();
    h.plan(0, 1, 9, 1);
    h.plan(0, 1, 8, 2);
    h.plan(0, 1, 40, 2);
    h.pass(1);
    due("the least hour", () -> h.ofSheet(2, 3), 2);
    h.pass(2);
    due("the next hour", () -> h.ofSheet(1, 3), 2);
    h.pass(2);
    due("without such games", () -> h.ofSheet(0, 3), 2);

    HackHouse several = threeGamesOver();
    several.plan(0, 1, 9, 2);
    several.plan(0, 1, 9, 1);
    several.pass(1);
    due("the lowest of several", () -> several.ofSheet(1, 3), 2);
    several.pass(1);
    due("an hour less", () -> several.ofSheet(1, 3), 1);
  }

  private static void lastHour() {
    promise = 5;
    HackHouse h = threeGamesOver();
    for (int sheet = 0; sheet < 3; sheet++) {
      h.plan(0, 1, 40, sheet);
    }
    h.plan(0, 1, 9999, 0);
    for (int i = 0; i < 208; i++) {
      h.pass(48);
    }
    due("above 9999", () -> h.pass(15), STATE);
    due("49 hours above 9999", () -> h.pass(49), ARGUMENT);
    due("nothing is changed", h::hour, 9985);
    due("to 9999", () -> h.pass(14), 9999);
    due("moved from 9999", () -> h.ofGame(6, 1), 10000);
    due("no hour more", () -> h.pass(1), STATE);
    due("no hour to plan", () -> h.plan(0, 1, 9999, 0), ARGUMENT);
  }

  private static void hour() {
    promise = 6;
    HackHouse h = new HackHouse();
    h.pass(48);
    due("48", h::hour, 48);
    h.pass(1);
    due("49", h::hour, 49);
  }

  private static void ofSheet() {
    promise = 7;
    HackHouse h = drawing();
    due("sheet -1", () -> h.ofSheet(-1, 0), INDEX);
    due("sheet 3 ahead of what", () -> h.ofSheet(3, 4), INDEX);
    due("what -1", () -> h.ofSheet(0, -1), ARGUMENT);
    due("what 4", () -> h.ofSheet(0, 4), ARGUMENT);
    due("not made", () -> h.ofSheet(0, 0), 0);
    due("made", () -> h.ofSheet(1, 0), 1);
    due("game 0", () -> h.ofSheet(0, 1), 0);
    due("free", () -> h.ofSheet(1, 1), -1);
    straight(h, 0, 4, 35);
    due("all its wear", () -> h.ofSheet(0, 2), 50);
    due("wear of another one", () -> h.ofSheet(1, 2), 0);
    lose(h, 0, 25);
    h.pass(1);
    due("works here", () -> h.ofSheet(0, 3), 2);
    due("not here", () -> h.ofSheet(1, 3), 0);
    h.pass(2);
    due("made", () -> h.ofSheet(0, 0), 1);
    due("nothing more to do", () -> h.ofSheet(0, 3), 0);
  }

  private static void wear() {
    promise = 8;
    HackHouse h = drawing();
    int[][] none = {{-1, 0, 0}, {3, 0, 0}, {0, -1, 0}, {0, 9, 0}, {0, 0, -1}, {0, 0, 61}};
    for (int[] c : none) {
      due("no such cell", () -> h.wear(c[0], c[1], c[2]), INDEX);
    }
    due("the last cell", () -> h.wear(2, 8, 60), 0);
    due("curls", () -> h.shoot(0, 4, 100, 1, 1, 0), -1);
    for (int y = 1; y <= 60; y++) {
      int lane = 4 + (y - 1) / 12;
      int cell = y;
      due("worn", () -> h.wear(0, lane, cell), 1);
    }
    due("moving aside wears nothing", () -> h.wear(0, 5, 12), 0);
    due("where it begins", () -> h.wear(0, 4, 0), 0);
    due("all", () -> h.ofSheet(0, 2), 60);
  }

  private static void ofGame() {
    promise = 9;
    HackHouse h = new HackHouse();
    due("no game", () -> h.ofGame(0, 8), INDEX);
    h.plan(2, 3, 5, 1);
    due("game -1", () -> h.ofGame(-1, 0), INDEX);
    due("what -1", () -> h.ofGame(0, -1), ARGUMENT);
    due("what 8", () -> h.ofGame(0, 8), ARGUMENT);
    dueOfGame(h, "PLANNED", 0, 5, -1, 0, 0, 0, -1, -1);
    h.pass(5);
    dueOfGame(h, "DRAWS", 1, 5, 1, 0, 0, 0, 0, -1);
    lose(h, 0, 1);
    dueOfGame(h, "DRAWS", 1, 5, 1, 0, 0, 0, 1, -1);
    straight(h, 0, 4, 35);
    dueOfGame(h, "PLAYS", 2, 5, 1, 0, 0, 0, 0, 1);
    lose(h, 0, 1);
    dueOfGame(h, "PLAYS", 2, 5, 1, 0, 0, 0, 1, 1);
    lose(h, 0, 4);
    straight(h, 0, 3, 35);
    dueOfGame(h, "second end", 2, 5, 1, 0, 1, 1, 1, 0);
    lose(h, 0, 18);
    dueOfGame(h, "OVER", 3, 5, 1, 0, 1, 4, -1, -1);
  }

  private static void dueOfGame(HackHouse h, String when, int... want) {
    for (int i = 0; i < want.length; i++) {
      int what = i;
      due(when + ", what " + i, () -> h.ofGame(0, what), want[what]);
    }
  }

  private static void stone() {
    promise = 10;
    HackHouse h = drawing();
    int[][] none = {{-1, 0, 0}, {1, 0, 0}, {0, -1, 0}, {0, 2, 0}, {0, 0, -1}, {0, 0, 3}};
    for (int[] s : none) {
      due("no such stone", () -> h.stone(s[0], s[1], s[2]), INDEX);
    }
    straight(h, 0, 4, 35);
    due("a draw is no stone of an end", () -> h.stone(0, 0, 0), -1);
    straight(h, 0, 8, 35);
    straight(h, 0, 3, 35);
    due("the second one begins", () -> h.stone(0, 1, 0), 350);
    due("the first one has not thrown", () -> h.stone(0, 0, 0), -1);
    straight(h, 0, 5, 35);
    straight(h, 0, 2, 36);
    due("first of the first one", () -> h.stone(0, 0, 0), 550);
    due("second of the second one", () -> h.stone(0, 1, 1), 251);
    lose(h, 0, 1);
    due("not on the sheet", () -> h.stone(0, 0, 1), -1);
    due("third of the second one", () -> straight(h, 0, 0, 35), 50);
    due("lane 0", () -> h.stone(0, 1, 2), 50);
    lose(h, 0, 1);
    due("taken away behind the end", () -> h.stone(0, 1, 2), -1);
  }

  private static void dueScore(HackHouse h, String when, int want) {
    promise = 11;
    due(when, () -> h.wouldScore(0), want);
    promise = 12;
    due(when, () -> h.wouldScoreAnew(0), want);
  }

  private static void wouldScore() {
    HackHouse none = new HackHouse();
    dueScore2(none);
    HackHouse h = drawing();
    straight(h, 0, 4, 35);
    dueScore(h, "DRAWS", 0);
    lose(h, 0, 1);
    dueScore(h, "no stones", 0);
    due("the second one begins", () -> straight(h, 0, 3, 35), 350);
    dueScore(h, "one of the second team", -1);
    due("as near", () -> straight(h, 0, 5, 35), 550);
    dueScore(h, "both nearest ones alike", 0);
    due("again", () -> straight(h, 0, 2, 35), 250);
    dueScore(h, "still alike", 0);
    due("nearer", () -> straight(h, 0, 4, 42), 452);
    dueScore(h, "alike again", 0);
    due("nearest", () -> straight(h, 0, 4, 45), 450);
    dueScore(h, "one nearer", -1);

    HackHouse edge = playing();
    due("distance 11", () -> edge.shoot(0, 4, 28, 1, 2, 60), 439);
    dueScore(edge, "out of the house", 0);
    due("distance 11", () -> straight(edge, 0, 5, 29), 541);
    dueScore(edge, "both out of the house", 0);
    due("distance 10", () -> straight(edge, 0, 3, 30), 342);
    dueScore(edge, "in the house", 1);
    lose(edge, 0, 1);
    due("distance 8", () -> straight(edge, 0, 0, 35), 50);
    dueScore(edge, "two in the house", 2);
    lose(edge, 0, 19);
    dueScore(edge, "OVER", 0);
  }

  private static void dueScore2(HackHouse none) {
    promise = 11;
    due("no game", () -> none.wouldScore(0), INDEX);
    due("game -1", () -> none.wouldScore(-1), INDEX);
    due("game 12", () -> none.wouldScore(12), INDEX);
    promise = 12;
    due("no game", () -> none.wouldScoreAnew(0), INDEX);
    due("game -1", () -> none.wouldScoreAnew(-1), INDEX);
    due("game 12", () -> none.wouldScoreAnew(12), INDEX);
    none.plan(0, 1, 1, 0);
    promise = 11;
    due("PLANNED", () -> none.wouldScore(0), 0);
    promise = 12;
    due("PLANNED", () -> none.wouldScoreAnew(0), 0);
  }

  private static void tries() {
    promise = 13;
    HackHouse h = new HackHouse();
    due("no game", () -> h.tries(0, 9, 1, 1, 0, 0), INDEX);
    h.plan(0, 1, 1, 0);
    due("PLANNED", () -> h.tries(0, 4, 1, 1, 0, 0), STATE);
    due("PLANNED and weight 0", () -> h.tries(0, 4, 0, 1, 0, 0), ARGUMENT);
    h.pass(1);
    int[][] out = {{-1, 1, 1, 0, 0}, {9, 1, 1, 0, 0}, {4, 0, 1, 0, 0}, {4, 101, 1, 0, 0}, {4, 1, 0, 0, 0},
        {4, 1, -2, 0, 0}, {4, 1, 2, 0, 0}, {4, 1, 1, -1, 0}, {4, 1, 1, 61, 0}, {4, 1, 1, 0, -1}, {4, 1, 1, 0, 61}};
    for (int[] s : out) {
      due("a try out of range", () -> h.tries(0, s[0], s[1], s[2], s[3], s[4]), ARGUMENT);
    }
    int[][] shots = {
        // swept all the way
        {4, 35, 1, 0, 60, 450}, {4, 21, 1, 0, 60, 430}, {4, 20, 1, 0, 60, -1}, {4, 21, 1, 1, 29, -1},
        {4, 41, 1, 0, 60, 458}, {4, 42, 1, 0, 60, -1},
        // with less than 300 after 21 cells it moves aside each 6
        {0, 50, 1, 1, 0, 650}, {8, 50, -1, 1, 0, 250}, {2, 50, 1, 60, 0, 850},
        {3, 50, 1, 1, 0, -1}, {5, 50, -1, 1, 0, -1},
        // 300 is not less than 300
        {0, 48, 1, 1, 0, 648}, {0, 55, 1, 1, 0, 755},
        // both ends are swept, and steps there are left out
        {0, 40, 1, 10, 20, 443}};
    for (int[] s : shots) {
      due("lane " + s[0] + ", weight " + s[1], () -> h.tries(0, s[0], s[1], s[2], s[3], s[4]), s[5]);
    }
    due("no wear", () -> h.ofSheet(0, 2), 0);
    due("nothing thrown", () -> h.ofGame(0, 6), 0);
    lose(h, 0, 2);
    straight(h, 0, 4, 35);
    due("hits", () -> h.tries(0, 4, 45, 1, 0, 60), 449);
    due("pushes nothing", () -> h.stone(0, 0, 0), 450);
    due("throws nothing", () -> h.stone(0, 1, 0), -1);
    lose(h, 0, 23);
    due("OVER", () -> h.tries(0, 4, 35, 1, 0, 60), STATE);
  }

  /** On a sheet without stones a try is worth 1 in the house, and 0 elsewhere. */
  private static int adviceOnEmptySheet(HackHouse h) {
    int best = -1;
    int most = -1;
    for (int lane = 0; lane <= 8; lane++) {
      for (int weight = 40; weight <= 80; weight += 10) {
        for (int turn = -1; turn <= 1; turn += 2) {
          int worth = 1;
          for (int miss = -5; miss <= 5; miss += 5) {
            int place = h.tries(0, lane, weight + miss, turn, 1, 0);
            boolean inHouse = place >= 0 && 2 * Math.abs(place / 100 - 4) + Math.abs(place % 100 - 50) <= 10;
            worth = inHouse ? worth : 0;
          }
          if (worth > most) {
            most = worth;
            best = 1000 * lane + 10 * weight + (turn + 1) / 2;
          }
        }
      }
    }
    return best;
  }

  private static void advice() {
    promise = 14;
    HackHouse none = new HackHouse();
    due("no game", () -> none.advice(0), INDEX);
    none.plan(0, 1, 1, 0);
    due("game -1", () -> none.advice(-1), INDEX);
    due("PLANNED", () -> none.advice(0), STATE);
    none.pass(1);
    due("DRAWS", () -> none.advice(0), STATE);
    lose(none, 0, 2);
    due("PLAYS", () -> none.advice(0), adviceOnEmptySheet(none));
    due("no wear more", () -> none.ofSheet(0, 2), 1);
    due("nothing thrown", () -> none.ofGame(0, 6), 0);
    lose(none, 0, 24);
    due("OVER", () -> none.advice(0), STATE);

    HackHouse hit = playing();
    due("the middle", () -> straight(hit, 0, 4, 35), 450);
    for (int weight = 75; weight <= 85; weight += 5) {
      int missed = weight;
      due("hits it with each of its misses", () -> hit.tries(0, 0, missed, 1, 1, 0), 449);
    }
    due("drives it away", () -> hit.advice(0), 801);

    HackHouse like = playing();
    for (int lane : new int[] {0, 8, 0, 8, 4}) {
      due("over the end", () -> straight(like, 0, lane, 100), -1);
    }
    due("nothing is worth more than 0: the first one", () -> like.advice(0), 400);
  }

  private static void standing() {
    promise = 15;
    HackHouse h = new HackHouse();
    due("place -1", () -> h.standing(-1), INDEX);
    due("place 6", () -> h.standing(6), INDEX);
    dueStanding(h, "at first", 0, 1, 2, 3, 4, 5);
    h.plan(2, 3, 1, 0);
    h.pass(1);
    straight(h, 0, 5, 35);
    dueStanding(h, "team 2 has 2", 2, 0, 1, 3, 4, 5);
    lose(h, 0, 1);
    dueStanding(h, "team 3 has 30, as those without any", 2, 0, 1, 3, 4, 5);
    lose(h, 0, 23);
    straight(h, 0, 4, 35);
    dueStanding(h, "team 2 has won too", 2, 0, 1, 3, 4, 5);

    HackHouse won = drawing();
    straight(won, 0, 4, 35);
    lose(won, 0, 1);
    straight(won, 0, 3, 35);
    lose(won, 0, 23);
    dueStanding(won, "won is ahead of last stones", 1, 0, 2, 3, 4, 5);

    HackHouse rounded = new HackHouse();
    rounded.plan(0, 2, 1, 0);
    rounded.plan(0, 3, 1, 1);
    rounded.plan(1, 4, 1, 2);
    rounded.pass(1);
    due("distance 0", () -> straight(rounded, 0, 4, 35), 450);
    due("distance 3", () -> straight(rounded, 1, 4, 33), 447);
    due("distance 1", () -> straight(rounded, 2, 4, 36), 451);
    dueStanding(rounded, "3 of 2 games is as 1 of 1", 0, 1, 2, 3, 4, 5);
  }

  private static void dueStanding(HackHouse h, String when, int... want) {
    for (int i = 0; i < want.length; i++) {
      int place = i;
      due(when + ", place " + i, () -> h.standing(place), want[place]);
    }
  }

  private static void ofTeam() {
    promise = 16;
    HackHouse h = new HackHouse();
    due("team -1", () -> h.ofTeam(-1, 0), INDEX);
    due("team 6 ahead of what", () -> h.ofTeam(6, 3), INDEX);
    due("what -1", () -> h.ofTeam(0, -1), ARGUMENT);
    due("what 3", () -> h.ofTeam(0, 3), ARGUMENT);
    h.plan(4, 5, 1, 0);
    h.plan(5, 4, 1, 1);
    h.pass(1);
    due("not drawn", () -> h.ofTeam(4, 1), 0);
    straight(h, 0, 3, 35);
    due("drew", () -> h.ofTeam(4, 1), 1);
    due("the other one not yet", () -> h.ofTeam(5, 1), 0);
    due("distance 2", () -> h.ofTeam(4, 2), 2);
    lose(h, 0, 1);
    lose(h, 1, 2);
    due("drew twice", () -> h.ofTeam(4, 1), 2);
    due("30 more", () -> h.ofTeam(4, 2), 32);
    due("twice 30", () -> h.ofTeam(5, 2), 60);
    lose(h, 1, 5);
    straight(h, 1, 4, 35);
    lose(h, 1, 18);
    due("won as the second one", () -> h.ofTeam(4, 0), 1);
    due("lost", () -> h.ofTeam(5, 0), 0);
    lose(h, 0, 24);
    due("like ones: nobody has won", () -> h.ofTeam(4, 0), 1);
    due("like ones: nobody has won", () -> h.ofTeam(5, 0), 0);
  }

  public static void main(String[] args) {
    newObject();
    plan();
    crew();
    shootWrongly();
    draws();
    iceWears();
    stonesPush();
    endsAndGames();
    pass();
    crewChooses();
    lastHour();
    hour();
    ofSheet();
    wear();
    ofGame();
    stone();
    wouldScore();
    tries();
    advice();
    standing();
    ofTeam();
    System.out.println(wrong == 0 ? "all answers are as due" : wrong + " answers are not as due");
    if (wrong != 0) {
      System.exit(1);
    }
  }
}
