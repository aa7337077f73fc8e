import java.util.function.Supplier;
import java.util.function.ToIntFunction;

/**
 * Each sentence of the document that names a boundary has a test of its own here, and is told when it does not hold.
 * No object is asked more than 512 times: behind them its answers are free.
 */
public final class BoundaryTests {
  private static final String INDEX = "IndexOutOfBoundsException";
  private static final String ARGUMENT = "IllegalArgumentException";
  private static final String STATE = "IllegalStateException";
  private static final int LEAST = Integer.MIN_VALUE;
  private static final int MOST = Integer.MAX_VALUE;

  private interface Call { int answer(); }

  private static int wrong = 0;
  private static int held = 0;
  private static String sentence = "";

  // ---- what the tests are written with

  private static void says(String words) {
    sentence = words;
    held++;
  }

  private static String outcome(Call call) {
    try {
      return Integer.toString(call.answer());
    } catch (RuntimeException e) {
      return e.getClass().getSimpleName();
    }
  }

  private static void due(String what, Call call, Object want) {
    same(what, outcome(call), want.toString());
  }

  private static void same(String what, String got, String want) {
    if (!got.equals(want)) {
      wrong++;
      System.out.println("\"" + sentence + "\": " + what + " answered " + got + ", due is " + want);
    }
  }

  /** A call that must throw, on an object whose answers must be the same behind it. */
  private static void refused(Supplier<HackHouse> state, String what, ToIntFunction<HackHouse> call, String want) {
    HackHouse h = state.get();
    String before = answers(h);
    due(what, () -> call.applyAsInt(h), want);
    same("all answers behind " + what, answers(h), before);
  }

  /** What an object tells of itself, but for single cells; with one game 52 calls. */
  private static String answers(HackHouse h) {
    StringBuilder all = new StringBuilder("hour ").append(h.hour());
    for (int sheet = 0; sheet < 3; sheet++) {
      all.append(" sheet");
      for (int what = 0; what < 4; what++) {
        all.append(' ').append(h.ofSheet(sheet, what));
      }
    }
    for (int game = 0; game < 12 && isThere(h, game); game++) {
      all.append(gameAnswers(h, game));
    }
    for (int team = 0; team < 6; team++) {
      all.append(" team").append(h.standing(team));
      for (int what = 0; what < 3; what++) {
        all.append(' ').append(h.ofTeam(team, what));
      }
    }
    return all.toString();
  }

  private static boolean isThere(HackHouse h, int game) {
    return !outcome(() -> h.ofGame(game, 0)).equals(INDEX);
  }

  private static String gameAnswers(HackHouse h, int game) {
    StringBuilder all = new StringBuilder(" game");
    for (int what = 0; what < 8; what++) {
      all.append(' ').append(h.ofGame(game, what));
    }
    for (int i = 0; i < 6; i++) {
      all.append(' ').append(h.stone(game, i / 3, i % 3));
    }
    return all.append(' ').append(h.wouldScore(game)).append(' ').append(h.wouldScoreAnew(game)).toString();
  }

  /** A game of the teams 0 and 1 is planned for the hour 5 on sheet 1. */
  private static HackHouse planned() {
    HackHouse h = new HackHouse();
    h.plan(0, 1, 5, 1);
    return h;
  }

  /** Game 0 of the teams 0 and 1 draws on sheet 0, whose ice is new. */
  private static HackHouse drawing() {
    HackHouse h = new HackHouse();
    h.plan(0, 1, 1, 0);
    h.pass(1);
    return h;
  }

  /** Game 0 plays; the second team has the last stone; only the cell 1 of lane 8 is worn, by 1. */
  private static HackHouse playing() {
    HackHouse h = drawing();
    lose(h, 0, 2);
    return h;
  }

  private static HackHouse over() {
    HackHouse h = drawing();
    lose(h, 0, 26);
    return h;
  }

  /** The second team's stone lies at lane 4, y 50. */
  private static HackHouse oneInTheMiddle() {
    HackHouse h = playing();
    lose(h, 0, 1);
    straight(h, 4, 35);
    return h;
  }

  /** All sheets are free and not made; the crew has none to do; the games 0 to 2 are over. */
  private static HackHouse nothingMade() {
    HackHouse h = new HackHouse();
    for (int sheet = 0; sheet < 3; sheet++) {
      h.plan(0, 1, 1, sheet);
    }
    h.pass(1);
    for (int game = 0; game < 3; game++) {
      lose(h, game, 26);
    }
    return h;
  }

  private static HackHouse twelveGames() {
    HackHouse h = new HackHouse();
    for (int i = 0; i < 12; i++) {
      h.plan(i % 6, (i + 1) % 6, 40, 0);
    }
    return h;
  }

  /** The hour is 9951, 48 hours ahead of the last one. */
  private static HackHouse late() {
    HackHouse h = new HackHouse();
    for (int i = 0; i < 207; i++) {
      h.pass(48);
    }
    h.pass(15);
    return h;
  }

  private static HackHouse atTheEnd() {
    HackHouse h = late();
    h.pass(48);
    return h;
  }

  /** Stones that leave lane 8 no farther than at the cell 1. */
  private static void lose(HackHouse h, int game, int stones) {
    for (int i = 0; i < stones; i++) {
      h.shoot(game, 8, 1, 1, 1, 0);
    }
  }

  /** A stone of game 0 that is swept all the way, so that it goes straight: 7 a cell, and what is worn. */
  private static int straight(HackHouse h, int lane, int weight) {
    return h.shoot(0, lane, weight, 1, 0, 60);
  }

  private static int unswept(HackHouse h, int lane, int weight, int turn) {
    return h.tries(0, lane, weight, turn, 1, 0);
  }

  // ---- the face

  private static void constants() {
    says("PLANNED = 0, DRAWS = 1, PLAYS = 2, OVER = 3: How games are.");
    due("PLANNED", () -> planned().ofGame(0, 0), HackHouse.PLANNED);
    due("DRAWS", () -> drawing().ofGame(0, 0), HackHouse.DRAWS);
    due("PLAYS", () -> playing().ofGame(0, 0), HackHouse.PLAYS);
    due("OVER", () -> over().ofGame(0, 0), HackHouse.OVER);
    int[] values = {HackHouse.PLANNED, HackHouse.DRAWS, HackHouse.PLAYS, HackHouse.OVER};
    for (int i = 0; i < values.length; i++) {
      int value = values[i];
      due("constant " + i, () -> value, i);
    }
  }

  private static void noSuch() {
    int[] notSheets = {-1, 3, LEAST, MOST};
    int[] notTeams = {-1, 6, LEAST, MOST};
    int[] notGames = {-1, 1, 11, 12, LEAST, MOST};
    says("A method that takes a sheet .. throws IndexOutOfBoundsException if there is no such one");
    for (int sheet : notSheets) {
      refused(BoundaryTests::planned, "plan", h -> h.plan(0, 1, 5, sheet), INDEX);
      refused(BoundaryTests::planned, "ofSheet", h -> h.ofSheet(sheet, 0), INDEX);
      refused(BoundaryTests::planned, "wear", h -> h.wear(sheet, 0, 0), INDEX);
    }
    says("A method that takes .. a team .. throws IndexOutOfBoundsException if there is no such one");
    for (int team : notTeams) {
      refused(BoundaryTests::planned, "plan, first", h -> h.plan(team, 1, 5, 0), INDEX);
      refused(BoundaryTests::planned, "plan, second", h -> h.plan(1, team, 5, 0), INDEX);
      refused(BoundaryTests::planned, "ofTeam", h -> h.ofTeam(team, 0), INDEX);
      refused(BoundaryTests::planned, "standing", h -> h.standing(team), INDEX);
    }
    says("A method that takes .. a game throws IndexOutOfBoundsException if there is no such one");
    for (int game : notGames) {
      refused(BoundaryTests::playing, "shoot", h -> h.shoot(game, 4, 35, 1, 0, 60), INDEX);
      refused(BoundaryTests::playing, "tries", h -> h.tries(game, 4, 35, 1, 0, 60), INDEX);
      refused(BoundaryTests::playing, "ofGame", h -> h.ofGame(game, 0), INDEX);
      refused(BoundaryTests::playing, "stone", h -> h.stone(game, 0, 0), INDEX);
      refused(BoundaryTests::playing, "wouldScore", h -> h.wouldScore(game), INDEX);
      refused(BoundaryTests::playing, "wouldScoreAnew", h -> h.wouldScoreAnew(game), INDEX);
      refused(BoundaryTests::playing, "advice", h -> h.advice(game), INDEX);
    }
    due("shoot, no games at all", () -> new HackHouse().shoot(0, 4, 35, 1, 0, 60), INDEX);
    due("advice, no games at all", () -> new HackHouse().advice(0), INDEX);
  }

  private static void orderOfExceptions() {
    says("If several exceptions apply, the one that is named first in the throws clause is thrown: plan");
    refused(BoundaryTests::twelveGames, "all three", h -> h.plan(6, 6, 0, 0), INDEX);
    refused(BoundaryTests::twelveGames, "sheet, same teams, twelve", h -> h.plan(1, 1, 10, 3), INDEX);
    refused(BoundaryTests::twelveGames, "second team, hour", h -> h.plan(1, -1, 0, 0), INDEX);
    refused(BoundaryTests::twelveGames, "same teams and twelve", h -> h.plan(1, 1, 10, 0), ARGUMENT);
    refused(BoundaryTests::twelveGames, "hour 0 and twelve", h -> h.plan(0, 1, 0, 0), ARGUMENT);
    refused(BoundaryTests::twelveGames, "hour 10000 and twelve", h -> h.plan(0, 1, 10000, 0), ARGUMENT);
    refused(BoundaryTests::twelveGames, "twelve", h -> h.plan(0, 1, 10, 0), STATE);
    says("If several exceptions apply, the one that is named first in the throws clause is thrown: shoot, tries");
    refused(BoundaryTests::planned, "shoot, no game, lane", h -> h.shoot(1, 9, 35, 1, 0, 60), INDEX);
    refused(BoundaryTests::planned, "tries, no game, lane", h -> h.tries(1, 9, 35, 1, 0, 60), INDEX);
    refused(BoundaryTests::planned, "shoot, lane, PLANNED", h -> h.shoot(0, 9, 35, 1, 0, 60), ARGUMENT);
    refused(BoundaryTests::planned, "tries, lane, PLANNED", h -> h.tries(0, 9, 35, 1, 0, 60), ARGUMENT);
    refused(BoundaryTests::over, "shoot, to, OVER", h -> h.shoot(0, 4, 35, 1, 0, 61), ARGUMENT);
    refused(BoundaryTests::over, "tries, to, OVER", h -> h.tries(0, 4, 35, 1, 0, 61), ARGUMENT);
    says("If several exceptions apply, the one that is named first in the throws clause is thrown: pass");
    refused(BoundaryTests::late, "49 hours, above 9999", h -> h.pass(49), ARGUMENT);
    refused(BoundaryTests::atTheEnd, "no hours, at 9999", h -> h.pass(0), ARGUMENT);
    says("If several exceptions apply, the one that is named first in the throws clause is thrown: ofSheet to ofTeam");
    refused(BoundaryTests::planned, "ofSheet", h -> h.ofSheet(3, 4), INDEX);
    refused(BoundaryTests::planned, "ofGame", h -> h.ofGame(1, 8), INDEX);
    refused(BoundaryTests::planned, "ofTeam", h -> h.ofTeam(6, 3), INDEX);
    refused(BoundaryTests::planned, "ofSheet below", h -> h.ofSheet(-1, -1), INDEX);
    refused(BoundaryTests::planned, "ofGame below", h -> h.ofGame(-1, -1), INDEX);
    refused(BoundaryTests::planned, "ofTeam below", h -> h.ofTeam(-1, -1), INDEX);
    refused(BoundaryTests::planned, "advice, no game beside one that does not play", h -> h.advice(1), INDEX);
  }

  private static void refusedCallsChangeNothing() {
    says("A call that throws an exception changes nothing");
    HackHouse plain = oneInTheMiddle();
    HackHouse asked = oneInTheMiddle();
    for (int i = 0; i < 20; i++) {
      outcome(() -> asked.shoot(0, 9, 35, 1, 0, 60));
      outcome(() -> asked.shoot(0, 4, 35, 0, 0, 60));
      outcome(() -> asked.tries(0, 4, 35, 1, 0, 61));
      outcome(() -> asked.crew(7));
      outcome(() -> asked.pass(49));
      outcome(() -> asked.plan(0, 0, 9, 0));
      int weight = 30 + i;
      same("stone " + i, outcome(() -> straight(asked, 4, weight)), outcome(() -> straight(plain, 4, weight)));
    }
    same("all answers", answers(asked), answers(plain));
    due("what the crew was told", () -> asked.crew(1), 2);
    due("number of the next game", () -> asked.plan(0, 1, 9, 0), 1);
    says("A call that throws an exception changes nothing: shoot in a game that is PLANNED or OVER");
    refused(BoundaryTests::planned, "PLANNED", h -> straight(h, 4, 35), STATE);
    refused(BoundaryTests::over, "OVER", h -> straight(h, 4, 35), STATE);
    says("A call that throws an exception changes nothing: no hour passes if not all can");
    refused(() -> busyAt(9985), "15 hours", h -> h.pass(15), STATE);
  }

  /** The crew works on sheet 0 for game 1, which is planned for the last hour. */
  private static HackHouse busyAt(int hour) {
    HackHouse h = drawing();
    h.plan(2, 3, 9999, 0);
    int now = 1;
    while (now + 48 < hour) {
      now = h.pass(48);
    }
    h.pass(hour - now - 1);
    lose(h, 0, 26);
    h.pass(1);
    return h;
  }

  private static void looksChangeNothing() {
    says("what there is; nothing from here on changes anything");
    HackHouse h = oneInTheMiddle();
    String before = answers(h);
    for (int weight = 35; weight <= 60; weight += 5) {
      h.tries(0, 4, weight, 1, 0, 60);
      unswept(h, 0, weight, 1);
    }
    int advised = h.advice(0);
    same("all answers behind tries and advice", answers(h), before);
    due("advised again", () -> h.advice(0), advised);
    for (int y = 0; y <= 60; y++) {
      int cell = y;
      due("wear of " + y, () -> h.wear(0, 4, cell), y >= 1 && y <= 50 ? 1 : 0);
    }
  }

  // ---- promises 1 to 3

  private static void newObject() {
    says("No games; all sheets are made; the hour 0");
    HackHouse h = new HackHouse();
    due("hour", h::hour, 0);
    for (int game = 0; game < 12; game++) {
      int number = game;
      due("game " + game, () -> h.ofGame(number, 0), INDEX);
    }
    for (int i = 0; i < 3; i++) {
      int sheet = i;
      due("made", () -> h.ofSheet(sheet, 0), 1);
      due("free", () -> h.ofSheet(sheet, 1), -1);
      due("without work", () -> h.ofSheet(sheet, 3), 0);
    }
    says("a cell has a wear .. 0 at first");
    for (int row = 0; row < 27; row++) {
      HackHouse ice = new HackHouse();
      int sheet = row / 9;
      int lane = row % 9;
      due("all of sheet " + sheet, () -> ice.ofSheet(sheet, 2), 0);
      for (int y = 0; y <= 60; y++) {
        int cell = y;
        due("cell", () -> ice.wear(sheet, lane, cell), 0);
      }
    }
    says("has 2 hours to do, or as many as told");
    due("at first", () -> new HackHouse().crew(1), 2);
  }

  private static void plan() {
    says("first: 0 to 5; second: 0 to 5");
    HackHouse h = new HackHouse();
    due("teams 0 and 5, sheet 2", () -> h.plan(0, 5, 1, 2), 0);
    due("teams 5 and 0, sheet 0", () -> h.plan(5, 0, 1, 0), 1);
    says("Games are numbered from 0, at most 12");
    for (int i = 2; i < 12; i++) {
      due("number", () -> h.plan(1, 2, 1, 1), i);
    }
    due("the thirteenth", () -> h.plan(1, 2, 1, 1), STATE);
    due("game 11", () -> h.ofGame(11, 0), 0);
    due("game 12", () -> h.ofGame(12, 0), INDEX);
    says("Throws IllegalStateException if there are 12: those that are over are counted too");
    HackHouse worn = nothingMade();
    for (int i = 3; i < 12; i++) {
      due("number", () -> worn.plan(1, 2, 30, 1), i);
    }
    due("the thirteenth", () -> worn.plan(1, 2, 30, 1), STATE);
    says("Throws IllegalArgumentException if both are the same");
    for (int team = 0; team < 6; team++) {
      int same = team;
      refused(HackHouse::new, "team " + team, x -> x.plan(same, same, 1, 0), ARGUMENT);
    }
    says("hour: above now, to 9999");
    for (int hour : new int[] {0, -1, LEAST, 10000, MOST}) {
      refused(HackHouse::new, "hour " + hour, x -> x.plan(0, 1, hour, 0), ARGUMENT);
    }
    due("hour 1 at 0", () -> new HackHouse().plan(0, 1, 1, 0), 0);
    due("hour 9999 at 0", () -> new HackHouse().plan(0, 1, 9999, 0), 0);
    refused(BoundaryTests::late, "9950 at 9951", x -> x.plan(0, 1, 9950, 0), ARGUMENT);
    refused(BoundaryTests::late, "9951 at 9951", x -> x.plan(0, 1, 9951, 0), ARGUMENT);
    due("9952 at 9951", () -> late().plan(0, 1, 9952, 0), 0);
    refused(BoundaryTests::atTheEnd, "9999 at 9999", x -> x.plan(0, 1, 9999, 0), ARGUMENT);
    refused(BoundaryTests::atTheEnd, "10000 at 9999", x -> x.plan(0, 1, 10000, 0), ARGUMENT);
  }

  private static void crew() {
    says("hours: 1 to 6");
    for (int hours : new int[] {0, -1, LEAST, 7, MOST}) {
      refused(HackHouse::new, "crew(" + hours + ")", h -> h.crew(hours), ARGUMENT);
    }
    says("Returns what it was");
    HackHouse told = new HackHouse();
    int was = 2;
    for (int hours : new int[] {1, 6, 6, 2, 3}) {
      due("crew(" + hours + ")", () -> told.crew(hours), was);
      was = hours;
    }
    says("has 2 hours to do, or as many as told");
    for (int hours = 1; hours <= 6; hours++) {
      HackHouse h = over();
      int all = hours;
      h.crew(hours);
      h.pass(1);
      for (int left = hours; left > 0; left--) {
        due("left of " + all, () -> h.ofSheet(0, 3), left);
        due("not made with some left", () -> h.ofSheet(0, 0), 0);
        h.pass(1);
      }
      due("none left", () -> h.ofSheet(0, 3), 0);
      due("made", () -> h.ofSheet(0, 0), 1);
    }
    says("Sets how many hours the crew has to do for a sheet that it takes from now on");
    HackHouse h = nothingMade();
    h.pass(1);
    h.crew(6);
    due("taken before", () -> h.ofSheet(0, 3), 2);
    h.pass(2);
    due("made in 2 hours", () -> h.ofSheet(0, 0), 1);
    due("taken behind it", () -> h.ofSheet(1, 3), 6);
  }

  // ---- the stone and the ice

  private static void ranges() {
    int[][] most = {{0, 1, -1, 0, 0}, {8, 100, 1, 60, 60}, {0, 100, 1, 0, 60}, {8, 1, -1, 60, 0}};
    int[][] out = {{-1, 35, 1, 0, 60}, {9, 35, 1, 0, 60}, {4, 0, 1, 0, 60}, {4, 101, 1, 0, 60}, {4, -1, 1, 0, 60},
        {4, 35, 0, 0, 60}, {4, 35, 2, 0, 60}, {4, 35, -2, 0, 60}, {4, 35, 1, -1, 60}, {4, 35, 1, 61, 60},
        {4, 35, 1, 0, -1}, {4, 35, 1, 0, 61}, {4, 35, 1, 61, 0}, {4, 35, 1, 1, -1}, {LEAST, 35, 1, 0, 60},
        {MOST, 35, 1, 0, 60}, {4, LEAST, 1, 0, 60}, {4, MOST, 1, 0, 60}, {4, 35, LEAST, 0, 60}, {4, 35, MOST, 0, 60},
        {4, 35, 1, LEAST, 60}, {4, 35, 1, MOST, 60}, {4, 35, 1, 0, LEAST}, {4, 35, 1, 0, MOST}};
    says("lane: 0 to 8; weight: 1 to 100; turn: -1 or 1; from: 0 to 60; to: 0 to 60");
    for (int[] s : most) {
      due("thrown", () -> drawing().shoot(0, s[0], s[1], s[2], s[3], s[4]), -1);
      due("tried", () -> drawing().tries(0, s[0], s[1], s[2], s[3], s[4]), -1);
    }
    says("Throws IllegalArgumentException if another argument is out of range");
    for (int[] s : out) {
      refused(BoundaryTests::playing, "thrown", h -> h.shoot(0, s[0], s[1], s[2], s[3], s[4]), ARGUMENT);
      refused(BoundaryTests::drawing, "thrown as a draw", h -> h.shoot(0, s[0], s[1], s[2], s[3], s[4]), ARGUMENT);
      refused(BoundaryTests::playing, "tried", h -> h.tries(0, s[0], s[1], s[2], s[3], s[4]), ARGUMENT);
    }
    says("Throws IllegalStateException if the game is neither DRAWS nor PLAYS");
    refused(BoundaryTests::planned, "thrown, PLANNED", h -> h.shoot(0, 4, 35, 1, 0, 60), STATE);
    refused(BoundaryTests::planned, "tried, PLANNED", h -> h.tries(0, 4, 35, 1, 0, 60), STATE);
    refused(BoundaryTests::over, "thrown, OVER", h -> h.shoot(0, 4, 35, 1, 0, 60), STATE);
    refused(BoundaryTests::over, "tried, OVER", h -> h.tries(0, 4, 35, 1, 0, 60), STATE);
    due("thrown, DRAWS", () -> drawing().shoot(0, 4, 35, 1, 0, 60), 450);
    due("tried, DRAWS", () -> drawing().tries(0, 4, 35, 1, 0, 60), 450);
    due("thrown, PLAYS", () -> playing().shoot(0, 4, 35, 1, 0, 60), 450);
    due("tried, PLAYS", () -> playing().tries(0, 4, 35, 1, 0, 60), 450);
  }

  private static void energy() {
    says("A stone begins at the cell 0 of a lane with 10 times its weight of energy");
    HackHouse h = drawing();
    due("weight 1", () -> h.shoot(0, 3, 1, 1, 1, 0), -1);
    due("at the cell 0 it wears nothing", () -> h.wear(0, 3, 0), 0);
    due("its 10 take it to the cell 1", () -> h.wear(0, 3, 1), 1);
    due("and no farther", () -> h.wear(0, 3, 2), 0);
    says("to the next y costs 10 and the wear there .. if it has less energy than that, it stays");
    due("10 are less than 11", () -> h.shoot(0, 3, 1, 1, 1, 0), -1);
    due("it stayed at the cell 0", () -> h.wear(0, 3, 1), 1);
    says("less 3 if that y is swept");
    due("10 are not less than 8", () -> h.shoot(0, 3, 1, 1, 0, 60), -1);
    due("it came to the cell 1", () -> h.wear(0, 3, 1), 2);
    due("2 are less than 7", () -> h.wear(0, 3, 2), 0);
    says("if it has less energy than that, it stays: with as much it does not");
    due("210 are 30 cells of 7", () -> drawing().tries(0, 4, 21, 1, 0, 60), 430);
    due("210 are not 29 cells of 7 and one of 10", () -> drawing().tries(0, 4, 21, 1, 0, 29), -1);
    due("350 are 50 cells of 7", () -> drawing().tries(0, 4, 35, 1, 0, 60), 450);
    due("340 are 48 cells of 7 and 4 more", () -> drawing().tries(0, 4, 34, 1, 0, 60), 448);
  }

  private static void sweeping() {
    says("a stretch of y that is swept, both ends with it");
    due("1 to 30", () -> drawing().tries(0, 4, 21, 1, 1, 30), 430);
    due("not its first", () -> drawing().tries(0, 4, 21, 1, 2, 30), -1);
    due("not its last", () -> drawing().tries(0, 4, 21, 1, 1, 29), -1);
    says("both ends with it: a stretch of one y");
    due("at 30 it does not move aside, and has 3 left", () -> drawing().tries(0, 2, 30, 1, 30, 30), 630);
    due("29 alone: 30 is but the fifth step since 24", () -> drawing().tries(0, 2, 30, 1, 29, 29), 630);
    due("31 alone: nothing left for it", () -> drawing().tries(0, 2, 30, 1, 31, 31), 730);
    due("0 alone: no step goes there", () -> drawing().tries(0, 2, 30, 1, 0, 0), 730);
    due("60 alone", () -> drawing().tries(0, 2, 30, 1, 60, 60), 730);
    says("to: .. below from nothing is swept");
    for (int[] none : new int[][] {{30, 29}, {1, 0}, {60, 0}, {60, 59}, {31, 29}}) {
      due(none[0] + " to " + none[1], () -> drawing().tries(0, 2, 30, 1, none[0], none[1]), 730);
    }
  }

  private static void wearOfTheIce() {
    says("the wear there is 1 more, at most 9");
    HackHouse h = playing();
    for (int i = 1; i <= 11; i++) {
      int worn = Math.min(i, 9);
      straight(h, 4, 100);
      due("cell 1 behind " + i, () -> h.wear(0, 4, 1), worn);
      due("cell 30 behind " + i, () -> h.wear(0, 4, 30), worn);
      due("cell 60 behind " + i, () -> h.wear(0, 4, 60), worn);
      due("cell 0", () -> h.wear(0, 4, 0), 0);
    }
    says("to the next y costs 10 and the wear there, less 3 if that y is swept: 16 at most");
    due("480 are 30 cells of 16", () -> h.tries(0, 4, 48, 1, 0, 60), 430);
    due("470 are 29", () -> h.tries(0, 4, 47, 1, 0, 60), -1);
    due("960 are 60", () -> h.tries(0, 4, 96, 1, 0, 60), -1);
    due("950 are 59", () -> h.tries(0, 4, 95, 1, 0, 60), 459);
    says("Between stones the wear stays; it is that of the sheet");
    lose(h, 0, 13);
    due("the game is over", () -> h.ofGame(0, 0), HackHouse.OVER);
    due("its ice stays worn", () -> h.wear(0, 4, 60), 9);
    due("another lane's is new", () -> h.wear(0, 3, 60), 0);
    due("another sheet's is new", () -> h.ofSheet(1, 2), 0);
  }

  private static void farEnd() {
    says("at y 60 it leaves the sheet then");
    due("420 are 59 cells of 7, and 7 are less than 10", () -> drawing().tries(0, 4, 42, 1, 0, 59), 459);
    due("420 are 60 cells of 7", () -> drawing().tries(0, 4, 42, 1, 0, 60), -1);
    HackHouse stays = drawing();
    stays.shoot(0, 4, 42, 1, 0, 59);
    due("59 is worn", () -> stays.wear(0, 4, 59), 1);
    due("60 is not", () -> stays.wear(0, 4, 60), 0);
    HackHouse leaves = drawing();
    straight(leaves, 4, 42);
    due("60 is worn by one that leaves", () -> leaves.wear(0, 4, 60), 1);
  }

  private static void curl() {
    says("with 12 or more of them .. it moves aside by its turn");
    due("at 12 with 300, then each 6: 12, 18, .. 42", () -> unswept(drawing(), 0, 42, 1), 642);
    due("not at 11 with 300: 12, 18, .. 36", () -> unswept(drawing(), 0, 41, 1), 541);
    says("if it has less than 300 of energy, 6 or more");
    due("from 300: 6, 12, .. 30", () -> unswept(drawing(), 2, 30, 1), 730);
    due("to the other side", () -> unswept(drawing(), 6, 30, -1), 130);
    says("less than 300 of energy: with 300 it does not move aside at 6");
    due("300 at 6, 290 at 7: 7, 13, .. 31", () -> unswept(drawing(), 2, 36, 1), 736);
    dueFirstAside(6, 290, 35, 1, 0);
    dueFirstAside(9, 299, 38, 1, 3);
    says("6 or more: of its steps so far, if it comes below 300 behind the sixth");
    dueFirstAside(7, 290, 36, 1, 0);
    dueFirstAside(8, 290, 37, 1, 0);
    dueFirstAside(11, 290, 40, 1, 0);
    dueFirstAside(12, 290, 41, 1, 0);
    says("12 or more: with more than 300 too");
    dueFirstAside(12, 300, 42, 1, 0);
    dueFirstAside(12, 880, 100, 1, 0);
    dueFirstAside(15, 859, 100, 1, 3);
    says("its steps since it began, or moved aside last");
    due("12, 24, 290 at 30, 36, 42, 48, 54", () -> unswept(drawing(), 0, 59, 1), 759);
    due("12 with 360, 300 at 18, 19, 25, 31, 37, 43", () -> unswept(drawing(), 0, 48, 1), 648);
    says("those to a y that is swept left out");
    due("9, swept to 20, 21 is the tenth, 27, 33, 39", () -> drawing().tries(0, 0, 40, 1, 10, 20), 443);
    due("5, swept to 10, 11 is the sixth, 17, 23, 29", () -> drawing().tries(0, 2, 30, 1, 6, 10), 631);
    says("unless that y is swept");
    due("300 at 6 that is not swept, below it to 59", () -> drawing().tries(0, 4, 36, 1, 7, 59), 448);
  }

  /** From lane 2 to lane 3; the energy that is left there is told for the reader. */
  private static void dueFirstAside(int y, int left, int weight, int from, int to) {
    HackHouse h = drawing();
    h.shoot(0, 2, weight, 1, from, to);
    String what = "moved aside at " + y + " with " + left;
    due(what + ", came there", () -> h.wear(0, 2, y), 1);
    due(what + ", not straight on", () -> h.wear(0, 2, y + 1), 0);
    due(what + ", on beside it", () -> h.wear(0, 3, y + 1), 1);
  }

  private static void offTheLanes() {
    says("off the lanes it leaves the sheet");
    HackHouse right = drawing();
    due("beyond lane 8", () -> right.shoot(0, 8, 60, 1, 1, 0), -1);
    due("it came to 12", () -> right.wear(0, 8, 12), 1);
    due("and no farther", () -> right.ofSheet(0, 2), 12);
    HackHouse left = drawing();
    due("beyond lane 0", () -> left.shoot(0, 0, 60, -1, 1, 0), -1);
    due("it came to 12", () -> left.wear(0, 0, 12), 1);
    due("and no farther", () -> left.ofSheet(0, 2), 12);
    due("at y 30 too", () -> unswept(drawing(), 4, 30, 1), -1);
    due("lane 8 is one of them", () -> unswept(drawing(), 3, 30, 1), 830);
    due("lane 0 is one of them", () -> unswept(drawing(), 5, 30, -1), 30);
    says("it moves aside by its turn, which costs and wears nothing");
    HackHouse h = drawing();
    due("300 are 30 cells, with 5 moves aside", () -> h.shoot(0, 2, 30, 1, 1, 0), 730);
    due("30 cells are worn", () -> h.ofSheet(0, 2), 30);
    due("where it moved aside from", () -> h.wear(0, 2, 6), 1);
    due("where it moved aside to", () -> h.wear(0, 3, 6), 0);
    due("the next one", () -> h.wear(0, 3, 7), 1);
  }

  // ---- stones that push

  /** Six stones came to y 30 of lane 4, each on worn ice; the sixth lies there: 13 a cell, if swept. */
  private static HackHouse stoneAt30() {
    HackHouse h = drawing();
    h.shoot(0, 4, 21, 1, 0, 30);
    h.shoot(0, 4, 24, 1, 0, 30);
    for (int weight = 27; weight <= 36; weight += 3) {
      h.shoot(0, 4, weight, 1, 0, 30);
      if (weight < 36) {
        lose(h, 0, 5);
      }
    }
    return h;
  }

  /** Five stones came to y 31 of lane 4, each on worn ice; the fifth lies there: 12 a cell, if swept. */
  private static HackHouse stoneAt31() {
    HackHouse h = drawing();
    h.shoot(0, 4, 22, 1, 0, 31);
    h.shoot(0, 4, 25, 1, 0, 31);
    h.shoot(0, 4, 28, 1, 0, 31);
    lose(h, 0, 5);
    h.shoot(0, 4, 31, 1, 0, 31);
    lose(h, 0, 5);
    h.shoot(0, 4, 35, 1, 0, 31);
    return h;
  }

  private static void pushing() {
    says("If it has the energy, and a stone lies there: with less nothing is pushed");
    HackHouse less = stoneAt30();
    due("the stone", () -> less.stone(0, 0, 0), 430);
    due("its ice", () -> less.wear(0, 4, 30), 6);
    due("14 left at 29, and 30 costs 16", () -> less.shoot(0, 4, 40, 1, 4, 29), -1);
    due("which is where it was", () -> less.stone(0, 0, 0), 430);
    says("If it has the energy, and a stone lies there, it stays, and that one gets three quarters");
    HackHouse enough = stoneAt30();
    due("14 left at 29, and 30 costs 13", () -> enough.shoot(0, 4, 40, 1, 4, 30), -1);
    due("pushed by 10", () -> enough.stone(0, 0, 0), 431);
    due("where it was pushed to", () -> enough.wear(0, 4, 31), 1);
    due("the one that stays wears nothing", () -> enough.wear(0, 4, 30), 6);
    says("If it has the energy: as much as it costs is enough");
    HackHouse exact = stoneAt31();
    due("the stone", () -> exact.stone(0, 0, 0), 431);
    due("its ice", () -> exact.wear(0, 4, 31), 5);
    due("15 left at 30, and 31 costs 15", () -> exact.shoot(0, 4, 39, 1, 6, 30), 430);
    due("pushed by 11", () -> exact.stone(0, 0, 0), 432);
  }

  private static void shares() {
    says("that one gets three quarters of the energy, rounded down");
    HackHouse rounded = playing();
    straight(rounded, 4, 35);
    due("79 left", () -> rounded.shoot(0, 4, 48, 1, 4, 60), 449);
    due("59 are 5 cells", () -> rounded.stone(0, 0, 0), 455);
    HackHouse even = playing();
    straight(even, 4, 35);
    due("88 left", () -> straight(even, 4, 48), 449);
    due("66 are 6 cells", () -> even.stone(0, 0, 0), 456);
    says("that one gets three quarters of the energy, rounded down: too few for a cell, or as many as it costs");
    HackHouse few = playing();
    straight(few, 4, 35);
    due("13 left", () -> few.shoot(0, 4, 42, 1, 6, 60), 449);
    due("9 are less than 10", () -> few.stone(0, 0, 0), 450);
    due("which wears nothing", () -> few.wear(0, 4, 51), 0);
    HackHouse enough = playing();
    straight(enough, 4, 35);
    due("14 left", () -> enough.shoot(0, 4, 43, 1, 9, 60), 449);
    due("10 are a cell", () -> enough.stone(0, 0, 0), 451);
    says("if a stone lies there, it does not move aside but stays, and that one gets half of the energy, rounded down");
    HackHouse aside = playing();
    aside.shoot(0, 5, 28, 1, 2, 60);
    due("39 left at 39, where it counts 6", () -> aside.shoot(0, 4, 33, 1, 0, 33), 439);
    due("19 are a cell", () -> aside.stone(0, 0, 0), 540);
    due("its last step wears", () -> aside.wear(0, 4, 39), 1);
    due("the stone's place is not worn again", () -> aside.wear(0, 5, 39), 1);
    HackHouse left = playing();
    left.shoot(0, 3, 28, 1, 2, 60);
    due("to the other side", () -> left.shoot(0, 4, 33, -1, 0, 33), 439);
    due("19 are a cell", () -> left.stone(0, 0, 0), 340);
  }

  private static void pushedStones() {
    says("A stone that gets energy moves likewise from where it lies, straight");
    HackHouse far = playing();
    straight(far, 4, 21);
    due("168 left of 400 behind 29 cells of 8: taken away", () -> straight(far, 4, 40), -1);
    due("126 are 12 cells, and none aside", () -> far.stone(0, 0, 0), 442);
    says("A stone that gets energy moves .. with nothing swept");
    due("12 cells of 10", () -> far.ofSheet(0, 2), 1 + 30 + 29 + 12);
    says("moves likewise: at y 60 it leaves the sheet");
    HackHouse stays = playing();
    straight(stays, 4, 35);
    due("128 left at 49", () -> straight(stays, 4, 52), 449);
    due("96 are 9 cells", () -> stays.stone(0, 0, 0), 459);
    HackHouse leaves = playing();
    straight(leaves, 4, 35);
    due("138 left at 49", () -> straight(leaves, 4, 53), 449);
    due("103 are 10 cells", () -> leaves.stone(0, 0, 0), -1);
    due("60 is worn", () -> leaves.wear(0, 4, 60), 1);
    says("moves likewise: it pushes one that lies there");
    HackHouse chain = twoInARow();
    due("50 left at 50", () -> straight(chain, 4, 50), 450);
    due("37 are enough for 11: it stays and pushes", () -> chain.stone(0, 1, 0), 451);
    due("27 are 2 cells", () -> chain.stone(0, 0, 0), 454);
    due("pushed from where it lay", () -> chain.wear(0, 4, 52), 1);
    HackHouse least = twoInARow();
    due("20 left at 50", () -> straight(least, 4, 47), 450);
    due("15 are enough for 11: it stays and pushes", () -> least.stone(0, 1, 0), 451);
    due("11 are a cell", () -> least.stone(0, 0, 0), 453);
    HackHouse none = twoInARow();
    due("10 left at 50", () -> straight(none, 4, 46), 450);
    due("7 are less than 11", () -> none.stone(0, 1, 0), 451);
    due("nothing for the next one", () -> none.stone(0, 0, 0), 452);
  }

  /** The first team's stone lies at y 52 of lane 4, the second team's at 51: 9 a cell to there, if swept. */
  private static HackHouse twoInARow() {
    HackHouse h = playing();
    due("to 52", () -> straight(h, 4, 37), 452);
    due("to 51, with 2 left", () -> straight(h, 4, 41), 451);
    return h;
  }

  private static void tooShort() {
    says("One that stays .. at a y below 30, is taken away, as one that leaves the sheet");
    due("29", () -> drawing().tries(0, 4, 21, 1, 1, 29), -1);
    due("30", () -> drawing().tries(0, 4, 21, 1, 1, 30), 430);
    HackHouse h = playing();
    due("29", () -> h.shoot(0, 4, 21, 1, 1, 29), -1);
    due("it came there", () -> h.wear(0, 4, 29), 1);
    due("and no farther", () -> h.wear(0, 4, 30), 0);
    due("it does not lie there", () -> h.stone(0, 0, 0), -1);
    due("nothing stops another one there", () -> h.shoot(0, 4, 24, 1, 0, 60), 430);
    says("One that stays, thrown or pushed, at a y below 30: one that stays since a stone lies ahead too");
    due("at 29, with one at 30", () -> straight(h, 4, 40), -1);
  }

  // ---- the house and the scores

  private static void dueScore(HackHouse h, String what, int want) {
    due(what, () -> h.wouldScore(0), want);
    due(what + ", anew", () -> h.wouldScoreAnew(0), want);
  }

  /** The first stone of an end, which is the first team's, comes to rest at a place. */
  private static void dueInHouse(int lane, int weight, int from, int place, int score) {
    HackHouse h = playing();
    due("it stays at " + place, () -> h.shoot(0, lane, weight, 1, from, 60), place);
    dueScore(h, "at " + place, score);
  }

  private static void house() {
    says("it is in the house with 10 or less: along y");
    dueInHouse(4, 28, 0, 440, 1);
    dueInHouse(4, 28, 2, 439, 0);
    HackHouse far = playing();
    due("420 are 59 cells", () -> far.shoot(0, 4, 42, 1, 0, 59), 459);
    dueScore(far, "the distance 9 behind", 1);
    says("twice its lanes from there, and its y from there, together, without signs");
    dueInHouse(0, 34, 0, 48, 1);
    dueInHouse(0, 33, 0, 47, 0);
    dueInHouse(8, 37, 0, 852, 1);
    dueInHouse(8, 38, 2, 853, 0);
    dueInHouse(0, 37, 0, 52, 1);
    dueInHouse(8, 34, 0, 848, 1);
    dueInHouse(8, 33, 0, 847, 0);
    dueInHouse(3, 30, 0, 342, 1);
    dueInHouse(5, 29, 0, 541, 0);
  }

  private static void scores() {
    says("with none in the house .. nobody does");
    HackHouse none = playing();
    dueScore(none, "no stones", 0);
    none.shoot(0, 4, 28, 1, 2, 60);
    straight(none, 5, 29);
    dueScore(none, "both beside the house", 0);
    says("both nearest ones alike, nobody does");
    HackHouse alike = playing();
    straight(alike, 3, 35);
    dueScore(alike, "one", 1);
    straight(alike, 5, 35);
    dueScore(alike, "350 and 550", 0);
    straight(alike, 2, 35);
    straight(alike, 6, 35);
    dueScore(alike, "250 and 650 too", 0);
    straight(alike, 4, 35);
    dueScore(alike, "450", 1);
    says("scores 1 for each of its stones in the house that is nearer than the nearest of the other one");
    HackHouse several = playing();
    straight(several, 4, 35);
    straight(several, 2, 35);
    dueScore(several, "0 against 4", 1);
    due("at distance 2", () -> straight(several, 3, 35), 350);
    dueScore(several, "0 and 2 against 4", 2);
    due("at distance 4", () -> straight(several, 6, 35), 650);
    dueScore(several, "two at 4", 2);
    due("as near as the other one's nearest", () -> several.shoot(0, 4, 37, 1, 0, 46), 446);
    dueScore(several, "0, 2 and 4 against 4", 2);
    says("its stones in the house: none beside it counts, though the other one has none");
    HackHouse beside = playing();
    lose(beside, 0, 1);
    straight(beside, 4, 35);
    lose(beside, 0, 1);
    due("distance 11", () -> straight(beside, 5, 29), 541);
    dueScore(beside, "the second team's one", -1);
    says("0 for a game that does not play");
    dueScore(planned(), "PLANNED", 0);
    HackHouse draws = drawing();
    straight(draws, 4, 35);
    dueScore(draws, "DRAWS", 0);
    dueScore(over(), "OVER", 0);
  }

  // ---- games

  private static void dueDraws(int lane, int weight, int lane2, int weight2, int first, int second, int last) {
    HackHouse h = drawing();
    due("first to throw", () -> h.ofGame(0, 6), 0);
    h.shoot(0, lane, weight, 1, 0, 60);
    due("still DRAWS", () -> h.ofGame(0, 0), HackHouse.DRAWS);
    due("second to throw", () -> h.ofGame(0, 6), 1);
    h.shoot(0, lane2, weight2, 1, 0, 60);
    due("PLAYS", () -> h.ofGame(0, 0), HackHouse.PLAYS);
    due("the first one's", () -> h.ofTeam(0, 2), first);
    due("the second one's", () -> h.ofTeam(1, 2), second);
    due("the last stone", () -> h.ofGame(0, 7), last);
    due("the first stone", () -> h.ofGame(0, 6), 1 - last);
  }

  private static void draws() {
    says("its distance is added .. 30 if it is not on the sheet");
    dueDraws(4, 35, 4, 20, 0, 30, 0);
    dueDraws(4, 20, 3, 35, 30, 2, 1);
    dueDraws(4, 42, 8, 35, 30, 8, 1);
    says("30 .. if that is more: the farthest one on the sheet has 28");
    dueDraws(0, 21, 4, 20, 28, 30, 0);
    dueDraws(4, 20, 8, 21, 30, 28, 1);
    says("the team with the lesser one has the last stone of the first end");
    dueDraws(4, 34, 3, 34, 2, 4, 0);
    dueDraws(3, 34, 4, 34, 4, 2, 1);
    says("of equal ones the second team");
    dueDraws(3, 35, 5, 35, 2, 2, 1);
    dueDraws(4, 35, 4, 40, 0, 0, 1);
    dueDraws(4, 20, 4, 1, 30, 30, 1);
    says("In DRAWS each team throws a stone alone on the sheet");
    HackHouse h = drawing();
    straight(h, 4, 35);
    due("8 a cell, and none pushed", () -> straight(h, 4, 40), 450);
    due("nothing lies there behind the draws", () -> straight(h, 4, 45), 450);
    says("the game does not play: a draw is no stone of an end");
    HackHouse drawn = drawing();
    straight(drawn, 4, 35);
    due("first", () -> drawn.stone(0, 0, 0), -1);
    lose(drawn, 0, 1);
    due("behind the draws", () -> drawn.stone(0, 0, 0), -1);
  }

  private static void turns() {
    says("each of 3 stones by each team in turns, that without the last stone first");
    for (int last = 0; last < 2; last++) {
      HackHouse h = drawing();
      straight(h, 7, last == 0 ? 35 : 1);
      straight(h, 8, 35);
      int second = last;
      for (int i = 0; i < 5; i++) {
        int team = i % 2 == 0 ? 1 - last : last;
        int number = i / 2;
        int lane = i;
        due("who throws stone " + i, () -> h.ofGame(0, 6), team);
        due("not thrown", () -> h.stone(0, team, number), -1);
        due("who has the last stone", () -> h.ofGame(0, 7), second);
        due("thrown", () -> straight(h, lane, 25), 100 * lane + 35);
        due("where it lies", () -> h.stone(0, team, number), 100 * lane + 35);
      }
      due("who throws the last stone", () -> h.ofGame(0, 6), second);
      due("ends before it", () -> h.ofGame(0, 5), 0);
      lose(h, 0, 1);
      due("ends behind it", () -> h.ofGame(0, 5), 1);
    }
  }

  private static void ends() {
    says("Who scores throws first in the next end");
    HackHouse first = playing();
    straight(first, 4, 35);
    lose(first, 0, 4);
    due("not over before the sixth", () -> first.ofGame(0, 5), 0);
    due("no points before the sixth", () -> first.ofGame(0, 3), 0);
    lose(first, 0, 1);
    due("1 for the first team", () -> first.ofGame(0, 3), 1);
    due("none for the second team", () -> first.ofGame(0, 4), 0);
    due("it throws first", () -> first.ofGame(0, 6), 0);
    due("the other one has the last stone", () -> first.ofGame(0, 7), 1);
    HackHouse second = playing();
    lose(second, 0, 1);
    straight(second, 4, 35);
    lose(second, 0, 4);
    due("1 for the second team", () -> second.ofGame(0, 4), 1);
    due("none for the first team", () -> second.ofGame(0, 3), 0);
    due("it throws first", () -> second.ofGame(0, 6), 1);
    due("the other one has the last stone", () -> second.ofGame(0, 7), 0);
    says("otherwise it is as it was");
    lose(second, 0, 6);
    due("nobody scored", () -> second.ofGame(0, 4), 1);
    due("who throws first", () -> second.ofGame(0, 6), 1);
    due("who has the last stone", () -> second.ofGame(0, 7), 0);
    says("Stones are taken away");
    due("one that lay there", () -> second.stone(0, 1, 0), -1);
    due("nothing to push", () -> straight(second, 4, 40), 450);
    says("Behind the last one .. three of one team");
    HackHouse three = playing();
    for (int lane = 3; lane <= 5; lane++) {
      straight(three, lane, 35);
      lose(three, 0, 1);
    }
    due("3 points for the first team", () -> three.ofGame(0, 3), 3);
    HackHouse threeOfSecond = playing();
    for (int lane = 3; lane <= 5; lane++) {
      lose(threeOfSecond, 0, 1);
      straight(threeOfSecond, lane, 35);
    }
    due("3 points for the second team", () -> threeOfSecond.ofGame(0, 4), 3);
    says("Behind the last one: the last stone counts");
    HackHouse last = playing();
    straight(last, 3, 35);
    lose(last, 0, 4);
    straight(last, 4, 35);
    due("the first team's is not the nearest", () -> last.ofGame(0, 3), 0);
    due("the second team's last one is", () -> last.ofGame(0, 4), 1);
  }

  private static void fourEnds() {
    says("A game has 4 ends");
    HackHouse h = playing();
    lose(h, 0, 23);
    due("PLAYS before the last stone", () -> h.ofGame(0, 0), HackHouse.PLAYS);
    due("3 ends", () -> h.ofGame(0, 5), 3);
    due("its sheet", () -> h.ofSheet(0, 1), 0);
    due("its last stone", () -> h.ofGame(0, 7), 1);
    due("who throws it", () -> h.ofGame(0, 6), 1);
    lose(h, 0, 1);
    due("OVER", () -> h.ofGame(0, 0), HackHouse.OVER);
    due("4 ends", () -> h.ofGame(0, 5), 4);
    due("who has the last stone", () -> h.ofGame(0, 7), -1);
    due("who throws next", () -> h.ofGame(0, 6), -1);
    due("where it was", () -> h.ofGame(0, 2), 0);
    due("its sheet is free", () -> h.ofSheet(0, 1), -1);
    due("its sheet is not made", () -> h.ofSheet(0, 0), 0);
    says("with like ones nobody has");
    due("0 and 0, first", () -> h.ofTeam(0, 0), 0);
    due("0 and 0, second", () -> h.ofTeam(1, 0), 0);
    HackHouse even = playing();
    straight(even, 4, 35);
    lose(even, 0, 6);
    straight(even, 3, 35);
    lose(even, 0, 16);
    due("1 for the first team", () -> even.ofGame(0, 3), 1);
    due("1 for the second team", () -> even.ofGame(0, 4), 1);
    due("1 and 1, first", () -> even.ofTeam(0, 0), 0);
    due("1 and 1, second", () -> even.ofTeam(1, 0), 0);
    says("who has more then has won it: then, not before");
    HackHouse won = playing();
    straight(won, 4, 35);
    lose(won, 0, 22);
    due("before its last stone", () -> won.ofTeam(0, 0), 0);
    lose(won, 0, 1);
    due("behind its last stone", () -> won.ofTeam(0, 0), 1);
    due("who lost", () -> won.ofTeam(1, 0), 0);
  }

  // ---- hours and the crew

  private static void pass() {
    says("hours: 1 to 48");
    for (int hours : new int[] {0, -1, LEAST, 49, MOST}) {
      refused(BoundaryTests::planned, "pass(" + hours + ")", h -> h.pass(hours), ARGUMENT);
    }
    due("1", () -> new HackHouse().pass(1), 1);
    due("48", () -> new HackHouse().pass(48), 48);
    says("Throws IllegalStateException if it would be above 9999");
    due("9951 and 48", () -> late().pass(48), 9999);
    refused(BoundaryTests::atTheEnd, "9999 and 1", h -> h.pass(1), STATE);
    refused(BoundaryTests::atTheEnd, "9999 and 48", h -> h.pass(48), STATE);
    HackHouse near = late();
    near.pass(1);
    due("9952 and 48", () -> near.pass(48), STATE);
    due("9952 and 47", () -> near.pass(47), 9999);
    due("the hour", near::hour, 9999);
    says("An hour that passes: as many, one by one, as told");
    HackHouse once = crowded();
    HackHouse often = crowded();
    once.pass(48);
    for (int i = 0; i < 48; i++) {
      often.pass(1);
    }
    same("48 hours at once", answers(once), answers(often));
  }

  /** Three sheets that are not made, and four games that wait for them. */
  private static HackHouse crowded() {
    HackHouse h = nothingMade();
    h.plan(2, 3, 2, 2);
    h.plan(4, 5, 7, 1);
    h.plan(2, 5, 3, 1);
    h.plan(0, 1, 3, 0);
    return h;
  }

  private static void begins() {
    says("PLANNED games whose hour has come .. begin");
    HackHouse h = planned();
    h.pass(4);
    due("an hour before", () -> h.ofGame(0, 0), HackHouse.PLANNED);
    due("on no sheet", () -> h.ofGame(0, 2), -1);
    due("its sheet is made", () -> h.ofSheet(1, 0), 1);
    h.pass(1);
    due("in its hour", () -> h.ofGame(0, 0), HackHouse.DRAWS);
    says("on the sheet that is wished for, if it is free and made");
    due("not the lowest", () -> h.ofGame(0, 2), 1);
    due("its game", () -> h.ofSheet(1, 1), 0);
    says("A sheet on which a game begins is not made any more");
    due("made", () -> h.ofSheet(1, 0), 0);
    due("others are", () -> h.ofSheet(0, 0), 1);
    says("otherwise on the lowest one that is");
    HackHouse two = new HackHouse();
    two.plan(0, 1, 1, 2);
    two.plan(2, 3, 1, 2);
    two.plan(4, 5, 1, 0);
    two.plan(0, 5, 1, 1);
    two.pass(1);
    due("the wished one", () -> two.ofGame(0, 2), 2);
    due("the lowest one", () -> two.ofGame(1, 2), 0);
    due("the lowest one that is left", () -> two.ofGame(2, 2), 1);
    says("if none is, the hour of the game is 1 more");
    due("moved", () -> two.ofGame(3, 1), 2);
    due("PLANNED", () -> two.ofGame(3, 0), HackHouse.PLANNED);
    due("on no sheet", () -> two.ofGame(3, 2), -1);
    two.pass(5);
    due("moved each hour", () -> two.ofGame(3, 1), 7);
    says("otherwise on the lowest one that is: a wished one that is free, but not made, is not begun on");
    HackHouse unmade = over();
    unmade.plan(2, 3, 2, 0);
    unmade.pass(1);
    due("the lowest one that is free and made", () -> unmade.ofGame(1, 2), 1);
    says("No game is played on a sheet that is not made");
    HackHouse none = nothingMade();
    none.plan(0, 1, 2, 1);
    none.pass(1);
    due("three free ones, none made", () -> none.ofGame(3, 0), HackHouse.PLANNED);
    due("moved", () -> none.ofGame(3, 1), 3);
    says("by rising hours, then numbers");
    lesserNumberBegins();
    says("the hour of the game is 1 more: at the last hour too");
    HackHouse late = busyAt(9998);
    late.plan(4, 5, 9999, 1);
    late.plan(4, 5, 9999, 1);
    late.plan(4, 5, 9999, 1);
    due("the last hour", () -> late.pass(1), 9999);
    due("begins in it", () -> late.ofGame(2, 0), HackHouse.DRAWS);
    due("moved behind it", () -> late.ofGame(3, 1), 10000);
  }

  /** Game 4 was moved to the hour for which game 3 is planned: the hours are alike then, and 3 comes first. */
  private static void lesserNumberBegins() {
    HackHouse h = new HackHouse();
    for (int sheet = 0; sheet < 3; sheet++) {
      h.plan(0, 1, 1, sheet);
    }
    h.plan(2, 3, 4, 0);
    h.plan(4, 5, 1, 0);
    h.pass(1);
    lose(h, 0, 26);
    h.pass(2);
    due("moved twice more", () -> h.ofGame(4, 1), 4);
    due("not made in 3", () -> h.ofSheet(0, 0), 0);
    h.pass(1);
    due("the lesser number begins", () -> h.ofSheet(0, 1), 3);
    due("the greater one is moved", () -> h.ofGame(4, 1), 5);
  }

  private static void crewAtWork() {
    says("if it has none to do, it takes the sheet that is free and not made: in the next hour, not before");
    HackHouse h = over();
    due("not yet", () -> h.ofSheet(0, 3), 0);
    h.pass(1);
    due("2 hours to do", () -> h.ofSheet(0, 3), 2);
    says("The crew works on a sheet that stays free");
    due("free", () -> h.ofSheet(0, 1), -1);
    says("the crew has an hour less to do; what it made then is made, with no wear");
    h.pass(1);
    due("an hour less", () -> h.ofSheet(0, 3), 1);
    due("not made", () -> h.ofSheet(0, 0), 0);
    due("worn", () -> h.ofSheet(0, 2), 1);
    h.pass(1);
    due("none to do", () -> h.ofSheet(0, 3), 0);
    due("made", () -> h.ofSheet(0, 0), 1);
    due("no wear", () -> h.ofSheet(0, 2), 0);
    says("it takes the sheet that is free and not made: none that is made, or with a game");
    HackHouse idle = new HackHouse();
    idle.pass(48);
    HackHouse used = drawing();
    used.pass(48);
    for (int i = 0; i < 3; i++) {
      int sheet = i;
      due("a made sheet", () -> idle.ofSheet(sheet, 3), 0);
      due("with a game on sheet 0", () -> used.ofSheet(sheet, 3), 0);
    }
    due("not made by anybody", () -> used.ofSheet(0, 0), 0);
    says("what it made then is made .. it takes the sheet .. Then PLANNED games .. begin: all in one hour");
    HackHouse all = nothingMade();
    all.plan(2, 3, 4, 0);
    all.pass(3);
    due("the next one is taken", () -> all.ofSheet(1, 3), 2);
    due("a game has begun on it", () -> all.ofSheet(0, 1), 3);
    due("with no wear", () -> all.ofSheet(0, 2), 0);
    due("not made any more", () -> all.ofSheet(0, 0), 0);
    due("one at a time", () -> all.ofSheet(2, 3), 0);
  }

  private static void crewChooses() {
    says("for which a planned game with the least hour wishes");
    HackHouse h = nothingMade();
    h.plan(0, 1, 9, 1);
    h.plan(0, 1, 8, 2);
    h.plan(0, 1, 30, 0);
    h.pass(1);
    due("8 is least", () -> h.ofSheet(2, 3), 2);
    h.pass(2);
    due("9 is least of the others", () -> h.ofSheet(1, 3), 2);
    h.pass(2);
    due("30 is left", () -> h.ofSheet(0, 3), 2);
    HackHouse soonest = nothingMade();
    soonest.plan(0, 1, 20, 1);
    soonest.plan(0, 1, 9, 2);
    soonest.plan(0, 1, 30, 2);
    soonest.pass(1);
    due("9 is least, though 30 is planned for 2 too", () -> soonest.ofSheet(2, 3), 2);
    says("of several .. the lowest");
    HackHouse several = nothingMade();
    several.plan(0, 1, 9, 2);
    several.plan(0, 1, 9, 1);
    several.plan(0, 1, 10, 0);
    several.pass(1);
    due("1 of 1 and 2", () -> several.ofSheet(1, 3), 2);
    says("or without such games, the lowest");
    HackHouse without = nothingMade();
    without.pass(1);
    due("0 of all", () -> without.ofSheet(0, 3), 2);
    HackHouse wished = nothingMade();
    wished.plan(0, 1, 9999, 2);
    wished.pass(1);
    due("2, for which one wishes at the last hour", () -> wished.ofSheet(2, 3), 2);
    says("a planned game: none that has begun, or is over");
    HackHouse begun = new HackHouse();
    begun.plan(0, 1, 1, 2);
    begun.plan(2, 3, 1, 2);
    begun.plan(4, 5, 2, 1);
    begun.pass(2);
    lose(begun, 0, 26);
    lose(begun, 2, 26);
    begun.pass(1);
    due("game 1 draws on sheet 0", () -> begun.ofSheet(0, 1), 1);
    due("1, though games that had begun wished for 2", () -> begun.ofSheet(1, 3), 2);
    says("the sheet that is free and not made for which: games that wish for others don't count");
    HackHouse others = new HackHouse();
    for (int sheet = 0; sheet < 3; sheet++) {
      others.plan(0, 1, 1, sheet);
    }
    others.pass(1);
    lose(others, 0, 26);
    lose(others, 1, 26);
    others.plan(0, 1, 5, 2);
    others.plan(0, 1, 9, 1);
    others.pass(1);
    due("1, as 2 is not free", () -> others.ofSheet(1, 3), 2);
    says("it takes the sheet .. Then PLANNED games .. begin: those of this hour are planned when it takes one");
    HackHouse thisHour = new HackHouse();
    thisHour.plan(0, 1, 1, 0);
    thisHour.plan(2, 3, 1, 2);
    thisHour.pass(1);
    lose(thisHour, 0, 26);
    lose(thisHour, 1, 26);
    thisHour.plan(4, 5, 2, 2);
    thisHour.pass(1);
    due("2, which it wished for", () -> thisHour.ofSheet(2, 3), 2);
    due("it began on the one that is made", () -> thisHour.ofGame(2, 2), 1);
  }

  // ---- what there is

  private static void outOfRange() {
    says("ofSheet: what: 0 to 3");
    for (int what : new int[] {-1, 4, LEAST, MOST}) {
      refused(BoundaryTests::playing, "what " + what, h -> h.ofSheet(0, what), ARGUMENT);
    }
    says("ofGame: what: 0 to 7");
    for (int what : new int[] {-1, 8, LEAST, MOST}) {
      refused(BoundaryTests::playing, "what " + what, h -> h.ofGame(0, what), ARGUMENT);
    }
    says("ofTeam: what: 0 to 2");
    for (int what : new int[] {-1, 3, LEAST, MOST}) {
      refused(BoundaryTests::playing, "what " + what, h -> h.ofTeam(0, what), ARGUMENT);
    }
    says("wear: lane: 0 to 8; y: 0 to 60");
    for (int lane : new int[] {-1, 9, LEAST, MOST}) {
      refused(BoundaryTests::playing, "lane " + lane, h -> h.wear(0, lane, 0), INDEX);
    }
    for (int y : new int[] {-1, 61, LEAST, MOST}) {
      refused(BoundaryTests::playing, "y " + y, h -> h.wear(0, 0, y), INDEX);
    }
    for (int[] cell : new int[][] {{0, 0}, {0, 60}, {8, 0}, {8, 60}}) {
      due("a corner", () -> playing().wear(2, cell[0], cell[1]), 0);
    }
    says("stone: team: 0 for the first, 1 for the second one; stone: 0 to 2");
    for (int team : new int[] {-1, 2, LEAST, MOST}) {
      refused(BoundaryTests::playing, "team " + team, h -> h.stone(0, team, 0), INDEX);
    }
    for (int stone : new int[] {-1, 3, LEAST, MOST}) {
      refused(BoundaryTests::playing, "stone " + stone, h -> h.stone(0, 0, stone), INDEX);
      refused(BoundaryTests::playing, "second team's stone " + stone, h -> h.stone(0, 1, stone), INDEX);
    }
    due("the last one", () -> playing().stone(0, 1, 2), -1);
    says("place: 0 to 5");
    for (int place = 0; place < 6; place++) {
      int asked = place;
      due("place", () -> new HackHouse().standing(asked), place);
    }
  }

  private static void ofGame() {
    says("2 the sheet on which it is, or was, -1 while PLANNED");
    HackHouse h = planned();
    due("PLANNED", () -> h.ofGame(0, 2), -1);
    h.pass(5);
    due("DRAWS", () -> h.ofGame(0, 2), 1);
    lose(h, 0, 2);
    due("PLAYS", () -> h.ofGame(0, 2), 1);
    lose(h, 0, 24);
    due("OVER", () -> h.ofGame(0, 2), 1);
    says("6 which team throws next .. -1 if none");
    due("PLANNED", () -> planned().ofGame(0, 6), -1);
    due("DRAWS", () -> drawing().ofGame(0, 6), 0);
    due("OVER", () -> h.ofGame(0, 6), -1);
    says("7 who has the last stone of this end, -1 if it does not play");
    due("PLANNED", () -> planned().ofGame(0, 7), -1);
    due("DRAWS", () -> drawing().ofGame(0, 7), -1);
    HackHouse half = drawing();
    lose(half, 0, 1);
    due("DRAWS, the second one", () -> half.ofGame(0, 7), -1);
    due("PLAYS", () -> playing().ofGame(0, 7), 1);
    due("OVER", () -> h.ofGame(0, 7), -1);
    says("1 its hour: that to which it is moved");
    HackHouse moved = nothingMade();
    moved.plan(0, 1, 2, 0);
    moved.pass(3);
    due("begun in 4", () -> moved.ofGame(3, 0), HackHouse.DRAWS);
    due("its hour", () -> moved.ofGame(3, 1), 4);
    moved.pass(10);
    due("its hour stays", () -> moved.ofGame(3, 1), 4);
  }

  private static void stone() {
    says("Returns 100 times its lane, and its y, together");
    HackHouse h = playing();
    due("lane 0", () -> h.shoot(0, 0, 21, 1, 0, 60), 30);
    due("lane 0, as it lies", () -> h.stone(0, 0, 0), 30);
    due("lane 8", () -> h.shoot(0, 8, 42, 1, 2, 59), 859);
    due("lane 8, as it lies", () -> h.stone(0, 1, 0), 859);
    says("-1 if it is not on the sheet, or not thrown, or the game does not play");
    due("not thrown", () -> h.stone(0, 0, 1), -1);
    lose(h, 0, 1);
    due("not on the sheet", () -> h.stone(0, 0, 1), -1);
    due("PLANNED", () -> planned().stone(0, 0, 0), -1);
    due("DRAWS", () -> drawing().stone(0, 0, 0), -1);
    HackHouse ended = playing();
    lose(ended, 0, 23);
    straight(ended, 4, 35);
    due("OVER", () -> ended.ofGame(0, 0), HackHouse.OVER);
    due("the last one of the game", () -> ended.stone(0, 1, 2), -1);
  }

  private static void standings() {
    says("a team without any has 30");
    HackHouse five = new HackHouse();
    five.plan(5, 0, 1, 0);
    five.pass(1);
    due("28", () -> straight(five, 0, 21), 30);
    dueStandings(five, "28 are less than 30 of none", 5, 0, 1, 2, 3, 4);
    lose(five, 0, 1);
    dueStandings(five, "30 are as 30 of none", 5, 0, 1, 2, 3, 4);
    HackHouse last = new HackHouse();
    last.plan(4, 5, 1, 0);
    last.pass(1);
    lose(last, 0, 2);
    dueStandings(last, "all have 30", 0, 1, 2, 3, 4, 5);
    says("for each game in which it drew, that divided rounded down");
    HackHouse rounded = new HackHouse();
    rounded.plan(0, 2, 1, 0);
    rounded.plan(0, 3, 1, 1);
    rounded.plan(1, 4, 1, 2);
    rounded.pass(1);
    rounded.shoot(0, 4, 35, 1, 0, 60);
    rounded.shoot(1, 4, 33, 1, 0, 60);
    rounded.shoot(2, 4, 36, 1, 0, 60);
    due("0 and 3", () -> rounded.ofTeam(0, 2), 3);
    due("1", () -> rounded.ofTeam(1, 2), 1);
    dueStandings(rounded, "3 of two games are as 1", 0, 1, 2, 3, 4, 5);
    HackHouse divided = new HackHouse();
    divided.plan(1, 2, 1, 0);
    divided.plan(1, 3, 1, 1);
    divided.plan(4, 5, 1, 2);
    divided.pass(1);
    divided.shoot(0, 4, 34, 1, 0, 60);
    divided.shoot(1, 4, 34, 1, 0, 60);
    divided.shoot(2, 4, 33, 1, 0, 60);
    dueStandings(divided, "2 and 2 are less than 3", 1, 4, 0, 2, 3, 5);
    says("by more games won; of like ones by less of last stones");
    HackHouse won = drawing();
    straight(won, 4, 35);
    lose(won, 0, 1);
    due("the first stone of the end is the second team's", () -> straight(won, 3, 35), 350);
    dueStandings(won, "before its end the first team has less", 0, 1, 2, 3, 4, 5);
    lose(won, 0, 23);
    dueStandings(won, "the second team has won", 1, 0, 2, 3, 4, 5);
    says("then by its number");
    dueStandings(new HackHouse(), "nothing played", 0, 1, 2, 3, 4, 5);
  }

  private static void dueStandings(HackHouse h, String what, int... teams) {
    for (int i = 0; i < teams.length; i++) {
      int place = i;
      due(what + ", place " + i, () -> h.standing(place), teams[i]);
    }
  }

  private static void ofTeam() {
    says("1 games in which it drew, 2 what it has of last stones");
    HackHouse h = drawing();
    due("no draw", () -> h.ofTeam(0, 1), 0);
    due("none of last stones: 0, though 30 in the standings", () -> h.ofTeam(0, 2), 0);
    lose(h, 0, 1);
    due("the first one's draw", () -> h.ofTeam(0, 1), 1);
    due("30", () -> h.ofTeam(0, 2), 30);
    due("not yet the second one's", () -> h.ofTeam(1, 1), 0);
    lose(h, 0, 1);
    due("the second one's draw", () -> h.ofTeam(1, 1), 1);
    straight(h, 4, 35);
    due("a stone of an end is no draw", () -> h.ofTeam(0, 1), 1);
    due("and adds nothing", () -> h.ofTeam(0, 2), 30);
    due("another team", () -> h.ofTeam(5, 2), 0);
  }

  // ---- the coach

  /** A game of which each shot is thrown, on an object of its own each time, and looked at. */
  private static int advisedByThrowing(Supplier<HackHouse> state) {
    int best = -1;
    int most = 0;
    for (int lane = 0; lane <= 8; lane++) {
      for (int weight = 40; weight <= 80; weight += 10) {
        for (int turn = -1; turn <= 1; turn += 2) {
          int least = thrown(state.get(), lane, weight, turn);
          least = Math.min(least, thrown(state.get(), lane, weight - 5, turn));
          least = Math.min(least, thrown(state.get(), lane, weight + 5, turn));
          if (best == -1 || least > most) {
            most = least;
            best = 1000 * lane + 10 * weight + (turn == 1 ? 1 : 0);
          }
        }
      }
    }
    return best;
  }

  private static int thrown(HackHouse h, int lane, int weight, int turn) {
    int side = h.ofGame(0, 6);
    int ends = h.ofGame(0, 5);
    int points = h.ofGame(0, 3) - h.ofGame(0, 4);
    h.shoot(0, lane, weight, turn, 1, 0);
    boolean scored = h.ofGame(0, 5) > ends;
    int worth = scored ? h.ofGame(0, 3) - h.ofGame(0, 4) - points : h.wouldScore(0);
    return side == 0 ? worth : -worth;
  }

  private static void dueAdvice(String what, Supplier<HackHouse> state) {
    due(what, () -> state.get().advice(0), advisedByThrowing(state));
  }

  /** Game 0 plays behind some straight stones, each of a lane and a weight, two by two. */
  private static Supplier<HackHouse> behind(int... stones) {
    return () -> {
      HackHouse h = playing();
      for (int i = 0; i + 1 < stones.length; i += 2) {
        straight(h, stones[i], stones[i + 1]);
      }
      return h;
    };
  }

  private static void advice() {
    says("advice: Throws IllegalStateException if it does not play");
    refused(BoundaryTests::planned, "PLANNED", h -> h.advice(0), STATE);
    refused(BoundaryTests::drawing, "DRAWS", h -> h.advice(0), STATE);
    refused(BoundaryTests::over, "OVER", h -> h.advice(0), STATE);
    says("a shot is worth the least of its three tries: none is worth more than on an empty sheet");
    dueAdvice("no stone", BoundaryTests::playing);
    says("with all three weights: as told, 5 less and 5 more");
    dueAdvice("as told is the least", behind(2, 45, 0, 45, 7, 58, 4, 35, 8, 36, 2, 34, 2, 40));
    dueAdvice("5 less is the least", behind(5, 37, 4, 50));
    dueAdvice("5 more is the least", behind(1, 48, 0, 37, 3, 30, 4, 55, 0, 100, 8, 100, 0, 34));
    says("lanes 0 to 8, weights 40 to 80 by tens: nothing beside them");
    dueAdvice("30 would be worth more", behind(4, 59, 8, 33, 3, 54, 7, 100, 7, 34));
    dueAdvice("90 would be worth more", behind(1, 59, 0, 50, 2, 100, 6, 33));
    says("by the team that throws, less what would be by the other one");
    dueAdvice("the other one's in the middle", behind(4, 35));
    dueAdvice("one's own in the middle", behind(8, 1, 4, 35));
    dueAdvice("two of the other one", behind(4, 35, 8, 1, 3, 35));
    dueAdvice("two of each", behind(4, 35, 3, 36, 4, 50, 5, 35));
    says("if the end were over behind it: behind the last stone of an end it is");
    dueAdvice("the last stone", behind(4, 35, 3, 36, 5, 33, 2, 35, 6, 34));
    dueAdvice("the last stone, with none there", behind(8, 1, 8, 1, 8, 1, 8, 1, 8, 1));
    int[] lost = new int[46];
    for (int i = 0; i < lost.length; i += 2) {
      lost[i] = 8;
      lost[i + 1] = 1;
    }
    dueAdvice("the last stone of the game", behind(lost));
    says("Before a stone the coach tries: on the ice as it is");
    dueAdvice("worn ice", behind(0, 100, 1, 100, 4, 100, 0, 90, 2, 100, 7, 100, 6, 100, 8, 100, 5, 100));
    says("The coach advises the first one with the most");
    HackHouse alike = behind(0, 100, 8, 100, 0, 100, 8, 100, 4, 100).get();
    due("none is worth more than 0", () -> alike.advice(0), 400);
    says("Returns 1000 times the lane, 10 times the weight, and 1 for the turn 1, together");
    due("lane 0, weight 80, turn 1", () -> behind(4, 35).get().advice(0), 801);
  }

  public static void main(String[] args) {
    constants();
    noSuch();
    orderOfExceptions();
    refusedCallsChangeNothing();
    looksChangeNothing();
    newObject();
    plan();
    crew();
    ranges();
    energy();
    sweeping();
    wearOfTheIce();
    farEnd();
    curl();
    offTheLanes();
    pushing();
    shares();
    pushedStones();
    tooShort();
    house();
    scores();
    draws();
    turns();
    ends();
    fourEnds();
    pass();
    begins();
    crewAtWork();
    crewChooses();
    outOfRange();
    ofGame();
    stone();
    standings();
    ofTeam();
    advice();
    System.out.println(wrong == 0 ? "all answers are as due, for " + held + " sentences" : wrong + " answers are wrong");
    if (wrong != 0) {
      System.exit(1);
    }
  }
}
