import java.util.ArrayList;
import java.util.Arrays;
import java.util.List;

/** Long runs of calls, each answer and exception compared with that of a second, plain reading of the document. */
public final class ModelTests {
  private static final int RUNS = 300;
  private static final int CALLS = 512;
  /** What lookAtAll calls: with it, too, a run keeps to the calls for which an object is made. */
  private static final int LOOKS = 204;

  private interface Call { int answer(); }

  private static final class Stone {
    final int team;
    int lane;
    int y;
    boolean on = true;
    Stone(int team, int lane, int y) { this.team = team; this.lane = lane; this.y = y; }
    Stone copy() { Stone s = new Stone(team, lane, y); s.on = on; return s; }
    int place() { return on ? 100 * lane + y : -1; }
    int distance() { return on ? 2 * Math.abs(lane - 4) + Math.abs(y - 50) : 1000; }
  }

  private static final class Match {
    final int[] teams;
    final int wish;
    int hour, state, sheet = -1, ends, last = -1;
    final int[] points = new int[2];
    final List<Integer> draws = new ArrayList<>();
    List<Stone> stones = new ArrayList<>();
    Match(int a, int b, int hour, int wish) { teams = new int[] {a, b}; this.hour = hour; this.wish = wish; }
    int next() {
      if (state == 1) return draws.size();
      if (state == 2) return stones.size() % 2 == 0 ? 1 - last : last;
      return -1;
    }
  }

  private static final class Model {
    final int[][][] ice = new int[3][9][61];
    final boolean[] made = {true, true, true};
    final int[] on = {-1, -1, -1};
    final List<Match> matches = new ArrayList<>();
    final int[] won = new int[6], drew = new int[6], sum = new int[6];
    int hour, crewSheet = -1, crewLeft, crewTold = 2;

    Match match(int game) {
      if (game < 0 || game >= matches.size()) throw new IndexOutOfBoundsException();
      return matches.get(game);
    }

    int plan(int a, int b, int at, int sheet) {
      if (a < 0 || a > 5 || b < 0 || b > 5 || sheet < 0 || sheet > 2) throw new IndexOutOfBoundsException();
      if (a == b || at <= hour || at > 9999) throw new IllegalArgumentException();
      if (matches.size() == 12) throw new IllegalStateException();
      matches.add(new Match(a, b, at, sheet));
      return matches.size() - 1;
    }

    int crew(int hours) {
      if (hours < 1 || hours > 6) throw new IllegalArgumentException();
      int was = crewTold;
      crewTold = hours;
      return was;
    }

    static void push(Stone s, int energy, int[][] wear, List<Stone> all) { move(s, energy, 0, -5, -5, wear, all); }

    static Stone at(List<Stone> all, int lane, int y) {
      for (Stone s : all) if (s.on && s.lane == lane && s.y == y) return s;
      return null;
    }

    static void move(Stone s, int energy, int turn, int from, int to, int[][] wear, List<Stone> all) {
      int counted = 0;
      while (true) {
        boolean swept = s.y + 1 >= from && s.y + 1 <= to;
        int cost = 10 + wear[s.lane][s.y + 1] - (swept ? 3 : 0);
        if (energy < cost) break;
        Stone ahead = at(all, s.lane, s.y + 1);
        if (ahead != null) { push(ahead, (int) Math.floor(energy * 0.75), wear, all); break; }
        s.y++;
        energy -= cost;
        wear[s.lane][s.y] = Math.min(9, wear[s.lane][s.y] + 1);
        if (s.y == 60) { s.on = false; return; }
        if (swept || turn == 0) continue;
        counted++;
        int needed = energy < 300 ? 6 : 12;
        if (counted < needed) continue;
        int beside = s.lane + turn;
        if (beside < 0 || beside > 8) { s.on = false; return; }
        Stone other = at(all, beside, s.y);
        if (other != null) { push(other, (int) Math.floor(energy * 0.5), wear, all); break; }
        s.lane = beside;
        counted = 0;
      }
      if (s.y < 30) s.on = false;
    }

    static void check(int lane, int weight, int turn, int from, int to) {
      if (lane < 0 || lane > 8 || weight < 1 || weight > 100 || turn * turn != 1) throw new IllegalArgumentException();
      if (from < 0 || from > 60 || to < 0 || to > 60) throw new IllegalArgumentException();
    }

    int shoot(int game, int lane, int weight, int turn, int from, int to) {
      Match m = match(game);
      check(lane, weight, turn, from, to);
      if (m.state != 1 && m.state != 2) throw new IllegalStateException();
      Stone s = new Stone(m.next(), lane, 0);
      move(s, 10 * weight, turn, from, to, ice[m.sheet], m.stones);
      int place = s.place();
      if (m.state == 1) drawn(m, s); else thrown(m, s);
      return place;
    }

    void drawn(Match m, Stone s) {
      int team = m.teams[m.draws.size()];
      int distance = Math.min(30, s.distance());
      m.draws.add(distance);
      drew[team]++;
      sum[team] += distance;
      if (m.draws.size() == 2) {
        m.state = 2;
        m.last = m.draws.get(0) < m.draws.get(1) ? 0 : 1;
      }
    }

    void thrown(Match m, Stone s) {
      m.stones.add(s);
      if (m.stones.size() < 6) return;
      int score = score(m.stones);
      if (score > 0) { m.points[0] += score; m.last = 1; }
      if (score < 0) { m.points[1] -= score; m.last = 0; }
      m.stones = new ArrayList<>();
      m.ends++;
      if (m.ends < 4) return;
      m.state = 3;
      m.last = -1;
      on[m.sheet] = -1;
      if (m.points[0] != m.points[1]) won[m.teams[m.points[0] > m.points[1] ? 0 : 1]]++;
    }

    static int score(List<Stone> stones) {
      List<Stone> inHouse = new ArrayList<>();
      for (Stone s : stones) if (s.on && s.distance() <= 10) inHouse.add(s);
      inHouse.sort((a, b) -> a.distance() - b.distance());
      if (inHouse.isEmpty()) return 0;
      int scorer = inHouse.get(0).team;
      int rival = 1000;
      for (Stone s : inHouse) if (s.team != scorer) rival = Math.min(rival, s.distance());
      int count = 0;
      for (Stone s : inHouse) if (s.distance() < rival) count++;
      return scorer == 0 ? count : -count;
    }

    int pass(int hours) {
      if (hours < 1 || hours > 48) throw new IllegalArgumentException();
      if (hour + hours > 9999) throw new IllegalStateException();
      for (int i = 0; i < hours; i++) anHour();
      return hour;
    }

    void anHour() {
      hour++;
      if (crewSheet >= 0 && --crewLeft == 0) {
        made[crewSheet] = true;
        for (int[] lane : ice[crewSheet]) Arrays.fill(lane, 0);
        crewSheet = -1;
      }
      if (crewSheet < 0) takeSheet();
      List<Match> due = new ArrayList<>();
      for (Match m : matches) if (m.state == 0 && m.hour <= hour) due.add(m);
      due.sort((a, b) -> a.hour - b.hour);
      for (Match m : due) begin(m);
    }

    void takeSheet() {
      Match soonest = null;
      int lowest = -1;
      for (int s = 2; s >= 0; s--) {
        if (made[s] || on[s] >= 0) continue;
        lowest = s;
        for (Match m : matches)
          if (m.state == 0 && m.wish == s && (soonest == null || m.hour <= soonest.hour)) soonest = m;
      }
      crewSheet = soonest != null ? soonest.wish : lowest;
      crewLeft = crewTold;
    }

    void begin(Match m) {
      for (int s : new int[] {m.wish, 0, 1, 2}) {
        if (!made[s] || on[s] >= 0) continue;
        made[s] = false;
        on[s] = matches.indexOf(m);
        m.sheet = s;
        m.state = 1;
        return;
      }
      m.hour++;
    }

    int ofSheet(int sheet, int what) {
      if (sheet < 0 || sheet > 2) throw new IndexOutOfBoundsException();
      if (what < 0 || what > 3) throw new IllegalArgumentException();
      int all = 0;
      for (int[] lane : ice[sheet]) for (int w : lane) all += w;
      return new int[] {made[sheet] ? 1 : 0, on[sheet], all, crewSheet == sheet ? crewLeft : 0}[what];
    }

    int wear(int sheet, int lane, int y) {
      if (sheet < 0 || sheet > 2 || lane < 0 || lane > 8 || y < 0 || y > 60) throw new IndexOutOfBoundsException();
      return ice[sheet][lane][y];
    }

    int ofGame(int game, int what) {
      Match m = match(game);
      if (what < 0 || what > 7) throw new IllegalArgumentException();
      return new int[] {m.state, m.hour, m.sheet, m.points[0], m.points[1], m.ends, m.next(), m.last}[what];
    }

    int stone(int game, int team, int stone) {
      Match m = match(game);
      if (team < 0 || team > 1 || stone < 0 || stone > 2) throw new IndexOutOfBoundsException();
      for (Stone s : m.stones) if (s.team == team && stone-- == 0) return s.place();
      return -1;
    }

    int wouldScore(int game) { return score(match(game).stones); }

    /** The stones of a game, as they would lie behind a shot; the thrown one is the last. */
    List<Stone> behind(Match m, int lane, int weight, int turn, int from, int to) {
      List<Stone> stones = new ArrayList<>();
      for (Stone s : m.stones) stones.add(s.copy());
      int[][] wear = new int[9][];
      for (int i = 0; i < 9; i++) wear[i] = ice[m.sheet][i].clone();
      Stone s = new Stone(m.next(), lane, 0);
      move(s, 10 * weight, turn, from, to, wear, stones);
      stones.add(s);
      return stones;
    }

    int tries(int game, int lane, int weight, int turn, int from, int to) {
      Match m = match(game);
      check(lane, weight, turn, from, to);
      if (m.state != 1 && m.state != 2) throw new IllegalStateException();
      List<Stone> stones = behind(m, lane, weight, turn, from, to);
      return stones.get(stones.size() - 1).place();
    }

    int advice(int game) {
      Match m = match(game);
      if (m.state != 2) throw new IllegalStateException();
      int best = -1;
      int most = -100;
      for (int shot = 0; shot < 90; shot++) {
        int lane = shot / 10;
        int weight = 40 + shot / 2 % 5 * 10;
        int least = 100;
        for (int miss : new int[] {0, -5, 5}) {
          int score = score(behind(m, lane, weight + miss, shot % 2 * 2 - 1, 60, 0));
          least = Math.min(least, m.next() == 0 ? score : -score);
        }
        if (least > most) { most = least; best = 1000 * lane + 10 * weight + shot % 2; }
      }
      return best;
    }

    int standing(int place) {
      if (place < 0 || place > 5) throw new IndexOutOfBoundsException();
      List<Integer> order = new ArrayList<>(List.of(0, 1, 2, 3, 4, 5));
      order.sort((a, b) -> won[a] != won[b] ? won[b] - won[a] : average(a) - average(b));
      return order.get(place);
    }

    int average(int team) { return drew[team] == 0 ? 30 : sum[team] / drew[team]; }

    int ofTeam(int team, int what) {
      if (team < 0 || team > 5) throw new IndexOutOfBoundsException();
      if (what < 0 || what > 2) throw new IllegalArgumentException();
      return new int[][] {won, drew, sum}[what][team];
    }
  }

  private static int wrong = 0;
  private static long seed = 1;
  private static String lastCall = "";

  /** From least to most. */
  private static int some(int least, int most) {
    seed = seed * 6364136223846793005L + 1442695040888963407L;
    return least + (int) Math.floorMod(seed >>> 33, (long) (most - least + 1));
  }

  /** Mostly from least to most; at times next to it, or far out. */
  private static int mostly(int least, int most) {
    int kind = some(0, 150);
    if (kind == 0) return least - 1;
    if (kind == 1) return most + 1;
    if (kind == 2) return some(0, 1) == 0 ? Integer.MIN_VALUE : Integer.MAX_VALUE;
    return some(least, most);
  }

  private static String outcome(Call call) {
    try {
      return Integer.toString(call.answer());
    } catch (RuntimeException e) {
      return e.getClass().getSimpleName();
    }
  }

  private static void same(String call, Call real, Call model) {
    String got = outcome(real);
    String want = outcome(model);
    lastCall = call;
    if (!got.equals(want) && wrong++ < 20) System.out.println(call + " answered " + got + ", the model " + want);
  }

  private static int someGame(Model m) {
    List<Integer> open = new ArrayList<>();
    for (int i = 0; i < m.matches.size(); i++) if (m.matches.get(i).sheet >= 0 && m.matches.get(i).state < 3) open.add(i);
    if (open.isEmpty() || some(0, 20) == 0) return mostly(0, Math.max(0, m.matches.size() - 1));
    return open.get(some(0, open.size() - 1));
  }

  private static void shot(String name, HackHouse h, Model m, boolean real) {
    int game = someGame(m), lane = mostly(0, 8), turn = some(0, 1) * 2 - 1, weight, from, to;
    if (some(0, 150) == 0) turn = some(-3, 3);
    int style = some(0, 5);
    if (style == 0) { weight = mostly(1, 100); from = mostly(0, 60); to = mostly(0, 60); }
    else if (style == 1) { weight = some(50, 100); from = 1; to = 0; }
    else if (style == 2) { weight = some(28, 60); from = 0; to = some(20, 60); lane = some(2, 6); }
    else if (style == 3) { weight = some(40, 100); from = some(0, 15); to = some(30, 60); }
    else if (style == 4) { weight = some(30, 80); from = some(0, 5); to = 60; lane = some(3, 5); }
    else { weight = some(45, 75); from = some(20, 50); to = some(20, 60); }
    int t = turn, l = lane;
    String call = name + "(" + game + ", " + l + ", " + weight + ", " + t + ", " + from + ", " + to + ")";
    if (real) same(call, () -> h.shoot(game, l, weight, t, from, to), () -> m.shoot(game, l, weight, t, from, to));
    else same(call, () -> h.tries(game, l, weight, t, from, to), () -> m.tries(game, l, weight, t, from, to));
  }

  private static void look(HackHouse h, Model m) {
    int a = mostly(0, 5), what = mostly(0, 7), game = someGame(m), sheet = mostly(0, 2), two = mostly(0, 1);
    int three = mostly(0, 2), lane = mostly(0, 8), y = mostly(0, 60), four = mostly(0, 3);
    switch (some(0, 9)) {
      case 0: same("hour", h::hour, () -> m.hour); break;
      case 1: same("ofSheet " + sheet + " " + four, () -> h.ofSheet(sheet, four), () -> m.ofSheet(sheet, four)); break;
      case 2: same("wear " + sheet + " " + lane + " " + y, () -> h.wear(sheet, lane, y), () -> m.wear(sheet, lane, y)); break;
      case 3: same("ofGame " + game + " " + what, () -> h.ofGame(game, what), () -> m.ofGame(game, what)); break;
      case 4: case 5: same("stone " + game + " " + two + " " + three, () -> h.stone(game, two, three), () -> m.stone(game, two, three)); break;
      case 6: same("wouldScore " + game, () -> h.wouldScore(game), () -> m.wouldScore(game)); break;
      case 7: same("wouldScoreAnew " + game, () -> h.wouldScoreAnew(game), () -> m.wouldScore(game)); break;
      case 8: same("standing " + a, () -> h.standing(a), () -> m.standing(a)); break;
      default: same("ofTeam " + a + " " + three, () -> h.ofTeam(a, three), () -> m.ofTeam(a, three)); break;
    }
  }

  private static void call(HackHouse h, Model m) {
    int kind = some(0, 99);
    if (kind < 4) {
      int a = mostly(0, 5), b = mostly(0, 5), sheet = mostly(0, 2);
      int at = some(0, 40) == 0 ? mostly(9999, 9999) : m.hour + some(0, 7);
      same("plan " + a + " " + b + " " + at + " " + sheet, () -> h.plan(a, b, at, sheet), () -> m.plan(a, b, at, sheet));
    } else if (kind < 5) {
      int hours = mostly(1, 6);
      same("crew " + hours, () -> h.crew(hours), () -> m.crew(hours));
    } else if (kind < 8) {
      int hours = some(0, 9) == 0 ? mostly(1, 48) : some(1, 3);
      same("pass " + hours, () -> h.pass(hours), () -> m.pass(hours));
    } else if (kind < 60) {
      shot("shoot", h, m, true);
    } else if (kind < 65) {
      shot("tries", h, m, false);
    } else if (kind < 66) {
      int game = someGame(m);
      same("advice " + game, () -> h.advice(game), () -> m.advice(game));
    } else {
      look(h, m);
    }
  }

  /** Every answer that an object gives about its state, but for single cells. */
  private static void lookAtAll(HackHouse h, Model m) {
    for (int s = 0; s < 3; s++) {
      int sheet = s;
      for (int i = 0; i < 4; i++) { int what = i; same("ofSheet", () -> h.ofSheet(sheet, what), () -> m.ofSheet(sheet, what)); }
    }
    for (int g = 0; g < 12; g++) {
      int game = g;
      for (int i = 0; i < 8; i++) { int what = i; same("ofGame", () -> h.ofGame(game, what), () -> m.ofGame(game, what)); }
      for (int i = 0; i < 6; i++) { int n = i; same("stone", () -> h.stone(game, n / 3, n % 3), () -> m.stone(game, n / 3, n % 3)); }
    }
    for (int t = 0; t < 6; t++) {
      int team = t;
      same("standing", () -> h.standing(team), () -> m.standing(team));
      for (int i = 0; i < 3; i++) { int what = i; same("ofTeam", () -> h.ofTeam(team, what), () -> m.ofTeam(team, what)); }
    }
  }

  public static void main(String[] args) {
    for (int run = 0; run < RUNS && wrong == 0; run++) {
      HackHouse h = new HackHouse();
      Model m = new Model();
      seed = run + 1;
      for (int i = 0; i < 5; i++) some(0, 1);
      boolean looks = run % 2 == 0;
      int calls = looks ? CALLS - LOOKS : CALLS;
      for (int i = 0; i < calls && wrong == 0; i++) call(h, m);
      if (looks && wrong == 0) lookAtAll(h, m);
      if (wrong != 0) System.out.println("in run " + run + ", at last " + lastCall);
    }
    System.out.println(wrong == 0 ? "all answers are as the model's" : wrong + " answers are not as the model's");
    if (wrong != 0) System.exit(1);
  }
}
