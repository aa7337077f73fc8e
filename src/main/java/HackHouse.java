/** A curling club: its sheets, stones, games, crew, standings and coach. */
public final class HackHouse {
    public static final int PLANNED = 0, DRAWS = 1, PLAYS = 2, OVER = 3;

    private static final int NONE = -1;
    private static final int TEAMS = 6;
    private static final int SHEETS = 3;
    private static final int MOST_GAMES = 12;
    private static final int LAST_HOUR = 9999;
    private static final int NO_HOUR = 2 * LAST_HOUR;
    private static final int LONGEST_PASS = 48;
    private static final int LONGEST_WORK = 6;
    private static final int LANES = 9;
    private static final int LAST_Y = 60;
    private static final int CELLS = LAST_Y + 1;
    private static final int MOST_WEAR = 9;
    private static final int MOST_WEIGHT = 100;
    private static final int LEAST_RESTING_Y = 30;
    private static final int HOUSE_LANE = 4;
    private static final int HOUSE_Y = 50;
    private static final int HOUSE_DISTANCE = 10;
    private static final int WORST_DRAW = 30;
    private static final int STONES_OF_TEAM = 3;
    private static final int STONES = 2 * STONES_OF_TEAM;
    private static final int ENDS = 4;

    private final Sheet[] sheets;
    private final Team[] teams;
    private final Game[] games;
    private final Slide slide;
    private int gamesPlanned;
    private int now;
    private int crewHours;
    private int crewSheet;
    private int crewLeft;

    public HackHouse() {
        sheets = new Sheet[SHEETS];
        for (int i = 0; i < sheets.length; i++) {
            sheets[i] = new Sheet();
        }
        teams = new Team[TEAMS];
        for (int i = 0; i < teams.length; i++) {
            teams[i] = new Team();
        }
        games = new Game[MOST_GAMES];
        slide = new Slide();
        crewHours = 2;
        crewSheet = NONE;
    }

    public int plan(int first, int second, int hour, int sheet)
            throws IndexOutOfBoundsException, IllegalArgumentException, IllegalStateException {
        if (!isWithin(first, 0, TEAMS - 1) || !isWithin(second, 0, TEAMS - 1) || !isWithin(sheet, 0, SHEETS - 1)) {
            throw new IndexOutOfBoundsException("no such team or sheet");
        }
        if (first == second || !isWithin(hour, now + 1, LAST_HOUR)) {
            throw new IllegalArgumentException("the same team twice, or hour is out of range");
        }
        int number = gamesPlanned;
        if (number < 0 || number >= games.length) {
            throw new IllegalStateException("there are 12 games");
        }
        games[number] = new Game(first, second, hour, sheet);
        gamesPlanned = number + 1;
        return number;
    }

    public int crew(int hours) throws IllegalArgumentException {
        if (!isWithin(hours, 1, LONGEST_WORK)) {
            throw new IllegalArgumentException("hours is out of range");
        }
        int before = crewHours;
        crewHours = hours;
        return before;
    }

    public int shoot(int game, int lane, int weight, int turn, int from, int to)
            throws IndexOutOfBoundsException, IllegalArgumentException, IllegalStateException {
        Game played = gameOf(game);
        if (!isShot(lane, weight, turn, from, to)) {
            throw new IllegalArgumentException("the shot is out of range");
        }
        if (!played.isOnSheet()) {
            throw new IllegalStateException("nothing is thrown in this game now");
        }
        slide.aim(lane, weight, turn, from, to);
        int place = slide.run(sheetOf(played.sheet), played.stones, played.nextStone(), true);
        if (played.state == DRAWS) {
            settleDraw(played, distanceOf(place));
        } else {
            played.stones.copyFrom(slide.stones);
            settleStone(played);
        }
        return place;
    }

    public int pass(int hours) throws IllegalArgumentException, IllegalStateException {
        if (!isWithin(hours, 1, LONGEST_PASS)) {
            throw new IllegalArgumentException("hours is out of range");
        }
        if (now + hours > LAST_HOUR) {
            throw new IllegalStateException("the hour would be above 9999");
        }
        for (int i = 0; i < hours; i++) {
            now++;
            workAnHour();
            beginGames();
        }
        return now;
    }

    public int hour() {
        return now;
    }

    public int ofSheet(int sheet, int what) throws IndexOutOfBoundsException, IllegalArgumentException {
        Sheet told = sheetOf(sheet);
        switch (what) {
            case 0:
                return told.made ? 1 : 0;
            case 1:
                return told.game;
            case 2:
                return told.allWorn();
            case 3:
                return crewSheet == sheet ? crewLeft : 0;
            default:
                throw new IllegalArgumentException("what is out of range");
        }
    }

    public int wear(int sheet, int lane, int y) throws IndexOutOfBoundsException {
        Sheet told = sheetOf(sheet);
        if (!isCell(lane, y)) {
            throw new IndexOutOfBoundsException("no such cell");
        }
        return told.wornAt(lane, y);
    }

    public int ofGame(int game, int what) throws IndexOutOfBoundsException, IllegalArgumentException {
        Game told = gameOf(game);
        switch (what) {
            case 0:
                return told.state;
            case 1:
                return told.begin;
            case 2:
                return told.sheet;
            case 3:
                return told.firstPoints;
            case 4:
                return told.secondPoints;
            case 5:
                return told.endsOver;
            case 6:
                return told.nextSide();
            case 7:
                return told.lastSide;
            default:
                throw new IllegalArgumentException("what is out of range");
        }
    }

    public int stone(int game, int team, int stone) throws IndexOutOfBoundsException {
        Game told = gameOf(game);
        if (!isWithin(team, 0, 1) || !isWithin(stone, 0, STONES_OF_TEAM - 1)) {
            throw new IndexOutOfBoundsException("no such team of the game, or stone");
        }
        return told.stones.placeOf(team * STONES_OF_TEAM + stone);
    }

    public int wouldScore(int game) throws IndexOutOfBoundsException {
        return gameOf(game).stones.score();
    }

    public int wouldScoreAnew(int game) throws IndexOutOfBoundsException {
        return gameOf(game).stones.scoreOneByOne();
    }

    public int tries(int game, int lane, int weight, int turn, int from, int to)
            throws IndexOutOfBoundsException, IllegalArgumentException, IllegalStateException {
        Game played = gameOf(game);
        if (!isShot(lane, weight, turn, from, to)) {
            throw new IllegalArgumentException("the shot is out of range");
        }
        if (!played.isOnSheet()) {
            throw new IllegalStateException("nothing is thrown in this game now");
        }
        slide.aim(lane, weight, turn, from, to);
        return slide.run(sheetOf(played.sheet), played.stones, played.nextStone(), false);
    }

    public int advice(int game) throws IndexOutOfBoundsException, IllegalStateException {
        Game played = gameOf(game);
        if (played.state != PLAYS) {
            throw new IllegalStateException("the game does not play");
        }
        int best = NONE;
        int most = 0;
        for (int lane = 0; lane < LANES; lane++) {
            for (int weight = 40; weight <= 80; weight += 10) {
                for (int turn = -1; turn <= 1; turn += 2) {
                    int worth = worthOfShot(played, lane, weight, turn);
                    if (best == NONE || worth > most) {
                        best = 1000 * lane + 10 * weight + (turn == 1 ? 1 : 0);
                        most = worth;
                    }
                }
            }
        }
        return best;
    }

    public int standing(int place) throws IndexOutOfBoundsException {
        if (!isWithin(place, 0, TEAMS - 1)) {
            throw new IndexOutOfBoundsException("no such place");
        }
        int found = NONE;
        for (int team = 0; team < TEAMS; team++) {
            if (teamsAheadOf(team) == place) {
                found = team;
            }
        }
        return found;
    }

    public int ofTeam(int team, int what) throws IndexOutOfBoundsException, IllegalArgumentException {
        Team told = teamOf(team);
        switch (what) {
            case 0:
                return told.won;
            case 1:
                return told.drew;
            case 2:
                return told.lastStones;
            default:
                throw new IllegalArgumentException("what is out of range");
        }
    }

    private static boolean isWithin(int value, int least, int most) {
        return value >= least && value <= most;
    }

    private static boolean isCell(int lane, int y) {
        return isWithin(lane, 0, LANES - 1) && isWithin(y, 0, LAST_Y);
    }

    private static boolean isShot(int lane, int weight, int turn, int from, int to) {
        return isWithin(lane, 0, LANES - 1) && isWithin(weight, 1, MOST_WEIGHT) && (turn == -1 || turn == 1)
                && isWithin(from, 0, LAST_Y) && isWithin(to, 0, LAST_Y);
    }

    /** A stone that is not on the sheet counts as the worst draw, which is outside of the house too. */
    private static int distanceOf(int place) {
        if (place < 0) {
            return WORST_DRAW;
        }
        int aside = 2 * Math.abs(place / 100 - HOUSE_LANE);
        int along = Math.abs(place % 100 - HOUSE_Y);
        return Math.min(aside + along, WORST_DRAW);
    }

    private Game gameOf(int number) {
        Game game = number >= 0 && number < games.length ? games[number] : null;
        if (game == null) {
            throw new IndexOutOfBoundsException("no such game");
        }
        return game;
    }

    private Sheet sheetOf(int number) {
        Sheet sheet = number >= 0 && number < sheets.length ? sheets[number] : null;
        if (sheet == null) {
            throw new IndexOutOfBoundsException("no such sheet");
        }
        return sheet;
    }

    private Team teamOf(int number) {
        Team team = number >= 0 && number < teams.length ? teams[number] : null;
        if (team == null) {
            throw new IndexOutOfBoundsException("no such team");
        }
        return team;
    }

    private void settleDraw(Game game, int distance) {
        Team team = teamOf(game.nextSide() == 0 ? game.first : game.second);
        team.drew++;
        team.lastStones += distance;
        game.takeDraw(distance);
    }

    private void settleStone(Game game) {
        game.thrown++;
        if (game.thrown < STONES) {
            return;
        }
        game.closeEnd();
        if (game.endsOver == ENDS) {
            closeGame(game);
        }
    }

    private void closeGame(Game game) {
        game.state = OVER;
        game.lastSide = NONE;
        sheetOf(game.sheet).game = NONE;
        if (game.firstPoints > game.secondPoints) {
            teamOf(game.first).won++;
        } else if (game.secondPoints > game.firstPoints) {
            teamOf(game.second).won++;
        }
    }

    private void workAnHour() {
        if (crewLeft > 0) {
            crewLeft--;
        }
        if (crewLeft > 0) {
            return;
        }
        if (crewSheet != NONE) {
            sheetOf(crewSheet).renew();
        }
        crewSheet = sheetToMake();
        if (crewSheet != NONE) {
            crewLeft = crewHours;
        }
    }

    private int sheetToMake() {
        int chosen = NONE;
        int least = 0;
        for (int i = 0; i < SHEETS; i++) {
            Sheet sheet = sheetOf(i);
            if (sheet.made || sheet.game != NONE) {
                continue;
            }
            int wished = leastHourWished(i);
            if (chosen == NONE || wished < least) {
                chosen = i;
                least = wished;
            }
        }
        return chosen;
    }

    /** A sheet that nobody wishes for comes behind all others, so its hour is above those of all games. */
    private int leastHourWished(int sheet) {
        int least = NO_HOUR;
        for (int i = 0; i < games.length; i++) {
            Game game = games[i];
            if (game != null && game.state == PLANNED && game.wish == sheet) {
                least = Math.min(least, game.begin);
            }
        }
        return least;
    }

    /** A game that can't begin is moved on hour by hour, so all that are due have the same hour: numbers order them. */
    private void beginGames() {
        for (int i = 0; i < games.length; i++) {
            Game game = games[i];
            if (game == null || game.state != PLANNED || game.begin > now) {
                continue;
            }
            int number = sheetToPlay(game.wish);
            if (number == NONE) {
                game.begin++;
                continue;
            }
            Sheet sheet = sheetOf(number);
            sheet.made = false;
            sheet.game = i;
            game.sheet = number;
            game.state = DRAWS;
        }
    }

    private int sheetToPlay(int wish) {
        if (sheetOf(wish).isReady()) {
            return wish;
        }
        for (int i = 0; i < SHEETS; i++) {
            if (sheetOf(i).isReady()) {
                return i;
            }
        }
        return NONE;
    }

    private int worthOfShot(Game game, int lane, int weight, int turn) {
        int least = worthOfTry(game, lane, weight, turn);
        least = Math.min(least, worthOfTry(game, lane, weight - 5, turn));
        return Math.min(least, worthOfTry(game, lane, weight + 5, turn));
    }

    private int worthOfTry(Game game, int lane, int weight, int turn) {
        slide.aim(lane, weight, turn, 1, 0);
        slide.run(sheetOf(game.sheet), game.stones, game.nextStone(), false);
        int score = slide.stones.score();
        return game.nextSide() == 0 ? score : -score;
    }

    private int teamsAheadOf(int team) {
        int ahead = 0;
        for (int other = 0; other < TEAMS; other++) {
            if (other != team && isAhead(other, team)) {
                ahead++;
            }
        }
        return ahead;
    }

    private boolean isAhead(int one, int other) {
        Team a = teamOf(one);
        Team b = teamOf(other);
        if (a.won != b.won) {
            return a.won > b.won;
        }
        if (a.lastStonesPerGame() != b.lastStonesPerGame()) {
            return a.lastStonesPerGame() < b.lastStonesPerGame();
        }
        return one < other;
    }

    private static final class Team {
        int won;
        int drew;
        int lastStones;

        int lastStonesPerGame() {
            return drew > 0 ? lastStones / drew : WORST_DRAW;
        }
    }

    private static final class Sheet {
        final int[] worn = new int[LANES * CELLS];
        boolean made = true;
        int game = NONE;

        boolean isReady() {
            return made && game == NONE;
        }

        int wornAt(int lane, int y) {
            int cell = lane * CELLS + y;
            return cell >= 0 && cell < worn.length ? worn[cell] : 0;
        }

        void wearDown(int lane, int y) {
            int cell = lane * CELLS + y;
            if (cell >= 0 && cell < worn.length && worn[cell] < MOST_WEAR) {
                worn[cell]++;
            }
        }

        int allWorn() {
            int sum = 0;
            for (int i = 0; i < worn.length; i++) {
                sum += worn[i];
            }
            return sum;
        }

        void renew() {
            made = true;
            for (int i = 0; i < worn.length; i++) {
                worn[i] = 0;
            }
        }
    }

    /** The places of an end's stones: 100 times the lane, and y, together; first those of the first team. */
    private static final class Stones {
        final int[] places = new int[STONES];

        Stones() {
            takeAway();
        }

        void takeAway() {
            for (int i = 0; i < places.length; i++) {
                places[i] = NONE;
            }
        }

        void copyFrom(Stones other) {
            for (int i = 0; i < places.length; i++) {
                places[i] = other.placeOf(i);
            }
        }

        int placeOf(int number) {
            return number >= 0 && number < places.length ? places[number] : NONE;
        }

        void put(int number, int place) {
            if (number >= 0 && number < places.length) {
                places[number] = place;
            }
        }

        int lyingAt(int lane, int y) {
            if (y < LEAST_RESTING_Y) {
                return NONE;
            }
            int place = 100 * lane + y;
            for (int i = 0; i < places.length; i++) {
                if (places[i] == place) {
                    return i;
                }
            }
            return NONE;
        }

        int score() {
            int first = nearest(0);
            int second = nearest(STONES_OF_TEAM);
            if (first < second) {
                return countNearer(0, second);
            }
            return second < first ? -countNearer(STONES_OF_TEAM, first) : 0;
        }

        /** A team with none in the house has its nearest just outside, so that all of the other one's inside count. */
        int nearest(int start) {
            int least = HOUSE_DISTANCE + 1;
            for (int i = 0; i < STONES_OF_TEAM; i++) {
                least = Math.min(least, distanceOf(placeOf(start + i)));
            }
            return least;
        }

        int countNearer(int start, int limit) {
            int count = 0;
            for (int i = 0; i < STONES_OF_TEAM; i++) {
                if (distanceOf(placeOf(start + i)) < limit) {
                    count++;
                }
            }
            return count;
        }

        int scoreOneByOne() {
            int score = 0;
            for (int i = 0; i < STONES; i++) {
                boolean ofFirst = i < STONES_OF_TEAM;
                int distance = distanceOf(placeOf(i));
                int rivals = countNearer(ofFirst ? STONES_OF_TEAM : 0, distance + 1);
                if (distance <= HOUSE_DISTANCE && rivals == 0) {
                    score += ofFirst ? 1 : -1;
                }
            }
            return score;
        }
    }

    private static final class Game {
        final int first;
        final int second;
        final int wish;
        final Stones stones = new Stones();
        int begin;
        int state = PLANNED;
        int sheet = NONE;
        int firstDraw;
        int firstPoints;
        int secondPoints;
        int endsOver;
        int thrown;
        int lastSide = NONE;

        Game(int first, int second, int begin, int wish) {
            this.first = first;
            this.second = second;
            this.begin = begin;
            this.wish = wish;
        }

        boolean isOnSheet() {
            return state == DRAWS || state == PLAYS;
        }

        int nextSide() {
            if (state == DRAWS) {
                return thrown;
            }
            if (state == PLAYS) {
                return thrown % 2 == 0 ? 1 - lastSide : lastSide;
            }
            return NONE;
        }

        int nextStone() {
            return nextSide() * STONES_OF_TEAM + thrown / 2;
        }

        void takeDraw(int distance) {
            if (thrown == 0) {
                firstDraw = distance;
                thrown = 1;
                return;
            }
            lastSide = firstDraw < distance ? 0 : 1;
            thrown = 0;
            state = PLAYS;
        }

        void closeEnd() {
            int score = stones.score();
            if (score > 0) {
                firstPoints += score;
                lastSide = 1;
            } else if (score < 0) {
                secondPoints -= score;
                lastSide = 0;
            }
            stones.takeAway();
            thrown = 0;
            endsOver++;
        }
    }

    /** A stone on its way, and those that it pushes, among a copy of an end's stones. */
    private static final class Slide {
        final Stones stones = new Stones();
        boolean wears;
        int lane;
        int y;
        int energy;
        int turn;
        int sweptFrom;
        int sweptTo;
        int steps;
        int hit = NONE;

        void aim(int lane, int weight, int turn, int sweptFrom, int sweptTo) {
            this.lane = lane;
            this.y = 0;
            this.energy = 10 * weight;
            this.turn = turn;
            this.sweptFrom = sweptFrom;
            this.sweptTo = sweptTo;
        }

        /** Returns where the stone that was aimed stays, or NONE. */
        int run(Sheet sheet, Stones before, int number, boolean wears) {
            stones.copyFrom(before);
            this.wears = wears;
            int place = glide(sheet);
            stones.put(number, place);
            for (int i = 0; i < STONES && hit != NONE; i++) {
                int pushed = hit;
                aimPushed(stones.placeOf(pushed));
                stones.put(pushed, glide(sheet));
            }
            return place;
        }

        void aimPushed(int place) {
            lane = place / 100;
            y = place % 100;
            turn = 0;
            sweptFrom = 1;
            sweptTo = 0;
        }

        /** Moves the stone until it stays or leaves; one that it hits is in hit then, with energy for it. */
        int glide(Sheet sheet) {
            hit = NONE;
            steps = 0;
            for (int i = 0; i < LAST_Y; i++) {
                if (!stepsForward(sheet)) {
                    return restingPlace();
                }
                if (y >= LAST_Y) {
                    return NONE;
                }
                if (!mustMoveAside()) {
                    continue;
                }
                if (!isWithin(lane + turn, 0, LANES - 1)) {
                    return NONE;
                }
                if (!movesAside()) {
                    return restingPlace();
                }
            }
            return NONE;
        }

        boolean isSwept(int cell) {
            return cell >= sweptFrom && cell <= sweptTo;
        }

        int restingPlace() {
            return y < LEAST_RESTING_Y ? NONE : 100 * lane + y;
        }

        boolean stepsForward(Sheet sheet) {
            int next = y + 1;
            int cost = 10 + sheet.wornAt(lane, next) - (isSwept(next) ? 3 : 0);
            if (energy < cost) {
                return false;
            }
            hit = stones.lyingAt(lane, next);
            if (hit != NONE) {
                energy = energy * 3 / 4;
                return false;
            }
            y = next;
            energy -= cost;
            if (wears) {
                sheet.wearDown(lane, next);
            }
            return true;
        }

        boolean mustMoveAside() {
            if (turn == 0 || isSwept(y)) {
                return false;
            }
            steps++;
            return steps >= 12 || energy < 300 && steps >= 6;
        }

        boolean movesAside() {
            hit = stones.lyingAt(lane + turn, y);
            if (hit != NONE) {
                energy /= 2;
                return false;
            }
            lane += turn;
            steps = 0;
            return true;
        }
    }
}
