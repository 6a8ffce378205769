/**
 * Raids on a mat: a match of two teams told as a text and carried on by calls, with what can be
 * asked of it and the latest acts taken back. The document (DOC.md) numbers its promises; capital
 * words in comments here are its terms.
 */
public final class RaidMat {
    public static final int NONE = -1;

    private static final int NO_SUCH = -2;
    private static final int FAULTY = -4;
    private static final int REFUSED = -6;
    private static final int NO_LEAD = -1000;

    private static final int ROW_MAX = 2000;
    private static final int NAME_MAX = 6;
    private static final int LETTER_BITS = 5;
    private static final int SEVEN = 7;
    private static final int PLAYERS_MAX = 10;
    private static final int SHIRT_MAX = 99;
    private static final int RAIDS_MAX = 200;
    private static final int OTHERS_MAX = 40;
    private static final int CHANGES_MAX = 5;
    private static final int HALVES_MAX = 2;
    private static final int ACTS_MAX = 10;
    private static final int OWN_RAIDS_MAX = 50;
    private static final int OFF_RAIDS = 6;
    private static final int BONUS_FROM = 6;
    private static final int SUPER_UP_TO = 3;
    private static final int GREAT_FROM = 3;
    private static final int ALL_OUT_POINTS = 2;

    // Each won review takes one RAID away, so that many RAIDS more than can stand may have been told.
    private static final int LINES_MAX = RAIDS_MAX + OTHERS_MAX + OTHERS_MAX;

    private static final int ON = 0;
    private static final int OUT = 1;
    private static final int WAITS = 2;
    private static final int PUT_OFF = 3;
    private static final int SENT_OFF = 4;

    private static final int EMPTY = 0;
    private static final int TOUCH = 1;
    private static final int BONUS = 2;
    private static final int TACKLED = 3;
    private static final int RAIDER_OUT = 4;

    private static final int GREEN = 0;
    private static final int YELLOW = 1;
    private static final int RED = 2;

    private static final int LINE_RAID = 0;
    private static final int LINE_CARD = 1;
    private static final int LINE_CHANGE = 2;
    private static final int LINE_HALF = 3;
    private static final int LINE_REVIEW = 4;

    private static final int OF_RAIDS = 0;
    private static final int OF_POINTS = 1;
    private static final int OF_TOUCHES = 2;
    private static final int OF_TACKLES = 3;
    private static final int OF_TACKLE_POINTS = 4;
    private static final int OF_OUTS = 5;
    private static final int OF_EMPTIES = 6;
    private static final int OF_GREENS = 7;
    private static final int OF_KINDS = 8;

    private static final int PART_TOUCHES = 0;
    private static final int PART_BONUSES = 1;
    private static final int PART_TACKLES = 2;
    private static final int PART_SUPERS = 3;
    private static final int PART_ALL_OUTS = 4;
    private static final int PART_OUTS = 5;
    private static final int PART_KINDS = 6;

    private final Row tape = new Row(ROW_MAX);
    // A LINE that does not fit is written whole first and cut off again: 64 bytes hold the longest.
    private final Row told = new Row(ROW_MAX + 64);
    private final Match match = new Match();
    private final Parser parser = new Parser(tape, match);
    private final Acts acts = new Acts();
    private final Tale former = new Tale();
    private final State trial = new State();
    private final Plan plan = new Plan();
    private int faultNumber = 0;
    private int faultPlace = NONE;

    public RaidMat() {
    }

    // ---- the TAPE and the TEXT ----

    public int feed(int a, int b, int c, int d, int e) {
        if (tape.size() + 20 > ROW_MAX) {
            return NONE;
        }
        tape.putNumber(a);
        tape.putNumber(b);
        tape.putNumber(c);
        tape.putNumber(d);
        tape.putNumber(e);
        return tape.size();
    }

    public int end(int n) {
        if (n < 0 || n > tape.size()) {
            return NONE;
        }
        tape.cut(n);
        return n;
    }

    public int text() {
        former.copyFrom(match.tale);
        faultNumber = parser.readText();
        faultPlace = faultNumber == 0 ? NONE : parser.place();
        tape.cut(0);
        if (faultNumber != 0) {
            match.tale.copyFrom(former);
            match.replay();
            return FAULTY;
        }
        acts.noteText(former);
        return match.tale.length;
    }

    public int fault(int what) {
        if (what == 0) {
            return faultNumber;
        }
        return what == 1 ? faultPlace : NONE;
    }

    public int count(int what) {
        switch (what) {
            case 0:
            case 1:
                return match.tale.roster.sizeOf(what);
            case 2:
                return match.history.size;
            case 3:
                return match.state.others;
            case 4:
                return match.state.halves;
            case 5:
                return acts.size;
            case 6:
                return tape.size();
            case 7:
                return told.size();
            default:
                return NONE;
        }
    }

    public int find() {
        int name = nameOnTape();
        tape.cut(0);
        return match.isTold() && name != NONE ? match.tale.roster.teamNamed(name) : NO_SUCH;
    }

    /** The name that the whole TAPE is, spelt as a Roster holds it; NONE if it is no name. */
    private int nameOnTape() {
        int length = tape.size();
        if (length < 1 || length > NAME_MAX) {
            return NONE;
        }
        int name = 0;
        for (int i = 0; i < length; i++) {
            if (Parser.kindOf(tape.at(i)) != Parser.WORD) {
                return NONE;
            }
            name = name << LETTER_BITS | tape.at(i) - 'a' + 1;
        }
        return name;
    }

    // ---- TEAMS and PLAYERS as they are ----

    private boolean hasTeam(int team) {
        return match.isTold() && (team == 0 || team == 1);
    }

    private boolean hasPlayer(int team, int i) {
        return hasTeam(team) && i >= 0 && i < match.tale.roster.sizeOf(team);
    }

    private static boolean isWithin(int value, int least, int most) {
        return value >= least && value <= most;
    }

    public int letter(int team, int i) {
        if (!hasTeam(team) || !isWithin(i, 0, NAME_MAX - 1)) {
            return NO_SUCH;
        }
        return match.tale.roster.letterAt(team, i);
    }

    public int shirt(int team, int i) {
        return hasPlayer(team, i) ? match.tale.roster.shirtOf(team, i) : NO_SUCH;
    }

    public int who(int team, int shirt) {
        if (!hasTeam(team) || !isWithin(shirt, 1, SHIRT_MAX)) {
            return NO_SUCH;
        }
        return match.tale.roster.playerWith(team, shirt);
    }

    public int is(int team, int i) {
        return hasPlayer(team, i) ? match.state.sides[team].status[i] : NO_SUCH;
    }

    public int those(int team, int what) {
        if (!hasTeam(team) || !isWithin(what, ON, SENT_OFF)) {
            return NO_SUCH;
        }
        return match.state.sides[team].maskOf(what);
    }

    public int shirts(int team, int what, int k) {
        if (!hasTeam(team) || !isWithin(what, ON, SENT_OFF) || k < 0) {
            return NO_SUCH;
        }
        int mask = match.state.sides[team].maskOf(what);
        int left = k;
        for (int shirt = 1; shirt <= SHIRT_MAX; shirt++) {
            int i = match.tale.roster.playerWith(team, shirt);
            if (i != NONE && (mask >> i & 1) == 1) {
                if (left == 0) {
                    return shirt;
                }
                left--;
            }
        }
        return NONE;
    }

    public int outs(int team, int k) {
        if (!hasTeam(team) || k < 0) {
            return NO_SUCH;
        }
        Side side = match.state.sides[team];
        return k < side.outs ? side.queue[k] : NONE;
    }

    public int wait(int team, int i) {
        return hasPlayer(team, i) ? match.state.sides[team].waits[i] : NO_SUCH;
    }

    public int score(int team) {
        return hasTeam(team) ? match.state.sides[team].score : NO_SUCH;
    }

    public int turn() {
        if (!match.isTold()) {
            return NO_SUCH;
        }
        return match.state.isOver() ? NONE : match.state.turn;
    }

    public int empties(int team) {
        return hasTeam(team) ? match.state.sides[team].empties : NO_SUCH;
    }

    public int bonus() {
        if (!match.isTold()) {
            return NO_SUCH;
        }
        if (match.state.isOver()) {
            return NONE;
        }
        return match.state.isBonusOpen() ? 1 : 0;
    }

    // ---- who did what ----

    public int of(int team, int i, int what) {
        if (!hasPlayer(team, i) || !isWithin(what, OF_RAIDS, OF_GREENS)) {
            return NO_SUCH;
        }
        return match.tallyOf(team, i, what);
    }

    public int some(int team, int what) {
        if (!hasTeam(team) || !isWithin(what, OF_RAIDS, OF_GREENS)) {
            return NO_SUCH;
        }
        int mask = 0;
        for (int i = 0; i < match.tale.roster.sizeOf(team); i++) {
            if (match.tallyOf(team, i, what) > 0) {
                mask |= 1 << i;
            }
        }
        return mask;
    }

    public int sum(int team, int what) {
        if (!hasTeam(team) || !isWithin(what, OF_RAIDS, OF_GREENS)) {
            return NO_SUCH;
        }
        int total = 0;
        for (int i = 0; i < match.tale.roster.sizeOf(team); i++) {
            total += match.tallyOf(team, i, what);
        }
        return total;
    }

    public int parts(int team, int what) {
        if (!hasTeam(team) || !isWithin(what, PART_TOUCHES, PART_OUTS)) {
            return NO_SUCH;
        }
        return match.history.partOf(team, what);
    }

    public int best(int what, int k) {
        if (!match.isTold() || !isWithin(what, OF_RAIDS, OF_EMPTIES) || k < 0) {
            return NO_SUCH;
        }
        for (int number = 0; number < 2 * PLAYERS_MAX; number++) {
            if (match.hasNumber(number) && match.aheadOf(number, what) == k) {
                return number;
            }
        }
        return NONE;
    }

    public int rate(int team, int i, int what, int by) {
        if (!hasPlayer(team, i) || !isWithin(what, OF_RAIDS, OF_EMPTIES)) {
            return NO_SUCH;
        }
        int raids = match.tallyOf(team, i, OF_RAIDS);
        long product = (long) match.tallyOf(team, i, what) * by;
        if (raids <= 0 || product != (int) product) {
            return NONE;
        }
        return (int) (product / raids);
    }

    public int share(int team, int i) {
        if (!hasPlayer(team, i)) {
            return NO_SUCH;
        }
        int whole = 0;
        for (int what = PART_TOUCHES; what <= PART_SUPERS; what++) {
            whole += match.history.partOf(team, what);
        }
        if (whole <= 0) {
            return NONE;
        }
        int own = match.tallyOf(team, i, OF_POINTS) + match.tallyOf(team, i, OF_TACKLE_POINTS);
        return own * 100 / whole;
    }

    public int met(int team, int i, int j, int what) {
        if (!hasPlayer(team, i) || !hasPlayer(1 - team, j) || !isWithin(what, 0, 1)) {
            return NO_SUCH;
        }
        return match.history.meetings(team, i, j, what == 0 ? TOUCH : TACKLED);
    }

    public int lasted(int team, int i) {
        return hasPlayer(team, i) ? match.history.raidsOn(team, i) : NO_SUCH;
    }

    public int first(int team, int i, int what) {
        if (!hasPlayer(team, i) || !isWithin(what, 0, 1)) {
            return NO_SUCH;
        }
        return what == 0 ? match.history.firstScored(team, i) : match.history.firstTackle(team, i);
    }

    public int streak(int team, int i) {
        return hasPlayer(team, i) ? match.history.streakOf(team, i) : NO_SUCH;
    }

    public int last(int team, int i) {
        return hasPlayer(team, i) ? match.history.lastRaid(team, i) : NO_SUCH;
    }

    // ---- RAID by RAID ----

    public int raidOf(int k, int what) {
        if (!match.isTold() || k < 0 || !isWithin(what, History.TEAM, History.BACKS)) {
            return NO_SUCH;
        }
        return k < match.history.size ? match.history.cells[what][k] : NONE;
    }

    public int lead(int k) {
        if (!match.isTold() || !isWithin(k, 0, match.history.size)) {
            return NO_LEAD;
        }
        return match.history.leads[k];
    }

    public int changes() {
        return match.isTold() ? match.history.leadChanges() : NO_SUCH;
    }

    public int draws() {
        return match.isTold() ? match.history.drawCount() : NO_SUCH;
    }

    public int behind(int team) {
        return hasTeam(team) ? match.history.mostBehind(team) : NO_SUCH;
    }

    public int run(int team) {
        return hasTeam(team) ? match.history.longestRun(team) : NO_SUCH;
    }

    public int longest(int team) {
        return hasTeam(team) ? match.history.longestOwn(team) : NO_SUCH;
    }

    public int great(int team) {
        return hasTeam(team) ? match.history.greatCount(team) : NO_SUCH;
    }

    public int pressed(int team, int what) {
        if (!hasTeam(team) || !isWithin(what, 0, 1)) {
            return NO_SUCH;
        }
        return match.history.pressedCount(team, what);
    }

    public int gained(int team, int from, int to) {
        if (!hasTeam(team) || from < 0 || to < from || to > match.history.size) {
            return NO_SUCH;
        }
        int total = 0;
        for (int k = from; k < to; k++) {
            total += match.history.pointsOf(team, k);
        }
        return total;
    }

    public int stood(int team, int k) {
        if (!hasTeam(team) || k < 0) {
            return NO_SUCH;
        }
        return k < match.history.size ? Integer.bitCount(match.history.onAt(team, k)) : NONE;
    }

    public int lives(int team) {
        return hasTeam(team) ? match.history.fullCount(team) : NO_SUCH;
    }

    public int allOut(int team, int k) {
        if (!hasTeam(team) || k < 0) {
            return NO_SUCH;
        }
        return match.history.allOutRaid(team, k);
    }

    // ---- what a RAID would bring ----

    public int would(int raider, int result, int set, int with, int what) {
        if (!isWithin(what, 0, 3)) {
            return NO_SUCH;
        }
        int refusal = planRaid(raider, result, set, with);
        if (refusal != 0) {
            return refusal;
        }
        int team = match.state.turn;
        trial.copyFrom(match.state);
        trial.play(plan);
        switch (what) {
            case 0:
                return trial.own;
            case 1:
                return trial.other;
            case 2:
                return trial.sides[team].countOf(ON);
            default:
                return trial.sides[1 - team].countOf(ON);
        }
    }

    public int most() {
        if (!match.isTold()) {
            return NO_SUCH;
        }
        int raider = match.state.leastOn();
        if (match.state.isOver() || !match.hasRoomForRaid() || raider == NONE) {
            return NONE;
        }
        trial.copyFrom(match.state);
        planAllTouched(trial, raider);
        trial.play(plan);
        return trial.own;
    }

    public int needs(int team) {
        if (!hasTeam(team)) {
            return NO_SUCH;
        }
        trial.copyFrom(match.state);
        int made = 0;
        for (int step = 0; step <= 2 * OWN_RAIDS_MAX + 2; step++) {
            if (trial.leadOf(team) > 0) {
                return made;
            }
            int raider = trial.leastOn();
            if (trial.isOver() || raider == NONE) {
                return NONE;
            }
            if (trial.turn != team) {
                plan.begin(raider, EMPTY);
            } else if (made == OWN_RAIDS_MAX) {
                return NONE;
            } else {
                made++;
                planAllTouched(trial, raider);
            }
            trial.play(plan);
        }
        return NONE;
    }

    private void planAllTouched(State state, int raider) {
        int mask = state.away().maskOf(ON);
        plan.begin(raider, mask == 0 ? EMPTY : TOUCH);
        plan.touchAll(mask);
        plan.bonus = mask != 0 && state.isBonusOpen() ? 1 : 0;
    }

    // ---- ACTS ----

    public int raid(int raider, int result, int set, int with) {
        int refusal = planRaid(raider, result, set, with);
        if (refusal != 0) {
            return refusal;
        }
        act(plan.pack());
        return match.state.own;
    }

    /** Lays out the plan: 0, or the refusal that is due. */
    private int planRaid(int raider, int result, int set, int with) {
        if (!match.isTold()) {
            return NO_SUCH;
        }
        State state = match.state;
        if (!hasPlayer(state.turn, raider) || !isWithin(result, EMPTY, RAIDER_OUT)) {
            return NO_SUCH;
        }
        int withMost = result == TOUCH || result == TACKLED ? 1 : 0;
        if (!isSetAsTold(result, set) || !isWithin(with, 0, withMost)) {
            return NO_SUCH;
        }
        if (!match.hasRoomForRaid() || !state.canSend(raider)) {
            return REFUSED;
        }
        if ((result == BONUS || with == 1) && !state.isBonusOpen()) {
            return REFUSED;
        }
        int on = state.away().maskOf(ON);
        plan.begin(raider, result);
        plan.bonus = with;
        if (result == TOUCH) {
            plan.touchAll(set);
            return (set & ~on) == 0 ? 0 : REFUSED;
        }
        plan.tackler = set;
        return result == TACKLED && (on >> set & 1) == 0 ? REFUSED : 0;
    }

    private boolean isSetAsTold(int result, int set) {
        int others = match.tale.roster.sizeOf(1 - match.state.turn);
        if (result == TOUCH) {
            return isWithin(set, 1, (1 << others) - 1);
        }
        return result == TACKLED ? isWithin(set, 0, others - 1) : set == 0;
    }

    private void act(long line) {
        acts.noteLine();
        match.tale.addLine(line);
        match.apply(line);
    }

    public int card(int team, int i, int colour) {
        if (!hasPlayer(team, i) || !isWithin(colour, GREEN, RED)) {
            return NO_SUCH;
        }
        if (!match.hasRoomForOther() || !match.state.canShow(team, i, colour)) {
            return REFUSED;
        }
        act(Plan.packOther(LINE_CARD, team, i, colour));
        return match.state.sides[team].status[i];
    }

    public int change(int team, int from, int to) {
        if (!hasPlayer(team, from) || !hasPlayer(team, to)) {
            return NO_SUCH;
        }
        State state = match.state;
        if (!match.hasRoomForOther() || !state.canLeave(team, from) || !state.canEnter(team, to)) {
            return REFUSED;
        }
        act(Plan.packOther(LINE_CHANGE, team, from, to));
        return match.state.sides[team].changes;
    }

    public int half() {
        if (!match.isTold()) {
            return NO_SUCH;
        }
        if (!match.hasRoomForOther() || match.state.isOver()) {
            return REFUSED;
        }
        act(Plan.packOther(LINE_HALF, 0, 0, 0));
        return match.state.halves;
    }

    public int review(int team, int won) {
        if (!hasTeam(team) || !isWithin(won, 0, 1)) {
            return NO_SUCH;
        }
        if (!match.hasRoomForOther() || !match.state.canAsk(team)) {
            return REFUSED;
        }
        act(Plan.packOther(LINE_REVIEW, team, won, 0));
        return match.history.size;
    }

    public int may(int team) {
        if (!hasTeam(team)) {
            return NO_SUCH;
        }
        return match.hasRoomForOther() && match.state.canAsk(team) ? 1 : 0;
    }

    public int undo() {
        if (acts.size == 0) {
            return NONE;
        }
        if (acts.takeBack()) {
            match.tale.copyFrom(acts.former());
        } else {
            match.tale.dropLine();
        }
        match.replay();
        return acts.size;
    }

    // ---- TOLD ----

    public int tell(int what) {
        if (!match.isTold() || !isWithin(what, 0, 2)) {
            return NO_SUCH;
        }
        told.cut(0);
        int raids = 0;
        for (int k = 0; k < match.history.size; k++) {
            if (what != 0 && match.history.cells[History.TEAM][k] != what - 1) {
                continue;
            }
            int whole = told.size();
            match.writeRaid(k, told);
            if (told.size() > ROW_MAX) {
                told.cut(whole);
                return raids;
            }
            raids++;
        }
        return raids;
    }

    public int octet(int i) {
        return told.at(i);
    }

    // ---- the classes inside ----

    /** Bytes one behind the other, within a room that is set once. */
    private static final class Row {
        private final byte[] bytes;
        private int length = 0;

        Row(int room) {
            bytes = new byte[room < 0 ? 0 : room];
        }

        int size() {
            return length;
        }

        int at(int i) {
            return i >= 0 && i < length ? bytes[i] & 255 : NONE;
        }

        void cut(int n) {
            if (n >= 0 && n < length) {
                length = n;
            }
        }

        void put(int value) {
            if (length < bytes.length) {
                bytes[length] = (byte) value;
                length++;
            }
        }

        void putNumber(int number) {
            put(number >>> 24);
            put(number >>> 16);
            put(number >>> 8);
            put(number);
        }

        void putWords(String words) {
            for (int i = 0; i < words.length(); i++) {
                put(words.charAt(i));
            }
        }

        void putShirt(int shirt) {
            if (shirt >= 10) {
                put('0' + shirt / 10);
            }
            put('0' + shirt % 10);
        }
    }

    /** Names and SHIRTS of both TEAMS. */
    private static final class Roster {
        // Five bits a letter (1 .. 26), the last letter lowest.
        private final int[] names = new int[2];
        private final int[] shirts = new int[2 * PLAYERS_MAX];
        private final int[] sizes = new int[2];

        void clear() {
            for (int team = 0; team < 2; team++) {
                names[team] = 0;
                sizes[team] = 0;
            }
        }

        void copyFrom(Roster roster) {
            System.arraycopy(roster.names, 0, names, 0, names.length);
            System.arraycopy(roster.shirts, 0, shirts, 0, shirts.length);
            System.arraycopy(roster.sizes, 0, sizes, 0, sizes.length);
        }

        int sizeOf(int team) {
            return team == 0 || team == 1 ? sizes[team] : 0;
        }

        int letterAt(int team, int i) {
            int length = 0;
            while (length < NAME_MAX && names[team] >> LETTER_BITS * length != 0) {
                length++;
            }
            return i < length ? names[team] >> LETTER_BITS * (length - 1 - i) & 31 : 0;
        }

        int shirtOf(int team, int i) {
            return shirts[team * PLAYERS_MAX + i];
        }

        int playerWith(int team, int shirt) {
            for (int i = 0; i < sizes[team]; i++) {
                if (shirts[team * PLAYERS_MAX + i] == shirt) {
                    return i;
                }
            }
            return NONE;
        }

        void addPlayer(int team, int shirt) {
            if (sizes[team] < PLAYERS_MAX) {
                shirts[team * PLAYERS_MAX + sizes[team]] = shirt;
                sizes[team]++;
            }
        }

        int teamNamed(int name) {
            for (int team = 0; team < 2; team++) {
                if (names[team] == name) {
                    return team;
                }
            }
            return NONE;
        }
    }

    /** All that was told of a match: the rest of it can be had from this by playing it again. */
    private static final class Tale {
        final Roster roster = new Roster();
        private final long[] lines = new long[LINES_MAX];
        int length = 0;

        void clear() {
            roster.clear();
            length = 0;
        }

        void copyFrom(Tale tale) {
            roster.copyFrom(tale.roster);
            length = tale.length;
            System.arraycopy(tale.lines, 0, lines, 0, lines.length);
        }

        long lineAt(int i) {
            return i >= 0 && i < length ? lines[i] : 0;
        }

        void addLine(long line) {
            if (length < lines.length) {
                lines[length] = line;
                length++;
            }
        }

        void dropLine() {
            if (length > 0) {
                length--;
            }
        }
    }

    /** A RAID before it is made; any LINE is packed in a long, four bits a part, its kind lowest. */
    private static final class Plan {
        private static final int FIRST_TOUCHED = 6;

        int raider = 0;
        int result = EMPTY;
        int tackler = 0;
        int bonus = 0;
        int count = 0;
        final int[] touched = new int[SEVEN];

        void begin(int by, int with) {
            raider = by;
            result = with;
            tackler = 0;
            bonus = 0;
            count = 0;
        }

        void addTouched(int i) {
            if (count < touched.length) {
                touched[count] = i;
                count++;
            }
        }

        void touchAll(int mask) {
            for (int i = 0; i < PLAYERS_MAX; i++) {
                if ((mask >> i & 1) == 1) {
                    addTouched(i);
                }
            }
        }

        int touchedMask() {
            int mask = 0;
            for (int i = 0; i < count && i < touched.length; i++) {
                mask |= 1 << touched[i];
            }
            return mask;
        }

        long pack() {
            long line = packOther(LINE_RAID, raider, result, tackler);
            line |= (long) bonus << 16 | (long) count << 20;
            for (int i = 0; i < count && i < touched.length; i++) {
                line |= (long) touched[i] << 4 * (FIRST_TOUCHED + i);
            }
            return line;
        }

        void unpack(long line) {
            begin(part(line, 1), part(line, 2));
            tackler = part(line, 3);
            bonus = part(line, 4);
            int many = part(line, 5);
            for (int i = 0; i < many; i++) {
                addTouched(part(line, FIRST_TOUCHED + i));
            }
        }

        static long packOther(int kind, int a, int b, int c) {
            return kind | a << 4 | b << 8 | c << 12;
        }

        static int part(long line, int at) {
            return (int) (line >>> 4 * at) & 15;
        }
    }

    /** What one TEAM is like now. */
    private static final class Side {
        final int[] status = new int[PLAYERS_MAX];
        final int[] waits = new int[PLAYERS_MAX];
        final int[] greens = new int[PLAYERS_MAX];
        final int[] queue = new int[PLAYERS_MAX];
        int size = 0;
        int outs = 0;
        int score = 0;
        int empties = 0;
        int changes = 0;
        boolean askedInVain = false;

        void begin(int players) {
            size = players;
            outs = 0;
            score = 0;
            empties = 0;
            changes = 0;
            askedInVain = false;
            for (int i = 0; i < PLAYERS_MAX; i++) {
                status[i] = i < SEVEN ? ON : WAITS;
                waits[i] = 0;
                greens[i] = 0;
            }
        }

        void copyFrom(Side side) {
            System.arraycopy(side.status, 0, status, 0, PLAYERS_MAX);
            System.arraycopy(side.waits, 0, waits, 0, PLAYERS_MAX);
            System.arraycopy(side.greens, 0, greens, 0, PLAYERS_MAX);
            System.arraycopy(side.queue, 0, queue, 0, PLAYERS_MAX);
            size = side.size;
            outs = side.outs;
            score = side.score;
            empties = side.empties;
            changes = side.changes;
            askedInVain = side.askedInVain;
        }

        int maskOf(int what) {
            int mask = 0;
            for (int i = 0; i < size && i < PLAYERS_MAX; i++) {
                if (status[i] == what) {
                    mask |= 1 << i;
                }
            }
            return mask;
        }

        int countOf(int what) {
            int many = 0;
            for (int i = 0; i < size && i < PLAYERS_MAX; i++) {
                many += status[i] == what ? 1 : 0;
            }
            return many;
        }

        void goOut(int i) {
            status[i] = OUT;
            if (outs < queue.length) {
                queue[outs] = i;
                outs++;
            }
        }

        /** A BACK: how many came. */
        int comeBack() {
            if (outs == 0) {
                return 0;
            }
            int i = queue[0];
            leaveQueue(i);
            status[i] = ON;
            return 1;
        }

        private void leaveQueue(int i) {
            int kept = 0;
            for (int k = 0; k < outs && k < queue.length; k++) {
                if (queue[k] != i) {
                    queue[kept] = queue[k];
                    kept++;
                }
            }
            outs = kept;
        }

        void putOff(int i) {
            leaveQueue(i);
            status[i] = PUT_OFF;
            waits[i] = OFF_RAIDS;
        }

        void sendOff(int i) {
            leaveQueue(i);
            status[i] = SENT_OFF;
            waits[i] = 0;
        }

        void passRaid() {
            for (int i = 0; i < PLAYERS_MAX; i++) {
                if (status[i] == PUT_OFF) {
                    waits[i]--;
                    if (waits[i] <= 0) {
                        waits[i] = 0;
                        status[i] = ON;
                    }
                }
            }
        }

        /** Whether it was ALL OUT; then its OUT ones are ON. */
        boolean standUp() {
            if (outs == 0 || maskOf(ON) != 0) {
                return false;
            }
            for (int i = 0; i < PLAYERS_MAX; i++) {
                if (status[i] == OUT) {
                    status[i] = ON;
                }
            }
            outs = 0;
            return true;
        }
    }

    /** What the match is like now, and what the latest RAID brought. */
    private static final class State {
        final Side[] sides = {new Side(), new Side()};
        int turn = 0;
        int halves = 0;
        int others = 0;
        boolean isRaidLatest = false;
        int own = 0;
        int other = 0;
        int backs = 0;
        int allOuts = 0;

        void begin(Roster roster) {
            sides[0].begin(roster.sizeOf(0));
            sides[1].begin(roster.sizeOf(1));
            turn = 0;
            halves = 0;
            others = 0;
            isRaidLatest = false;
        }

        void copyFrom(State state) {
            sides[0].copyFrom(state.sides[0]);
            sides[1].copyFrom(state.sides[1]);
            turn = state.turn;
            halves = state.halves;
            others = state.others;
            isRaidLatest = state.isRaidLatest;
        }

        Side home() {
            return sides[turn];
        }

        Side away() {
            return sides[1 - turn];
        }

        boolean isOver() {
            return halves >= HALVES_MAX;
        }

        boolean isBonusOpen() {
            return away().countOf(ON) >= BONUS_FROM;
        }

        boolean mustScore() {
            return home().empties == 2;
        }

        int leadOf(int team) {
            return sides[team].score - sides[1 - team].score;
        }

        /** The one of least number of the TEAM whose TURN it is who is ON. */
        int leastOn() {
            int mask = home().maskOf(ON);
            return mask == 0 ? NONE : Integer.numberOfTrailingZeros(mask);
        }

        boolean canSend(int raider) {
            return !isOver() && home().status[raider] == ON;
        }

        boolean canShow(int team, int i, int colour) {
            int status = sides[team].status[i];
            boolean isInReach = status == ON || status == OUT || status == PUT_OFF && colour == RED;
            return !isOver() && isInReach;
        }

        boolean canLeave(int team, int from) {
            Side side = sides[team];
            return !isOver() && side.changes < CHANGES_MAX && side.status[from] == ON;
        }

        boolean canEnter(int team, int to) {
            return sides[team].status[to] == WAITS;
        }

        boolean canAsk(int team) {
            return !isOver() && isRaidLatest && !sides[team].askedInVain;
        }

        /** Whether the RAIDER goes OUT by the RAID. */
        boolean isRaiderLost(Plan plan) {
            boolean isCaught = plan.result == EMPTY && mustScore();
            return isCaught || plan.result == TACKLED || plan.result == RAIDER_OUT;
        }

        boolean isSuper(Plan plan) {
            return plan.result == TACKLED && away().countOf(ON) <= SUPER_UP_TO;
        }

        void play(Plan plan) {
            Side mine = home();
            Side theirs = away();
            boolean isLost = isRaiderLost(plan);
            own = plan.bonus + (plan.result == BONUS ? 1 : 0);
            other = 0;
            backs = 0;
            if (plan.result == TOUCH) {
                touchOut(plan);
            }
            if (isLost) {
                other = isSuper(plan) ? 2 : 1;
                mine.goOut(plan.raider);
                backs = theirs.comeBack();
            }
            mine.empties = plan.result == EMPTY && !isLost ? mine.empties + 1 : 0;
            mine.passRaid();
            theirs.passRaid();
            settleAllOuts();
            mine.score += own;
            theirs.score += other;
            turn = 1 - turn;
            isRaidLatest = true;
        }

        private void touchOut(Plan plan) {
            for (int i = 0; i < plan.count && i < plan.touched.length; i++) {
                away().goOut(plan.touched[i]);
            }
            own += plan.count;
            for (int i = 0; i < plan.count; i++) {
                backs += home().comeBack();
            }
        }

        private void settleAllOuts() {
            allOuts = 0;
            if (away().standUp()) {
                own += ALL_OUT_POINTS;
                allOuts |= 1 << 1 - turn;
            }
            if (home().standUp()) {
                other += ALL_OUT_POINTS;
                allOuts |= 1 << turn;
            }
        }

        /** Whether the card left its TEAM ALL OUT. */
        boolean showCard(int team, int i, int colour) {
            Side side = sides[team];
            noteOther();
            if (colour == GREEN) {
                side.greens[i]++;
            }
            if (colour == RED) {
                side.sendOff(i);
            } else if (colour == YELLOW || side.greens[i] % 2 == 0) {
                side.putOff(i);
            }
            if (!side.standUp()) {
                return false;
            }
            sides[1 - team].score += ALL_OUT_POINTS;
            return true;
        }

        void exchange(int team, int from, int to) {
            Side side = sides[team];
            noteOther();
            side.status[from] = WAITS;
            side.status[to] = ON;
            side.changes++;
        }

        void endHalf() {
            noteOther();
            halves++;
            turn = 1;
            for (int team = 0; team < 2; team++) {
                sides[team].empties = 0;
                sides[team].askedInVain = false;
            }
        }

        void noteOther() {
            others++;
            isRaidLatest = false;
        }
    }

    /** The RAIDS that stand, a column for each thing told of them, and what they add up to. */
    private static final class History {
        static final int TEAM = 0;
        static final int RAIDER = 1;
        static final int RESULT = 2;
        static final int OWN = 3;
        static final int OTHER = 4;
        static final int SET = 5;
        static final int WITH = 6;
        static final int MUST = 7;
        static final int BACKS = 8;
        // Columns behind those that raidOf() tells; the ON ones of TEAM 1 stand behind those of TEAM 0.
        static final int ON_ONES = 9;
        static final int ALL_OUTS = 11;
        static final int TOUCHES = 12;
        static final int RAIDER_POINTS = 13;
        static final int RAIDER_OUTS = 14;
        static final int SUPERS = 15;
        static final int COLUMNS = 16;

        final int[][] cells = new int[COLUMNS][RAIDS_MAX];
        final long[] plans = new long[RAIDS_MAX];
        final int[] leads = new int[RAIDS_MAX + 1];
        private final int[] tallies = new int[2 * PLAYERS_MAX * OF_KINDS];
        private final int[] parts = new int[2 * PART_KINDS];
        int size = 0;

        void clear() {
            size = 0;
            leads[0] = 0;
            for (int i = 0; i < tallies.length; i++) {
                tallies[i] = 0;
            }
            for (int i = 0; i < parts.length; i++) {
                parts[i] = 0;
            }
        }

        void write(State before, Plan plan, State after) {
            int k = size;
            if (k >= RAIDS_MAX) {
                return;
            }
            cells[TEAM][k] = before.turn;
            cells[RAIDER][k] = plan.raider;
            cells[RESULT][k] = plan.result;
            cells[OWN][k] = after.own;
            cells[OTHER][k] = after.other;
            cells[SET][k] = setOf(plan);
            cells[WITH][k] = plan.bonus;
            cells[MUST][k] = before.mustScore() ? 1 : 0;
            cells[BACKS][k] = after.backs;
            cells[ON_ONES][k] = before.sides[0].maskOf(ON);
            cells[ON_ONES + 1][k] = before.sides[1].maskOf(ON);
            cells[ALL_OUTS][k] = after.allOuts;
            cells[TOUCHES][k] = plan.count;
            cells[RAIDER_POINTS][k] = plan.count + plan.bonus + (plan.result == BONUS ? 1 : 0);
            cells[RAIDER_OUTS][k] = before.isRaiderLost(plan) ? 1 : 0;
            cells[SUPERS][k] = before.isSuper(plan) ? 1 : 0;
            plans[k] = plan.pack();
            size++;
            setLead(after);
            book(k, 1);
        }

        private static int setOf(Plan plan) {
            if (plan.result == TOUCH) {
                return plan.touchedMask();
            }
            return plan.result == TACKLED ? plan.tackler : NONE;
        }

        void dropLatest() {
            if (size > 0) {
                size--;
                book(size, -1);
            }
        }

        /** A card's points, too, belong to the RAID ahead of it, so this is set anew behind a card. */
        void setLead(State state) {
            leads[size] = state.leadOf(0);
        }

        void noteCardAllOut(int team) {
            addPart(1 - team, PART_ALL_OUTS, ALL_OUT_POINTS);
        }

        /** Adds the k-th RAID to the tallies (sign 1), or takes it out of them (sign -1). */
        private void book(int k, int sign) {
            int team = cells[TEAM][k];
            int raider = cells[RAIDER][k];
            int touches = cells[TOUCHES][k];
            int points = cells[RAIDER_POINTS][k];
            addTally(team, raider, OF_RAIDS, sign);
            addTally(team, raider, OF_POINTS, sign * points);
            addTally(team, raider, OF_TOUCHES, sign * touches);
            addTally(team, raider, OF_OUTS, sign * cells[RAIDER_OUTS][k]);
            addTally(team, raider, OF_EMPTIES, cells[RESULT][k] == EMPTY ? sign : 0);
            addPart(team, PART_TOUCHES, sign * touches);
            addPart(team, PART_BONUSES, sign * (points - touches));
            bookOthers(k, sign);
            for (int side = 0; side < 2; side++) {
                int allOut = cells[ALL_OUTS][k] >> side & 1;
                addPart(1 - side, PART_ALL_OUTS, sign * ALL_OUT_POINTS * allOut);
            }
        }

        private void bookOthers(int k, int sign) {
            int team = 1 - cells[TEAM][k];
            int set = cells[SET][k];
            if (cells[RESULT][k] == TACKLED) {
                int supers = cells[SUPERS][k];
                addTally(team, set, OF_TACKLES, sign);
                addTally(team, set, OF_TACKLE_POINTS, sign * (1 + supers));
                addPart(team, PART_TACKLES, sign);
                addPart(team, PART_SUPERS, sign * supers);
            } else {
                addPart(team, PART_OUTS, sign * cells[RAIDER_OUTS][k]);
            }
            for (int i = 0; i < PLAYERS_MAX && cells[RESULT][k] == TOUCH; i++) {
                addTally(team, i, OF_OUTS, sign * (set >> i & 1));
            }
        }

        private void addTally(int team, int i, int what, int amount) {
            int at = (team * PLAYERS_MAX + i) * OF_KINDS + what;
            if (at >= 0 && at < tallies.length) {
                tallies[at] += amount;
            }
        }

        private void addPart(int team, int what, int amount) {
            int at = team * PART_KINDS + what;
            if (at >= 0 && at < parts.length) {
                parts[at] += amount;
            }
        }

        int tallyAt(int team, int i, int what) {
            int at = (team * PLAYERS_MAX + i) * OF_KINDS + what;
            return at >= 0 && at < tallies.length ? tallies[at] : 0;
        }

        int partOf(int team, int what) {
            int at = team * PART_KINDS + what;
            return at >= 0 && at < parts.length ? parts[at] : 0;
        }

        int onAt(int team, int k) {
            return cells[ON_ONES + team][k];
        }

        int pointsOf(int team, int k) {
            return cells[TEAM][k] == team ? cells[OWN][k] : cells[OTHER][k];
        }

        private boolean isRaider(int team, int i, int k) {
            return cells[TEAM][k] == team && cells[RAIDER][k] == i;
        }

        int leadChanges() {
            int changes = 0;
            int leader = 0;
            for (int k = 1; k <= size; k++) {
                int sign = Integer.signum(leads[k]);
                if (sign == -leader && sign != 0) {
                    changes++;
                }
                leader = sign == 0 ? leader : sign;
            }
            return changes;
        }

        int drawCount() {
            int draws = 0;
            for (int k = 1; k <= size; k++) {
                draws += leads[k] == 0 ? 1 : 0;
            }
            return draws;
        }

        int mostBehind(int team) {
            int most = 0;
            for (int k = 1; k <= size; k++) {
                most = Math.max(most, team == 0 ? -leads[k] : leads[k]);
            }
            return most;
        }

        int longestRun(int team) {
            int longest = 0;
            int now = 0;
            for (int k = 0; k < size; k++) {
                now = pointsOf(team, k) > 0 && pointsOf(1 - team, k) == 0 ? now + 1 : 0;
                longest = Math.max(longest, now);
            }
            return longest;
        }

        int longestOwn(int team) {
            int longest = 0;
            int now = 0;
            for (int k = 0; k < size; k++) {
                if (cells[TEAM][k] == team) {
                    now = cells[OWN][k] > 0 ? now + 1 : 0;
                    longest = Math.max(longest, now);
                }
            }
            return longest;
        }

        int greatCount(int team) {
            int many = 0;
            for (int k = 0; k < size; k++) {
                many += cells[TEAM][k] == team && cells[RAIDER_POINTS][k] >= GREAT_FROM ? 1 : 0;
            }
            return many;
        }

        /** RAIDS that MUST SCORE and brought so many points (least) or more. */
        int pressedCount(int team, int least) {
            int many = 0;
            for (int k = 0; k < size; k++) {
                boolean isPressed = cells[TEAM][k] == team && cells[MUST][k] == 1;
                many += isPressed && cells[OWN][k] >= least ? 1 : 0;
            }
            return many;
        }

        int meetings(int team, int i, int j, int result) {
            int many = 0;
            for (int k = 0; k < size; k++) {
                if (isRaider(team, i, k) && cells[RESULT][k] == result) {
                    int set = cells[SET][k];
                    many += result == TOUCH ? set >> j & 1 : set == j ? 1 : 0;
                }
            }
            return many;
        }

        int raidsOn(int team, int i) {
            int many = 0;
            for (int k = 0; k < size; k++) {
                many += onAt(team, k) >> i & 1;
            }
            return many;
        }

        int fullCount(int team) {
            int many = 0;
            for (int k = 0; k < size; k++) {
                many += Integer.bitCount(onAt(team, k)) == SEVEN ? 1 : 0;
            }
            return many;
        }

        int firstScored(int team, int i) {
            for (int k = 0; k < size; k++) {
                if (isRaider(team, i, k) && cells[RAIDER_POINTS][k] > 0) {
                    return k;
                }
            }
            return NONE;
        }

        int firstTackle(int team, int i) {
            for (int k = 0; k < size; k++) {
                boolean isTackle = cells[TEAM][k] != team && cells[RESULT][k] == TACKLED;
                if (isTackle && cells[SET][k] == i) {
                    return k;
                }
            }
            return NONE;
        }

        int streakOf(int team, int i) {
            int longest = 0;
            int now = 0;
            for (int k = 0; k < size; k++) {
                if (isRaider(team, i, k)) {
                    now = cells[RAIDER_POINTS][k] > 0 ? now + 1 : 0;
                    longest = Math.max(longest, now);
                }
            }
            return longest;
        }

        int lastRaid(int team, int i) {
            for (int k = size - 1; k >= 0; k--) {
                if (isRaider(team, i, k)) {
                    return k;
                }
            }
            return NONE;
        }

        int allOutRaid(int team, int nth) {
            int left = nth;
            for (int k = 0; k < size; k++) {
                if ((cells[ALL_OUTS][k] >> team & 1) == 1) {
                    if (left == 0) {
                        return k;
                    }
                    left--;
                }
            }
            return NONE;
        }
    }

    /** A tale and what has come of it. */
    private static final class Match {
        final Tale tale = new Tale();
        final State state = new State();
        final History history = new History();
        // What a won review of the latest RAID puts back.
        private final State ahead = new State();
        private final Plan plan = new Plan();

        boolean isTold() {
            return tale.roster.sizeOf(1) > 0;
        }

        void begin() {
            state.begin(tale.roster);
            history.clear();
        }

        void replay() {
            begin();
            for (int i = 0; i < tale.length; i++) {
                apply(tale.lineAt(i));
            }
        }

        boolean hasRoomForRaid() {
            return history.size < RAIDS_MAX;
        }

        boolean hasRoomForOther() {
            return state.others < OTHERS_MAX;
        }

        void apply(long line) {
            int a = Plan.part(line, 1);
            int b = Plan.part(line, 2);
            int c = Plan.part(line, 3);
            switch (Plan.part(line, 0)) {
                case LINE_RAID:
                    makeRaid(line);
                    break;
                case LINE_CARD:
                    makeCard(a, b, c);
                    break;
                case LINE_CHANGE:
                    state.exchange(a, b, c);
                    break;
                case LINE_HALF:
                    state.endHalf();
                    break;
                default:
                    makeReview(a, b == 1);
            }
        }

        private void makeRaid(long line) {
            plan.unpack(line);
            ahead.copyFrom(state);
            state.play(plan);
            history.write(ahead, plan, state);
        }

        private void makeCard(int team, int i, int colour) {
            if (state.showCard(team, i, colour)) {
                history.noteCardAllOut(team);
                history.setLead(state);
            }
        }

        private void makeReview(int team, boolean isWon) {
            if (isWon) {
                state.copyFrom(ahead);
                history.dropLatest();
            } else {
                state.sides[team].askedInVain = true;
            }
            state.noteOther();
        }

        int tallyOf(int team, int i, int what) {
            if (what == OF_GREENS) {
                return state.sides[team].greens[i];
            }
            return history.tallyAt(team, i, what);
        }

        /** Whether there is a PLAYER with this number of both TEAMS (10 times the TEAM, and it). */
        boolean hasNumber(int number) {
            return number % PLAYERS_MAX < tale.roster.sizeOf(number / PLAYERS_MAX);
        }

        /** How many PLAYERS stand ahead of this one by what they did. */
        int aheadOf(int number, int what) {
            int many = 0;
            int mine = history.tallyAt(number / PLAYERS_MAX, number % PLAYERS_MAX, what);
            for (int rival = 0; rival < 2 * PLAYERS_MAX; rival++) {
                int theirs = history.tallyAt(rival / PLAYERS_MAX, rival % PLAYERS_MAX, what);
                boolean isAhead = theirs > mine || theirs == mine && rival < number;
                many += hasNumber(rival) && isAhead ? 1 : 0;
            }
            return many;
        }

        void writeRaid(int k, Row row) {
            int team = history.cells[History.TEAM][k];
            plan.unpack(history.plans[k]);
            row.putWords("raid ");
            row.putShirt(tale.roster.shirtOf(team, plan.raider));
            row.putWords(resultWord(plan.result));
            for (int i = 0; i < plan.count && i < plan.touched.length; i++) {
                row.put(i == 0 ? ' ' : ',');
                row.putShirt(tale.roster.shirtOf(1 - team, plan.touched[i]));
            }
            if (plan.result == TACKLED) {
                row.put(' ');
                row.putShirt(tale.roster.shirtOf(1 - team, plan.tackler));
            }
            if (plan.bonus == 1) {
                row.putWords(" bonus");
            }
            row.put(';');
        }

        private static String resultWord(int result) {
            switch (result) {
                case EMPTY:
                    return " empty";
                case TOUCH:
                    return " touch";
                case BONUS:
                    return " bonus";
                case TACKLED:
                    return " tackled";
                default:
                    return " out";
            }
        }
    }

    /** The latest acts: of a text() the tale that it took the place of, of others that they were. */
    private static final class Acts {
        private final Tale[] formers = new Tale[ACTS_MAX];
        private final boolean[] texts = new boolean[ACTS_MAX];
        int size = 0;

        Acts() {
            for (int i = 0; i < ACTS_MAX; i++) {
                formers[i] = new Tale();
            }
        }

        void noteText(Tale former) {
            makeRoom();
            formers[size].copyFrom(former);
            texts[size] = true;
            size++;
        }

        void noteLine() {
            makeRoom();
            texts[size] = false;
            size++;
        }

        private void makeRoom() {
            if (size < ACTS_MAX) {
                return;
            }
            Tale oldest = formers[0];
            for (int i = 1; i < ACTS_MAX; i++) {
                formers[i - 1] = formers[i];
                texts[i - 1] = texts[i];
            }
            formers[ACTS_MAX - 1] = oldest;
            size = ACTS_MAX - 1;
        }

        /** Forgets the latest act: whether it was a text(). */
        boolean takeBack() {
            if (size == 0) {
                return false;
            }
            size--;
            return texts[size];
        }

        /** What the text() that was just taken back took the place of. */
        Tale former() {
            return formers[size < ACTS_MAX ? size : ACTS_MAX - 1];
        }
    }

    /**
     * Reads the TAPE as a TEXT. The methods that read answer a FAULT's number, 0 without one, and go
     * on to the next TOKEN only when this one has none: so the FAULT is at the TOKEN they stand at.
     */
    private static final class Parser {
        private static final int CANT_STAND = 1;
        private static final int OUT_OF_BOUNDS = 2;
        private static final int TOLD_AGAIN = 3;
        private static final int UNKNOWN = 4;
        private static final int NOT_NOW = 5;
        private static final int WRONG_SIZE = 6;
        private static final int TOO_MANY = 7;

        private static final int THE_END = 0;
        private static final int WORD = 1;
        private static final int NUMBER = 2;
        private static final int SIGN = 3;

        // A word's number is its place here: colours, and results, stand in the order of their numbers.
        private static final String WORDS =
            "team raid card change half review for won lost green yellow red empty touch bonus tackled out ";
        private static final int WORD_TEAM = 0;
        private static final int WORD_RAID = 1;
        private static final int WORD_CARD = 2;
        private static final int WORD_CHANGE = 3;
        private static final int WORD_HALF = 4;
        private static final int WORD_REVIEW = 5;
        private static final int WORD_FOR = 6;
        private static final int WORD_WON = 7;
        private static final int WORD_LOST = 8;
        private static final int WORD_GREEN = 9;
        private static final int WORD_RED = 11;
        private static final int WORD_EMPTY = 12;
        private static final int WORD_BONUS = 14;
        private static final int WORD_OUT = 16;

        private final Row tape;
        private final Match match;
        private final Plan plan = new Plan();
        private int kind = THE_END;
        private int start = 0;
        private int next = 0;
        // A number's value (once beyond SHIRT_MAX it grows no more), a sign's byte, a word's letters as a
        // Roster holds those of a name.
        private long value = 0;
        private int team = 0;
        private int player = 0;
        private long line = 0;

        Parser(Row from, Match into) {
            tape = from;
            match = into;
        }

        /** The first byte of the TOKEN it stands at. */
        int place() {
            return start;
        }

        int readText() {
            match.tale.clear();
            next = 0;
            advance();
            int fault = readTeam(0);
            if (fault == 0) {
                fault = readTeam(1);
            }
            match.begin();
            for (int i = 0; i < ROW_MAX && fault == 0 && kind != THE_END; i++) {
                fault = readLine();
                if (fault == 0) {
                    match.tale.addLine(line);
                    match.apply(line);
                    advance();
                }
            }
            return fault;
        }

        private void advance() {
            int size = tape.size();
            int at = next;
            while (at < size && (tape.at(at) == ' ' || tape.at(at) == '\n')) {
                at++;
            }
            start = at;
            kind = at < size ? kindOf(tape.at(at)) : THE_END;
            value = kind == SIGN ? tape.at(at) : 0;
            while (at < size && kind != SIGN && kindOf(tape.at(at)) == kind) {
                addToValue(tape.at(at));
                at++;
            }
            next = kind == SIGN ? at + 1 : at;
        }

        private void addToValue(int sign) {
            if (kind == WORD) {
                value = value << LETTER_BITS | sign - 'a' + 1;
            } else if (value <= SHIRT_MAX) {
                value = value * 10 + sign - '0';
            }
        }

        private static int kindOf(int first) {
            if (first >= 'a' && first <= 'z') {
                return WORD;
            }
            return first >= '0' && first <= '9' ? NUMBER : SIGN;
        }

        /** The number of the word that the TOKEN is, NONE for any other TOKEN. */
        private int word() {
            if (kind != WORD) {
                return NONE;
            }
            int number = 0;
            long letters = 0;
            for (int i = 0; i < WORDS.length(); i++) {
                if (WORDS.charAt(i) != ' ') {
                    letters = letters << LETTER_BITS | WORDS.charAt(i) - 'a' + 1;
                } else if (letters == value) {
                    return number;
                } else {
                    number++;
                    letters = 0;
                }
            }
            return NONE;
        }

        private boolean isSign(int sign) {
            return kind == SIGN && value == sign;
        }

        private int takeWord(int number) {
            if (word() != number) {
                return CANT_STAND;
            }
            advance();
            return 0;
        }

        private int takeSign(int sign) {
            if (!isSign(sign)) {
                return CANT_STAND;
            }
            advance();
            return 0;
        }

        private boolean isName() {
            return kind == WORD && next - start <= NAME_MAX && word() == NONE;
        }

        private int readTeam(int number) {
            int fault = takeWord(WORD_TEAM);
            if (fault == 0) {
                fault = readNewName(number);
            }
            if (fault == 0) {
                fault = takeSign(':');
            }
            return fault == 0 ? readShirts(number) : fault;
        }

        private int readNewName(int number) {
            if (!isName()) {
                return CANT_STAND;
            }
            if (match.tale.roster.teamNamed((int) value) != NONE) {
                return TOLD_AGAIN;
            }
            match.tale.roster.names[number] = (int) value;
            advance();
            return 0;
        }

        private int readShirts(int number) {
            for (int i = 0; i <= PLAYERS_MAX; i++) {
                int fault = readNewShirt(number, i);
                if (fault != 0) {
                    return fault;
                }
                if (isSign(';')) {
                    return i + 1 < SEVEN ? WRONG_SIZE : takeSign(';');
                }
                if (takeSign(',') != 0) {
                    return CANT_STAND;
                }
            }
            return CANT_STAND;
        }

        private int readNewShirt(int number, int many) {
            int fault = checkShirt(number);
            if (fault == 0) {
                return TOLD_AGAIN;
            }
            if (fault != UNKNOWN) {
                return fault;
            }
            if (many >= PLAYERS_MAX) {
                return WRONG_SIZE;
            }
            match.tale.roster.addPlayer(number, (int) value);
            advance();
            return 0;
        }

        /** Reads a LINE up to its ; and packs it. */
        private int readLine() {
            int word = word();
            if (!isWithin(word, WORD_RAID, WORD_REVIEW)) {
                return CANT_STAND;
            }
            boolean hasRoom = word == WORD_RAID ? match.hasRoomForRaid() : match.hasRoomForOther();
            if (!hasRoom) {
                return TOO_MANY;
            }
            int fault = 0;
            switch (word) {
                case WORD_RAID:
                    fault = readRaid();
                    break;
                case WORD_CARD:
                    fault = readCard();
                    break;
                case WORD_CHANGE:
                    fault = readChange();
                    break;
                case WORD_HALF:
                    fault = readHalf();
                    break;
                default:
                    fault = readReview();
            }
            return fault == 0 && !isSign(';') ? CANT_STAND : fault;
        }

        /** Goes on to a name of a TEAM, and looks at it. */
        private int nextName() {
            advance();
            if (!isName()) {
                return CANT_STAND;
            }
            team = match.tale.roster.teamNamed((int) value);
            return team == NONE ? UNKNOWN : 0;
        }

        /** Looks at a SHIRT of a TEAM, and does not go on. */
        private int checkShirt(int ofTeam) {
            if (kind != NUMBER) {
                return CANT_STAND;
            }
            int shirt = (int) value;
            if (!isWithin(shirt, 1, SHIRT_MAX)) {
                return OUT_OF_BOUNDS;
            }
            player = match.tale.roster.playerWith(ofTeam, shirt);
            return player == NONE ? UNKNOWN : 0;
        }

        /** Goes on to a SHIRT of a TEAM, and looks at it. */
        private int nextShirt(int ofTeam) {
            advance();
            return checkShirt(ofTeam);
        }

        private int readRaid() {
            int fault = nextShirt(match.state.turn);
            if (fault != 0) {
                return fault;
            }
            if (!match.state.canSend(player)) {
                return NOT_NOW;
            }
            advance();
            int word = word();
            if (!isWithin(word, WORD_EMPTY, WORD_OUT)) {
                return CANT_STAND;
            }
            plan.begin(player, word - WORD_EMPTY);
            if (plan.result == BONUS && !match.state.isBonusOpen()) {
                return NOT_NOW;
            }
            advance();
            if (plan.result == TOUCH || plan.result == TACKLED) {
                fault = readDefenders();
            }
            line = plan.pack();
            return fault;
        }

        /** Reads those who are touched, or the one who tackles, and what stands behind them. */
        private int readDefenders() {
            for (int i = 0; i <= PLAYERS_MAX; i++) {
                int fault = checkDefender();
                if (fault != 0) {
                    return fault;
                }
                advance();
                if (plan.result == TACKLED) {
                    plan.tackler = player;
                    return readWith();
                }
                plan.addTouched(player);
                if (takeSign(',') != 0) {
                    return readWith();
                }
            }
            return CANT_STAND;
        }

        /** Looks at a SHIRT of one who is ON against the RAIDER and was not told yet. */
        private int checkDefender() {
            int fault = checkShirt(1 - match.state.turn);
            if (fault != 0) {
                return fault;
            }
            boolean isTold = (plan.touchedMask() >> player & 1) == 1;
            return isTold || match.state.away().status[player] != ON ? NOT_NOW : 0;
        }

        private int readWith() {
            if (word() != WORD_BONUS) {
                return 0;
            }
            if (!match.state.isBonusOpen()) {
                return NOT_NOW;
            }
            plan.bonus = 1;
            advance();
            return 0;
        }

        private int readCard() {
            int fault = nextName();
            if (fault == 0) {
                fault = nextShirt(team);
            }
            if (fault != 0) {
                return fault;
            }
            // A red card reaches all whom any card reaches: what it can't reach is wrong at the SHIRT.
            if (!match.state.canShow(team, player, RED)) {
                return NOT_NOW;
            }
            advance();
            int word = word();
            if (!isWithin(word, WORD_GREEN, WORD_RED)) {
                return CANT_STAND;
            }
            int colour = word - WORD_GREEN;
            if (!match.state.canShow(team, player, colour)) {
                return NOT_NOW;
            }
            advance();
            line = Plan.packOther(LINE_CARD, team, player, colour);
            return 0;
        }

        private int readChange() {
            int fault = nextName();
            if (fault == 0) {
                fault = nextShirt(team);
            }
            if (fault != 0) {
                return fault;
            }
            int from = player;
            if (!match.state.canLeave(team, from)) {
                return NOT_NOW;
            }
            advance();
            fault = takeWord(WORD_FOR);
            if (fault == 0) {
                fault = checkShirt(team);
            }
            if (fault != 0) {
                return fault;
            }
            if (!match.state.canEnter(team, player)) {
                return NOT_NOW;
            }
            advance();
            line = Plan.packOther(LINE_CHANGE, team, from, player);
            return 0;
        }

        private int readHalf() {
            if (match.state.isOver()) {
                return NOT_NOW;
            }
            advance();
            line = Plan.packOther(LINE_HALF, 0, 0, 0);
            return 0;
        }

        private int readReview() {
            int fault = nextName();
            if (fault != 0) {
                return fault;
            }
            if (!match.state.canAsk(team)) {
                return NOT_NOW;
            }
            advance();
            int word = word();
            if (word != WORD_WON && word != WORD_LOST) {
                return CANT_STAND;
            }
            advance();
            line = Plan.packOther(LINE_REVIEW, team, word == WORD_WON ? 1 : 0, 0);
            return 0;
        }
    }
}
