import java.util.ArrayDeque;
import java.util.ArrayList;
import java.util.Arrays;
import java.util.Deque;
import java.util.HashSet;
import java.util.List;
import java.util.Set;
import java.util.TreeSet;

/**
 * The document once more, written with the Java library and with no care for speed: every answer is
 * worked out anew from the list of RAIDS, and acts are undone from whole copies.
 */
public final class OracleMat {
    static final Set<String> WORDS = new HashSet<>(Arrays.asList("team", "raid", "card", "green", "yellow", "red",
        "change", "for", "half", "review", "won", "lost", "empty", "touch", "bonus", "tackled", "out"));
    static final List<String> RESULTS = Arrays.asList("empty", "touch", "bonus", "tackled", "out");
    static final List<String> COLOURS = Arrays.asList("green", "yellow", "red");

    static final class Raid {
        int team;
        int raider;
        int result;
        List<Integer> touched = new ArrayList<>();
        int tackler = -1;
        int with;
        boolean must;
        int[] gain = new int[2];
        int backs;
        boolean isSuper;
        boolean[] allOut = new boolean[2];
        List<Set<Integer>> on = new ArrayList<>();

        int raiderPoints() {
            return touched.size() + with + (result == 2 ? 1 : 0);
        }

        boolean raiderWentOut() {
            return result >= 3 || result == 0 && must;
        }

        int times(int t, int i, int what) {
            boolean mine = team == t && raider == i;
            boolean tackles = team != t && result == 3 && tackler == i;
            switch (what) {
                case 0: return mine ? 1 : 0;
                case 1: return mine ? raiderPoints() : 0;
                case 2: return mine ? touched.size() : 0;
                case 3: return tackles ? 1 : 0;
                case 4: return tackles ? isSuper ? 2 : 1 : 0;
                case 5: return mine && raiderWentOut() || team != t && touched.contains(i) ? 1 : 0;
                default: return mine && result == 0 ? 1 : 0;
            }
        }
    }

    static final class Game {
        String[] names = {"", ""};
        List<List<Integer>> shirts = new ArrayList<>(Arrays.asList(new ArrayList<>(), new ArrayList<>()));
        int[][] status = new int[2][10];
        int[][] waits = new int[2][10];
        int[][] greens = new int[2][10];
        List<List<Integer>> outs = new ArrayList<>(Arrays.asList(new ArrayList<>(), new ArrayList<>()));
        int[] score = new int[2];
        int[] empties = new int[2];
        int[] changes = new int[2];
        int[] cardAllOuts = new int[2];
        boolean[] vain = new boolean[2];
        int turn;
        int halves;
        int others;
        int lines;
        boolean raidLatest;
        List<Raid> raids = new ArrayList<>();
        List<Integer> leads = new ArrayList<>(Arrays.asList(0));
        Game ahead;

        Game copy() {
            Game g = new Game();
            g.names = names.clone();
            for (int t = 0; t < 2; t++) {
                g.shirts.set(t, new ArrayList<>(shirts.get(t)));
                g.outs.set(t, new ArrayList<>(outs.get(t)));
                g.status[t] = status[t].clone();
                g.waits[t] = waits[t].clone();
                g.greens[t] = greens[t].clone();
            }
            g.score = score.clone();
            g.empties = empties.clone();
            g.changes = changes.clone();
            g.cardAllOuts = cardAllOuts.clone();
            g.vain = vain.clone();
            g.turn = turn;
            g.halves = halves;
            g.others = others;
            g.lines = lines;
            g.raidLatest = raidLatest;
            g.raids = new ArrayList<>(raids);
            g.leads = new ArrayList<>(leads);
            g.ahead = ahead;
            return g;
        }

        void kickOff() {
            for (int t = 0; t < 2; t++) {
                Arrays.fill(status[t], 2);
                Arrays.fill(status[t], 0, 7, 0);
            }
        }

        Set<Integer> those(int t, int what) {
            Set<Integer> set = new TreeSet<>();
            for (int i = 0; i < shirts.get(t).size(); i++) {
                if (status[t][i] == what) {
                    set.add(i);
                }
            }
            return set;
        }

        boolean over() {
            return halves == 2;
        }

        boolean bonusOpen() {
            return those(1 - turn, 0).size() >= 6;
        }

        void out(int t, int i) {
            status[t][i] = 1;
            outs.get(t).add(i);
        }

        int back(int t) {
            if (outs.get(t).isEmpty()) {
                return 0;
            }
            status[t][outs.get(t).remove(0)] = 0;
            return 1;
        }

        boolean allOut(int t) {
            if (!those(t, 0).isEmpty() || outs.get(t).isEmpty()) {
                return false;
            }
            while (back(t) == 1) {
                continue;
            }
            return true;
        }

        Raid raid(int raider, int result, List<Integer> touched, int tackler, int with) {
            ahead = copy();
            ahead.ahead = null;
            Raid r = new Raid();
            int me = turn;
            int they = 1 - turn;
            r.team = me;
            r.raider = raider;
            r.result = result;
            r.touched.addAll(touched);
            r.tackler = tackler;
            r.with = with;
            r.must = empties[me] == 2;
            r.on.add(those(0, 0));
            r.on.add(those(1, 0));
            int n = r.on.get(they).size();
            for (int i : touched) {
                out(they, i);
            }
            if (r.raiderWentOut()) {
                out(me, raider);
                r.gain[they]++;
                r.backs += back(they);
                if (result == 3 && n <= 3) {
                    r.isSuper = true;
                    r.gain[they]++;
                }
            }
            for (int i = 0; i < touched.size(); i++) {
                r.backs += back(me);
            }
            r.gain[me] += r.raiderPoints();
            empties[me] = result == 0 && !r.must ? empties[me] + 1 : 0;
            for (int t = 0; t < 2; t++) {
                for (int i = 0; i < 10; i++) {
                    if (status[t][i] == 3 && --waits[t][i] == 0) {
                        status[t][i] = 0;
                    }
                }
            }
            for (int t : new int[] {they, me}) {
                if (allOut(t)) {
                    r.allOut[t] = true;
                    r.gain[1 - t] += 2;
                }
            }
            score[0] += r.gain[0];
            score[1] += r.gain[1];
            turn = they;
            raidLatest = true;
            raids.add(r);
            leads.add(score[0] - score[1]);
            return r;
        }

        void other() {
            others++;
            raidLatest = false;
        }

        boolean canCard(int t, int i, int colour) {
            int s = status[t][i];
            return !over() && (s == 0 || s == 1 || s == 3 && colour == 2);
        }

        void card(int t, int i, int colour) {
            other();
            boolean yellow = colour == 1;
            if (colour == 0) {
                greens[t][i]++;
                yellow = greens[t][i] % 2 == 0;
            }
            if (yellow || colour == 2) {
                outs.get(t).remove((Integer) i);
                status[t][i] = yellow ? 3 : 4;
                waits[t][i] = yellow ? 6 : 0;
            }
            if (allOut(t)) {
                score[1 - t] += 2;
                cardAllOuts[t]++;
                leads.set(leads.size() - 1, score[0] - score[1]);
            }
        }

        void change(int t, int from, int to) {
            other();
            status[t][from] = 2;
            status[t][to] = 0;
            changes[t]++;
        }

        void half() {
            other();
            halves++;
            turn = 1;
            empties = new int[2];
            vain = new boolean[2];
        }

        boolean canReview(int t) {
            return !over() && raidLatest && !vain[t];
        }

        Game review(int t, boolean won) {
            Game g = this;
            if (won) {
                g = ahead.copy();
                g.lines = lines;
                g.others = others;
            } else {
                vain[t] = true;
            }
            g.other();
            return g;
        }
    }

    static final class Fault extends RuntimeException {
        private static final long serialVersionUID = 1L;
        final int number;
        final int place;

        Fault(int number, int place) {
            super("fault");
            this.number = number;
            this.place = place;
        }
    }

    final StringBuilder tape = new StringBuilder();
    String out = "";
    Game game = null;
    final Deque<Object> acts = new ArrayDeque<>();
    int fault = 0;
    int place = -1;

    // ---- reading ----

    private List<String> tokens;
    private List<Integer> places;
    private int at;

    private void split(String s) {
        tokens = new ArrayList<>();
        places = new ArrayList<>();
        java.util.regex.Matcher m = java.util.regex.Pattern.compile("[a-z]+|[0-9]+|[^ \n]", java.util.regex.Pattern.DOTALL).matcher(s);
        while (m.find()) {
            tokens.add(m.group());
            places.add(m.start());
        }
        tokens.add("");
        places.add(s.length());
        at = 0;
    }

    private Fault bad(int number) {
        return new Fault(number, places.get(at));
    }

    private String token() {
        return tokens.get(at);
    }

    private void must(String what) {
        if (!token().equals(what)) {
            throw bad(1);
        }
        at++;
    }

    private String name() {
        if (!token().matches("[a-z]{1,6}") || WORDS.contains(token())) {
            throw bad(1);
        }
        return token();
    }

    private int number() {
        if (!token().matches("[0-9]+")) {
            throw bad(1);
        }
        java.math.BigInteger n = new java.math.BigInteger(token());
        if (n.compareTo(java.math.BigInteger.ONE) < 0 || n.compareTo(java.math.BigInteger.valueOf(99)) > 0) {
            throw bad(2);
        }
        return n.intValue();
    }

    private int team(Game g) {
        int t = Arrays.asList(g.names).indexOf(name());
        if (t < 0) {
            throw bad(4);
        }
        return t;
    }

    private int player(Game g, int t) {
        int i = g.shirts.get(t).indexOf(number());
        if (i < 0) {
            throw bad(4);
        }
        return i;
    }

    private void now(boolean can) {
        if (!can) {
            throw bad(5);
        }
    }

    private void readTeam(Game g, int t) {
        must("team");
        if (name().equals(g.names[0])) {
            throw bad(3);
        }
        g.names[t] = name();
        at++;
        must(":");
        while (true) {
            int shirt = number();
            if (g.shirts.get(t).contains(shirt)) {
                throw bad(3);
            }
            if (g.shirts.get(t).size() == 10) {
                throw bad(6);
            }
            g.shirts.get(t).add(shirt);
            at++;
            if (token().equals(";")) {
                if (g.shirts.get(t).size() < 7) {
                    throw bad(6);
                }
                at++;
                return;
            }
            must(",");
        }
    }

    private void readRaid(Game g) {
        if (g.raids.size() == 200) {
            throw bad(7);
        }
        at++;
        int raider = player(g, g.turn);
        now(!g.over() && g.status[g.turn][raider] == 0);
        at++;
        int result = RESULTS.indexOf(token());
        if (result < 0) {
            throw bad(1);
        }
        now(result != 2 || g.bonusOpen());
        at++;
        List<Integer> touched = new ArrayList<>();
        int tackler = -1;
        while (result == 1) {
            int i = player(g, 1 - g.turn);
            now(g.status[1 - g.turn][i] == 0 && !touched.contains(i));
            touched.add(i);
            at++;
            if (!token().equals(",")) {
                break;
            }
            at++;
        }
        if (result == 3) {
            tackler = player(g, 1 - g.turn);
            now(g.status[1 - g.turn][tackler] == 0);
            at++;
        }
        int with = 0;
        if ((result == 1 || result == 3) && token().equals("bonus")) {
            now(g.bonusOpen());
            with = 1;
            at++;
        }
        must(";");
        g.raid(raider, result, touched, tackler, with);
    }

    private Game readOther(Game g) {
        if (!Arrays.asList("card", "change", "half", "review").contains(token())) {
            throw bad(1);
        }
        if (g.others == 40) {
            throw bad(7);
        }
        String kind = token();
        now(!kind.equals("half") || !g.over());
        at++;
        if (kind.equals("half")) {
            must(";");
            g.half();
            return g;
        }
        int t = team(g);
        if (kind.equals("review")) {
            now(g.canReview(t));
            at++;
            boolean won = token().equals("won");
            must(won ? "won" : "lost");
            must(";");
            return g.review(t, won);
        }
        at++;
        int i = player(g, t);
        if (kind.equals("card")) {
            now(g.canCard(t, i, 2));
            at++;
            int colour = COLOURS.indexOf(token());
            if (colour < 0) {
                throw bad(1);
            }
            now(g.canCard(t, i, colour));
            at++;
            must(";");
            g.card(t, i, colour);
            return g;
        }
        now(!g.over() && g.status[t][i] == 0 && g.changes[t] < 5);
        at++;
        must("for");
        int to = player(g, t);
        now(g.status[t][to] == 2);
        at++;
        must(";");
        g.change(t, i, to);
        return g;
    }

    public int text() {
        String s = tape.toString();
        tape.setLength(0);
        split(s);
        try {
            Game g = new Game();
            readTeam(g, 0);
            readTeam(g, 1);
            g.kickOff();
            while (!token().isEmpty()) {
                if (token().equals("raid")) {
                    readRaid(g);
                } else {
                    g = readOther(g);
                }
                g.lines++;
            }
            fault = 0;
            place = -1;
            note();
            game = g;
            return g.lines;
        } catch (Fault f) {
            fault = f.number;
            place = f.place;
            return -4;
        }
    }

    private void note() {
        acts.addLast(game == null ? "none" : game.copy());
        if (acts.size() > 10) {
            acts.removeFirst();
        }
    }

    // ---- the face ----

    public int feed(int a, int b, int c, int d, int e) {
        if (tape.length() > 1980) {
            return -1;
        }
        for (int n : new int[] {a, b, c, d, e}) {
            for (int shift = 24; shift >= 0; shift -= 8) {
                tape.append((char) (n >> shift & 255));
            }
        }
        return tape.length();
    }

    public int end(int n) {
        if (n < 0 || n > tape.length()) {
            return -1;
        }
        tape.setLength(n);
        return n;
    }

    public int fault(int what) {
        return what == 0 ? fault : what == 1 ? place : -1;
    }

    public int count(int what) {
        Game g = game == null ? new Game() : game;
        int[] all = {g.shirts.get(0).size(), g.shirts.get(1).size(), g.raids.size(), g.others, g.halves, acts.size(), tape.length(), out.length()};
        return what < 0 || what > 7 ? -1 : all[what];
    }

    private boolean noTeam(int t) {
        return game == null || t != 0 && t != 1;
    }

    private boolean no(int t, int i) {
        return noTeam(t) || i < 0 || i >= game.shirts.get(t).size();
    }

    private static int bits(Set<Integer> set) {
        int mask = 0;
        for (int i : set) {
            mask += 1 << i;
        }
        return mask;
    }

    public int letter(int t, int i) {
        if (noTeam(t) || i < 0 || i > 5) {
            return -2;
        }
        return i < game.names[t].length() ? game.names[t].charAt(i) - 96 : 0;
    }

    public int shirt(int t, int i) {
        return no(t, i) ? -2 : game.shirts.get(t).get(i);
    }

    public int who(int t, int shirt) {
        return noTeam(t) || shirt < 1 || shirt > 99 ? -2 : game.shirts.get(t).indexOf(shirt);
    }

    public int is(int t, int i) {
        return no(t, i) ? -2 : game.status[t][i];
    }

    public int those(int t, int what) {
        return noTeam(t) || what < 0 || what > 4 ? -2 : bits(game.those(t, what));
    }

    public int outs(int t, int k) {
        if (noTeam(t) || k < 0) {
            return -2;
        }
        return k < game.outs.get(t).size() ? game.outs.get(t).get(k) : -1;
    }

    public int wait(int t, int i) {
        return no(t, i) ? -2 : game.waits[t][i];
    }

    public int score(int t) {
        return noTeam(t) ? -2 : game.score[t];
    }

    public int turn() {
        return game == null ? -2 : game.over() ? -1 : game.turn;
    }

    public int empties(int t) {
        return noTeam(t) ? -2 : game.empties[t];
    }

    public int bonus() {
        return game == null ? -2 : game.over() ? -1 : game.bonusOpen() ? 1 : 0;
    }

    public int of(int t, int i, int what) {
        if (no(t, i) || what < 0 || what > 7) {
            return -2;
        }
        if (what == 7) {
            return game.greens[t][i];
        }
        return game.raids.stream().mapToInt(r -> r.times(t, i, what)).sum();
    }

    public int parts(int t, int what) {
        if (noTeam(t) || what < 0 || what > 5) {
            return -2;
        }
        int sum = what == 4 ? 2 * game.cardAllOuts[1 - t] : 0;
        for (Raid r : game.raids) {
            boolean mine = r.team == t;
            switch (what) {
                case 0: sum += mine ? r.touched.size() : 0; break;
                case 1: sum += mine ? r.with + (r.result == 2 ? 1 : 0) : 0; break;
                case 2: sum += !mine && r.result == 3 ? 1 : 0; break;
                case 3: sum += !mine && r.isSuper ? 1 : 0; break;
                case 4: sum += r.allOut[1 - t] ? 2 : 0; break;
                default: sum += !mine && r.result != 3 && r.raiderWentOut() ? 1 : 0;
            }
        }
        return sum;
    }

    public int raidOf(int k, int what) {
        if (game == null || k < 0 || what < 0 || what > 8) {
            return -2;
        }
        if (k >= game.raids.size()) {
            return -1;
        }
        Raid r = game.raids.get(k);
        int set = r.result == 1 ? bits(new TreeSet<>(r.touched)) : r.result == 3 ? r.tackler : -1;
        int[] all = {r.team, r.raider, r.result, r.gain[r.team], r.gain[1 - r.team], set, r.with, r.must ? 1 : 0, r.backs};
        return all[what];
    }

    public int lead(int k) {
        return game == null || k < 0 || k > game.raids.size() ? -1000 : game.leads.get(k);
    }

    public int changes() {
        if (game == null) {
            return -2;
        }
        List<Boolean> leaders = new ArrayList<>();
        for (int lead : game.leads) {
            if (lead != 0) {
                leaders.add(lead > 0);
            }
        }
        int n = 0;
        for (int i = 1; i < leaders.size(); i++) {
            n += leaders.get(i).equals(leaders.get(i - 1)) ? 0 : 1;
        }
        return n;
    }

    private interface Test {
        boolean holds(Raid r);
    }

    private static int longestOf(List<Raid> raids, Test test) {
        StringBuilder marks = new StringBuilder();
        for (Raid r : raids) {
            marks.append(test.holds(r) ? 'x' : ' ');
        }
        int most = 0;
        for (String part : marks.toString().split(" ")) {
            most = Math.max(most, part.length());
        }
        return most;
    }

    private List<Raid> raidsOf(int t) {
        List<Raid> own = new ArrayList<>();
        for (Raid r : game.raids) {
            if (r.team == t) {
                own.add(r);
            }
        }
        return own;
    }

    public int run(int t) {
        return noTeam(t) ? -2 : longestOf(game.raids, r -> r.gain[t] > 0 && r.gain[1 - t] == 0);
    }

    public int best(int what, int k) {
        if (game == null || what < 0 || what > 6 || k < 0) {
            return -2;
        }
        List<Integer> all = new ArrayList<>();
        for (int p = 0; p < 20; p++) {
            if (!no(p / 10, p % 10)) {
                all.add(p);
            }
        }
        all.sort((p, q) -> of(q / 10, q % 10, what) - of(p / 10, p % 10, what));
        return k < all.size() ? all.get(k) : -1;
    }

    public int rate(int t, int i, int what, int by) {
        if (no(t, i) || what < 0 || what > 6) {
            return -2;
        }
        java.math.BigInteger product = java.math.BigInteger.valueOf(of(t, i, what)).multiply(java.math.BigInteger.valueOf(by));
        if (of(t, i, 0) == 0 || product.bitLength() > 31) {
            return -1;
        }
        return product.intValue() / of(t, i, 0);
    }

    private int check(int raider, int result, int set, int with) {
        if (game == null || no(game.turn, raider) || result < 0 || result > 4) {
            return -2;
        }
        int they = 1 - game.turn;
        int size = game.shirts.get(they).size();
        boolean setRight = result == 1 ? set > 0 && set < 1 << size : result == 3 ? set >= 0 && set < size : set == 0;
        boolean withRight = with == 0 || with == 1 && (result == 1 || result == 3);
        if (!setRight || !withRight) {
            return -2;
        }
        Set<Integer> on = game.those(they, 0);
        boolean can = !game.over() && game.raids.size() < 200 && game.status[game.turn][raider] == 0;
        can &= game.bonusOpen() || with == 0 && result != 2;
        can &= result != 3 || on.contains(set);
        can &= result != 1 || on.containsAll(members(set));
        return can ? 0 : -6;
    }

    private static List<Integer> members(int set) {
        List<Integer> list = new ArrayList<>();
        for (int i = 0; i < 10; i++) {
            if ((set & 1 << i) != 0) {
                list.add(i);
            }
        }
        return list;
    }

    private static Raid make(Game g, int raider, int result, int set, int with) {
        return g.raid(raider, result, result == 1 ? members(set) : new ArrayList<>(), result == 3 ? set : -1, with);
    }

    public int would(int raider, int result, int set, int with, int what) {
        int refusal = what < 0 || what > 3 ? -2 : check(raider, result, set, with);
        if (refusal != 0) {
            return refusal;
        }
        Game g = game.copy();
        Raid r = make(g, raider, result, set, with);
        int me = r.team;
        int[] all = {r.gain[me], r.gain[1 - me], g.those(me, 0).size(), g.those(1 - me, 0).size()};
        return all[what];
    }

    public int most() {
        if (game == null) {
            return -2;
        }
        if (game.over() || game.raids.size() == 200 || game.those(game.turn, 0).isEmpty()) {
            return -1;
        }
        int best = 0;
        int raider = game.those(game.turn, 0).iterator().next();
        int on = bits(game.those(1 - game.turn, 0));
        for (int with = 0; with < 2; with++) {
            for (int set = 1; set <= on; set++) {
                if (Integer.bitCount(on & ~set) < 3) {
                    best = Math.max(best, would(raider, 1, set, with, 0));
                }
            }
        }
        return best;
    }

    public int needs(int t) {
        if (noTeam(t)) {
            return -2;
        }
        Game g = game.copy();
        for (int made = 0; made <= 50;) {
            if (g.score[t] > g.score[1 - t]) {
                return made;
            }
            if (g.over() || g.those(g.turn, 0).isEmpty()) {
                return -1;
            }
            int raider = g.those(g.turn, 0).iterator().next();
            Set<Integer> on = g.those(1 - g.turn, 0);
            if (g.turn != t) {
                make(g, raider, 0, 0, 0);
            } else {
                made++;
                make(g, raider, on.isEmpty() ? 0 : 1, bits(on), on.size() >= 6 ? 1 : 0);
            }
        }
        return -1;
    }

    public int met(int t, int i, int j, int what) {
        if (no(t, i) || no(1 - t, j) || what < 0 || what > 1) {
            return -2;
        }
        int n = 0;
        for (Raid r : raidsOf(t)) {
            n += r.raider == i && (what == 0 ? r.touched.contains(j) : r.tackler == j) ? 1 : 0;
        }
        return n;
    }

    public int lasted(int t, int i) {
        return no(t, i) ? -2 : (int) game.raids.stream().filter(r -> r.on.get(t).contains(i)).count();
    }

    public int stood(int t, int k) {
        if (noTeam(t) || k < 0) {
            return -2;
        }
        return k < game.raids.size() ? game.raids.get(k).on.get(t).size() : -1;
    }

    public int longest(int t) {
        return noTeam(t) ? -2 : longestOf(raidsOf(t), r -> r.gain[t] > 0);
    }

    public int great(int t) {
        return noTeam(t) ? -2 : (int) raidsOf(t).stream().filter(r -> r.gain[t] - (r.allOut[1 - t] ? 2 : 0) >= 3).count();
    }

    public int behind(int t) {
        if (noTeam(t)) {
            return -2;
        }
        int most = 0;
        for (int lead : game.leads) {
            most = Math.max(most, t == 1 ? lead : -lead);
        }
        return most;
    }

    public int first(int t, int i, int what) {
        if (no(t, i) || what < 0 || what > 1) {
            return -2;
        }
        for (int k = 0; k < game.raids.size(); k++) {
            if (game.raids.get(k).times(t, i, what == 0 ? 1 : 4) > 0) {
                return k;
            }
        }
        return -1;
    }

    public int raid(int raider, int result, int set, int with) {
        int refusal = check(raider, result, set, with);
        if (refusal != 0) {
            return refusal;
        }
        note();
        Raid r = make(game, raider, result, set, with);
        return r.gain[r.team];
    }

    public int card(int t, int i, int colour) {
        if (no(t, i) || colour < 0 || colour > 2) {
            return -2;
        }
        if (game.others == 40 || !game.canCard(t, i, colour)) {
            return -6;
        }
        note();
        game.card(t, i, colour);
        return game.status[t][i];
    }

    public int change(int t, int from, int to) {
        if (no(t, from) || no(t, to)) {
            return -2;
        }
        boolean can = game.others < 40 && !game.over() && game.changes[t] < 5;
        if (!can || game.status[t][from] != 0 || game.status[t][to] != 2) {
            return -6;
        }
        note();
        game.change(t, from, to);
        return game.changes[t];
    }

    public int half() {
        if (game == null) {
            return -2;
        }
        if (game.others == 40 || game.over()) {
            return -6;
        }
        note();
        game.half();
        return game.halves;
    }

    public int review(int t, int won) {
        if (noTeam(t) || won < 0 || won > 1) {
            return -2;
        }
        if (may(t) == 0) {
            return -6;
        }
        note();
        game = game.review(t, won == 1);
        return game.raids.size();
    }

    public int may(int t) {
        return noTeam(t) ? -2 : game.others < 40 && game.canReview(t) ? 1 : 0;
    }

    public int undo() {
        if (acts.isEmpty()) {
            return -1;
        }
        Object former = acts.removeLast();
        game = former instanceof Game ? (Game) former : null;
        return acts.size();
    }

    public int tell(int what) {
        if (game == null || what < 0 || what > 2) {
            return -2;
        }
        StringBuilder told = new StringBuilder();
        int n = 0;
        for (Raid r : what == 0 ? game.raids : raidsOf(what - 1)) {
            List<Integer> they = game.shirts.get(1 - r.team);
            StringBuilder line = new StringBuilder("raid " + game.shirts.get(r.team).get(r.raider) + " " + RESULTS.get(r.result));
            String gap = " ";
            for (int i : r.touched) {
                line.append(gap).append(they.get(i));
                gap = ",";
            }
            line.append(r.result == 3 ? " " + they.get(r.tackler) : "").append(r.with == 1 ? " bonus;" : ";");
            if (told.length() + line.length() > 2000) {
                break;
            }
            told.append(line);
            n++;
        }
        out = told.toString();
        return n;
    }

    public int octet(int i) {
        return i < 0 || i >= out.length() ? -1 : out.charAt(i);
    }

    public int draws() {
        return game == null ? -2 : (int) game.leads.stream().skip(1).filter(lead -> lead == 0).count();
    }

    public int pressed(int t, int what) {
        if (noTeam(t) || what < 0 || what > 1) {
            return -2;
        }
        return (int) raidsOf(t).stream().filter(r -> r.must && (what == 0 || r.gain[t] > 0)).count();
    }

    public int gained(int t, int from, int to) {
        if (noTeam(t) || from < 0 || to < from || to > game.raids.size()) {
            return -2;
        }
        return game.raids.subList(from, to).stream().mapToInt(r -> r.gain[t]).sum();
    }

    public int shirts(int t, int what, int k) {
        if (noTeam(t) || what < 0 || what > 4 || k < 0) {
            return -2;
        }
        List<Integer> list = new ArrayList<>();
        for (int i : game.those(t, what)) {
            list.add(game.shirts.get(t).get(i));
        }
        java.util.Collections.sort(list);
        return k < list.size() ? list.get(k) : -1;
    }

    public int allOut(int t, int k) {
        if (noTeam(t) || k < 0) {
            return -2;
        }
        List<Integer> list = new ArrayList<>();
        for (int n = 0; n < game.raids.size(); n++) {
            if (game.raids.get(n).allOut[t]) {
                list.add(n);
            }
        }
        return k < list.size() ? list.get(k) : -1;
    }

    public int share(int t, int i) {
        if (no(t, i)) {
            return -2;
        }
        int all = parts(t, 0) + parts(t, 1) + parts(t, 2) + parts(t, 3);
        return all == 0 ? -1 : 100 * (of(t, i, 1) + of(t, i, 4)) / all;
    }

    public int find() {
        String name = tape.toString();
        tape.setLength(0);
        return game == null || !name.matches("[a-z]{1,6}") || name.contains("\n") ? -2 : Arrays.asList(game.names).indexOf(name);
    }

    public int streak(int t, int i) {
        if (no(t, i)) {
            return -2;
        }
        List<Raid> own = raidsOf(t);
        own.removeIf(r -> r.raider != i);
        return longestOf(own, r -> r.raiderPoints() > 0);
    }

    public int last(int t, int i) {
        if (no(t, i)) {
            return -2;
        }
        int last = -1;
        for (int k = 0; k < game.raids.size(); k++) {
            last = game.raids.get(k).times(t, i, 0) == 1 ? k : last;
        }
        return last;
    }

    public int some(int t, int what) {
        if (noTeam(t) || what < 0 || what > 7) {
            return -2;
        }
        Set<Integer> set = new TreeSet<>();
        for (int i = 0; i < 10; i++) {
            if (of(t, i, what) > 0) {
                set.add(i);
            }
        }
        return bits(set);
    }

    public int sum(int t, int what) {
        if (noTeam(t) || what < 0 || what > 7) {
            return -2;
        }
        int sum = 0;
        for (int i = 0; i < game.shirts.get(t).size(); i++) {
            sum += of(t, i, what);
        }
        return sum;
    }

    public int lives(int t) {
        return noTeam(t) ? -2 : (int) game.raids.stream().filter(r -> r.on.get(t).size() == 7).count();
    }
}
