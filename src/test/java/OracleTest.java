import java.lang.reflect.Method;
import java.util.ArrayList;
import java.util.Arrays;
import java.util.Comparator;
import java.util.List;
import java.util.Random;

/** Random runs of calls, each answer held against the one that OracleMat gives. */
public final class OracleTest {
    private static final List<Method> REAL = new ArrayList<>();
    private static final List<Method> PLAIN = new ArrayList<>();
    private static final List<String> ACTS = Arrays.asList("feed", "end", "text", "find", "raid", "card", "change", "half", "review", "undo", "tell");

    private static int faults = 0;
    private static int texts = 0;
    private static int[] faultKinds = new int[8];
    private static int longestMatch = 0;
    private static int allOuts = 0;

    private final Random random;
    private final RaidMat real = new RaidMat();
    private final OracleMat plain = new OracleMat();
    private final String run;

    private OracleTest(long seed) {
        random = new Random(seed);
        run = "run " + seed + ": ";
    }

    public static void main(String[] args) throws Exception {
        for (Method m : RaidMat.class.getDeclaredMethods()) {
            if (java.lang.reflect.Modifier.isPublic(m.getModifiers())) {
                REAL.add(m);
            }
        }
        REAL.sort(Comparator.comparing(Method::getName));
        for (Method m : REAL) {
            PLAIN.add(OracleMat.class.getMethod(m.getName(), m.getParameterTypes()));
        }
        int runs = args.length > 0 ? Integer.parseInt(args[0]) : 400;
        for (int seed = 0; seed < runs; seed++) {
            new OracleTest(seed).play();
        }
        System.out.println("texts " + texts + ", faults " + faults + " " + Arrays.toString(faultKinds)
            + ", longest match " + longestMatch + ", all outs " + allOuts);
        Talk.due("runs have faults of each kind", Arrays.stream(faultKinds).filter(n -> n > 0).count(), 8);
        Talk.due("runs have ALL OUTS", allOuts > 0 ? 1 : 0, 1);
        Talk.finish("OracleTest");
    }

    private int both(String name, int... given) throws Exception {
        for (int i = 0; i < REAL.size(); i++) {
            if (REAL.get(i).getName().equals(name)) {
                return both(i, given);
            }
        }
        throw new IllegalStateException(name);
    }

    private int both(int method, int... given) throws Exception {
        Object[] boxed = Arrays.stream(given).boxed().toArray();
        int got = (Integer) REAL.get(method).invoke(real, boxed);
        int want = (Integer) PLAIN.get(method).invoke(plain, boxed);
        Talk.due(run + REAL.get(method).getName() + Arrays.toString(given), got, want);
        return want;
    }

    private void play() throws Exception {
        int style = random.nextInt(4);
        if (random.nextInt(3) == 0) {
            askAll(1);
        }
        tellText(style);
        askAll(2);
        int steps = 20 + random.nextInt(300);
        for (int step = 0; step < steps; step++) {
            act(style);
            askSome(6);
            if (random.nextInt(40) == 0) {
                askAll(2);
            }
        }
        askAll(3);
        if (plain.game != null) {
            longestMatch = Math.max(longestMatch, plain.game.raids.size());
            allOuts += plain.allOut(0, 0) >= 0 ? 1 : 0;
        }
    }

    private void act(int style) throws Exception {
        int dice = random.nextInt(100);
        if (dice < 70) {
            int[] raid = randomRaid(style);
            both("would", raid[0], raid[1], raid[2], raid[3], random.nextInt(4));
            both("raid", raid);
        } else if (dice < 75) {
            both("card", random.nextInt(2), random.nextInt(10), random.nextInt(style == 3 ? 3 : 2));
        } else if (dice < 79) {
            both("change", random.nextInt(2), random.nextInt(10), random.nextInt(10));
        } else if (dice < 80) {
            if (random.nextInt(style == 2 ? 2 : 30) == 0) {
                both("half");
            }
        } else if (dice < 86) {
            both("review", random.nextInt(2), random.nextInt(4) == 0 ? 0 : 1);
        } else if (dice < 92) {
            for (int n = random.nextInt(random.nextInt(10) == 0 ? 14 : 3); n >= 0; n--) {
                both("undo");
            }
        } else if (dice < 95) {
            both("tell", random.nextInt(4) - random.nextInt(2));
            for (int i = -1; i <= plain.out.length(); i++) {
                both("octet", i);
            }
        } else if (dice < 97) {
            askFind();
        } else if (dice < 99) {
            tellText(style);
        } else {
            callAny(20);
        }
    }

    /** Any calls, acts too, with numbers of any size. */
    private void callAny(int many) throws Exception {
        for (int n = 0; n < many; n++) {
            int method = random.nextInt(REAL.size());
            int[] given = new int[REAL.get(method).getParameterCount()];
            for (int i = 0; i < given.length; i++) {
                given[i] = random.nextInt(3) == 0 ? random.nextInt() : randomNumber();
            }
            both(method, given);
        }
    }

    private void askFind() throws Exception {
        String[] names = {"a", "b", "abc", "raid", "reds", "blues", "longer", "", "toolong", "A", "a b", "a\n", "a1"};
        String name = names[random.nextInt(names.length)];
        feedBoth(name);
        both("find");
        both("count", 6);
    }

    private void feedBoth(String text) throws Exception {
        both("end", 0);
        for (int at = 0; at < text.length(); at += 20) {
            int[] n = new int[5];
            for (int i = 0; i < 20; i++) {
                int c = at + i < text.length() ? text.charAt(at + i) : 32;
                n[i / 4] = n[i / 4] << 8 | c;
            }
            both("feed", n);
        }
        both("end", Math.min(text.length(), plain.tape.length()));
    }

    /** A raid that mostly can be. */
    private int[] randomRaid(int style) {
        OracleMat.Game g = plain.game;
        if (g == null || random.nextInt(12) == 0) {
            return new int[] {random.nextInt(12) - 1, random.nextInt(7) - 1, random.nextInt(140) - 4, random.nextInt(4) - 1};
        }
        List<Integer> mine = new ArrayList<>(g.those(g.turn, 0));
        List<Integer> theirs = new ArrayList<>(g.those(1 - g.turn, 0));
        int raider = mine.isEmpty() ? 0 : mine.get(random.nextInt(mine.size()));
        int result = style == 1 ? random.nextInt(20) == 0 ? 1 : 0 : random.nextInt(5);
        int set = 0;
        if (result == 1) {
            int most = style == 0 ? 3 : 8;
            for (int n = random.nextInt(most); n >= 0 && !theirs.isEmpty(); n--) {
                set |= 1 << theirs.get(random.nextInt(theirs.size()));
            }
        } else if (result == 3 && !theirs.isEmpty()) {
            set = theirs.get(random.nextInt(theirs.size()));
        }
        int with = (result == 1 || result == 3) && random.nextInt(3) == 0 ? 1 : 0;
        return new int[] {raider, result, set, with};
    }

    // ---- texts ----

    private void tellText(int style) throws Exception {
        String text = random.nextInt(25) == 0 ? fullText() : randomText(style);
        int spoil = random.nextInt(4);
        for (int n = 0; n < spoil && random.nextInt(2) == 0; n++) {
            text = spoiled(text);
        }
        feedBoth(text);
        both("text");
        both("fault", 0);
        both("fault", 1);
        both("count", 6);
        texts++;
        faults += plain.fault == 0 ? 0 : 1;
        faultKinds[plain.fault]++;
    }

    /** About as many RAIDS, or other LINES, as there can be. */
    private String fullText() {
        boolean raids = random.nextBoolean();
        StringBuilder s = new StringBuilder(Talk.TEAMS);
        for (int n = (raids ? 196 : 36) + random.nextInt(7); n > 0; n--) {
            s.append(raids ? "raid1out;" : "raid1out;review a won;");
        }
        return s.append(random.nextBoolean() ? "half;" : "raid 1 out;").toString();
    }

    private String spoiled(String text) {
        if (text.isEmpty()) {
            return "x";
        }
        int at = random.nextInt(text.length());
        String[] bits = {"", " ", ";", ",", "1", "0", "99", "a", "bonus", "half;", "!", "\u00e9", "\n", "\t", "card a 1 red;", "out", "raid 1 empty;", "review b lost;"};
        String bit = bits[random.nextInt(bits.length)];
        return text.substring(0, at) + bit + text.substring(Math.min(text.length(), at + random.nextInt(3)));
    }

    private String blank() {
        return random.nextInt(12) == 0 ? random.nextBoolean() ? "\n" : "  " : "";
    }

    private String teamText(String name, OracleMat.Game g, int t) {
        List<Integer> all = new ArrayList<>();
        for (int i = 1; i <= (random.nextBoolean() ? 12 : 99); i++) {
            all.add(i);
        }
        java.util.Collections.shuffle(all, random);
        int size = 7 + random.nextInt(4);
        if (random.nextInt(40) == 0) {
            size = random.nextBoolean() ? 6 : 11;
        }
        StringBuilder s = new StringBuilder("team " + name + blank() + ":");
        for (int i = 0; i < size; i++) {
            s.append(blank()).append(i == 0 ? "" : ",").append(blank()).append(all.get(i));
            if (i < 10) {
                g.shirts.get(t).add(all.get(i));
            }
        }
        return s.append(";").toString();
    }

    private String randomText(int style) {
        OracleMat.Game g = new OracleMat.Game();
        String[][] names = {{"a", "b"}, {"reds", "blues"}, {"abc", "abcd"}, {"a", "a"}, {"raid", "x"}, {"longer", "x"}, {"toolong", "x"}};
        String[] pair = names[random.nextInt(random.nextInt(10) == 0 ? 7 : 3)];
        g.names = pair;
        StringBuilder s = new StringBuilder(teamText(pair[0], g, 0) + blank() + teamText(pair[1], g, 1));
        if (g.shirts.get(0).size() < 7 || g.shirts.get(1).size() < 7) {
            return s.toString();
        }
        g.kickOff();
        int lines = random.nextInt(3) == 0 ? random.nextInt(6) : random.nextInt(220);
        for (int n = 0; n < lines && s.length() < 1950; n++) {
            String line;
            int dice = random.nextInt(100);
            int t = random.nextInt(2);
            int i = random.nextInt(g.shirts.get(t).size());
            int j = random.nextInt(g.shirts.get(t).size());
            int shirt = g.shirts.get(t).get(i);
            if (dice < 78 || style == 0 && dice < 99) {
                line = randomRaidLine(g, style);
            } else if (dice < 83) {
                int colour = random.nextInt(3);
                if (!g.canCard(t, i, colour) && random.nextInt(30) != 0) {
                    continue;
                }
                line = "card " + pair[t] + blank() + shirt + OracleMat.COLOURS.get(colour) + ";";
                if (g.canCard(t, i, colour)) {
                    g.card(t, i, colour);
                }
            } else if (dice < 89) {
                boolean can = g.status[t][i] == 0 && g.status[t][j] == 2 && g.changes[t] < 5;
                if (!can && random.nextInt(50) != 0) {
                    continue;
                }
                line = "change " + pair[t] + shirt + "for" + blank() + g.shirts.get(t).get(j) + ";";
                if (can) {
                    g.change(t, i, j);
                }
            } else if (dice < 90) {
                if (random.nextInt(style == 2 ? 1 : 8) != 0 || g.over()) {
                    continue;
                }
                line = "half" + blank() + ";";
                g.half();
            } else {
                boolean won = random.nextInt(4) != 0;
                if (!g.canReview(t) && random.nextInt(60) != 0) {
                    continue;
                }
                line = "review " + pair[t] + (won ? " won;" : " lost;");
                if (g.canReview(t)) {
                    g = g.review(t, won);
                }
            }
            s.append(blank()).append(line);
            if (g.over() && random.nextInt(3) != 0) {
                break;
            }
        }
        return s.toString();
    }

    private String randomRaidLine(OracleMat.Game g, int style) {
        List<Integer> mine = new ArrayList<>(g.those(g.turn, 0));
        List<Integer> theirs = new ArrayList<>(g.those(1 - g.turn, 0));
        java.util.Collections.shuffle(theirs, random);
        int raider = mine.isEmpty() || random.nextInt(150) == 0 ? random.nextInt(7) : mine.get(random.nextInt(mine.size()));
        int result = style == 0 ? 4 : style == 1 ? random.nextInt(20) == 0 ? 1 : 0 : random.nextInt(5);
        boolean open = g.bonusOpen() || random.nextInt(60) == 0;
        if (result == 2 && !open || (result == 1 || result == 3) && theirs.isEmpty()) {
            result = 0;
        }
        int they = 1 - g.turn;
        List<Integer> touched = new ArrayList<>();
        int tackler = -1;
        int with = 0;
        StringBuilder s = new StringBuilder("raid" + blank() + g.shirts.get(g.turn).get(raider) + blank() + OracleMat.RESULTS.get(result));
        if (result == 1) {
            for (int n = 0; n <= random.nextInt(theirs.size()); n++) {
                touched.add(theirs.get(n));
                s.append(n == 0 ? "" : ",").append(g.shirts.get(they).get(theirs.get(n)));
            }
        }
        if (result == 3) {
            tackler = theirs.get(0);
            s.append(blank()).append(g.shirts.get(they).get(tackler));
        }
        if ((result == 1 || result == 3) && open && random.nextInt(3) == 0) {
            with = 1;
            s.append(blank()).append("bonus");
        }
        g.raid(raider, result, touched, tackler, with);
        return s.append(";").toString();
    }

    // ---- questions ----

    private int randomNumber() {
        switch (random.nextInt(12)) {
            case 0: return random.nextInt(260) - 20;
            case 1: return new int[] {Integer.MIN_VALUE, Integer.MAX_VALUE, 1 << 30, -1, -2, 1000, 0x7fffff}[random.nextInt(7)];
            case 2:
            case 3: return random.nextInt(12) - 1;
            case 4:
            case 5: return random.nextInt(8);
            default: return random.nextInt(2);
        }
    }

    private void askSome(int many) throws Exception {
        for (int n = 0; n < many; n++) {
            int method = random.nextInt(REAL.size());
            if (ACTS.contains(REAL.get(method).getName())) {
                continue;
            }
            int[] given = new int[REAL.get(method).getParameterCount()];
            for (int i = 0; i < given.length; i++) {
                given[i] = randomNumber();
            }
            both(method, given);
        }
    }

    /** Every question of up to two numbers for all small ones, those of more for random ones. */
    private void askAll(int many) throws Exception {
        for (int method = 0; method < REAL.size(); method++) {
            int size = REAL.get(method).getParameterCount();
            if (ACTS.contains(REAL.get(method).getName())) {
                continue;
            }
            if (size == 0) {
                both(method);
            }
            for (int a = -1; size == 1 && a <= 12; a++) {
                both(method, a);
            }
            for (int a = -1; size == 2 && a <= 2; a++) {
                for (int b = -1; b <= 12; b++) {
                    both(method, a, b);
                }
            }
            for (int a = 0; size == 3 && a <= 1; a++) {
                for (int b = 0; b <= 10; b++) {
                    for (int c = 0; c <= 8; c++) {
                        both(method, a, b, c);
                    }
                }
            }
            for (int n = 0; size > 3 && n < 60 * many; n++) {
                int[] given = new int[size];
                for (int i = 0; i < size; i++) {
                    given[i] = random.nextInt(i == 0 ? 2 : 9);
                }
                both(method, given);
            }
        }
        for (int k = -1; plain.game != null && k <= plain.game.raids.size() + 1; k++) {
            both("lead", k);
            both("stood", 0, k);
            both("stood", 1, k);
            both("gained", random.nextInt(2), random.nextInt(10), k);
            for (int what = 0; what <= 8; what++) {
                both("raidOf", k, what);
            }
        }
    }
}
