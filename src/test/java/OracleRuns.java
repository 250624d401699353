/**
 * Long seeded runs, each call answered by the class and by a slow model that reads the document
 * word for word: it tries every plan as a whole, minute by minute, and keeps nothing between calls.
 */
public final class OracleRuns {
    private static final int CALLS = 250;
    private static final int RUNS = 240;
    /** What an object answers after so many calls is free. */
    private static final int MOST_CALLS = 512;

    private static long seed;
    private static int wrong;
    private static int calls;

    /** In a tight run there is power enough, and few channels, so that the points 3 and 4 come to bear. */
    private static boolean tight;
    private static int lowChannel;
    /** In a mighty run all sets and wide bounds let acts draw and sound as much as can be, so that wishes end at 200. */
    private static boolean mighty;

    private static int random(int bound) {
        seed = seed * 6364136223846793005L + 1442695040888963407L;
        return (int) ((seed >>> 33) % bound);
    }

    private static int between(int least, int most) {
        return least + random(most - least + 1);
    }

    // ---- the model

    private static final class Act {
        int stage, start, length, phase, draw, loud, channel;
        boolean planned = true;

        boolean plays(int minute) {
            return planned && minute >= start && minute <= start + length - 1;
        }
    }

    private static final class Model {
        final java.util.List<Integer> sets = new java.util.ArrayList<>();
        final int[] changes = {0, 0, 0};
        final int[] bounds = {60, 60, 60};
        final int[] winds = new int[17];
        final java.util.List<Act> acts = new java.util.ArrayList<>();
        final java.util.List<int[]> storms = new java.util.ArrayList<>();
        String word = "";

        int noise(int minute, int house) {
            int sum = 0;
            for (Act a : acts) {
                if (a.plays(minute)) {
                    int differ = a.stage > house ? a.stage - house : house - a.stage;
                    int over = a.loud - (10 + 10 * differ + winds[minute / 60]);
                    if (over > 0) sum += over;
                }
            }
            return sum;
        }

        int load(int minute, int phase) {
            int sum = 0;
            for (Act a : acts) if (a.plays(minute) && a.phase == phase) sum += a.draw;
            return sum;
        }

        int channels(int minute) {
            int set = 0;
            for (Act a : acts) if (a.plays(minute) && a.channel >= 0) set |= 1 << a.channel;
            return set;
        }

        boolean first() {
            for (Act a : acts) {
                if (!a.planned) continue;
                if (a.start + a.length - 1 > 999) return false;
                for (int[] s : storms) {
                    for (int m = s[1]; m <= 999 && m < s[1] + s[2]; m++) if (s[0] == a.stage && a.plays(m)) return false;
                }
                for (Act b : acts) {
                    if (b == a || !b.planned || b.stage != a.stage) continue;
                    if (a.start >= b.start && a.start < b.start + b.length + changes[a.stage]) return false;
                }
            }
            return true;
        }

        boolean second(int minute) {
            int running = 0;
            for (int s : sets) if (s <= minute) running++;
            for (int p = 0; p < 3; p++) if (load(minute, p) > 100 * running) return false;
            return true;
        }

        boolean third(int minute) {
            java.util.List<Act> on = new java.util.ArrayList<>();
            for (Act a : acts) if (a.plays(minute) && a.channel >= 0) on.add(a);
            for (Act a : on) for (Act b : on) {
                if (a != b && Math.abs(a.channel - b.channel) < 2) return false;
                for (Act c : on) {
                    if (a != b && a != c && b != c && 2 * a.channel - b.channel == c.channel) return false;
                }
            }
            return true;
        }

        boolean fourth(int minute) {
            for (int h = 0; h < 3; h++) {
                int most = minute >= 600 ? bounds[h] - 10 : bounds[h];
                if (noise(minute, h) > most) return false;
            }
            return true;
        }

        int broken() {
            if (!first()) return 1;
            int least = 0;
            for (int m = 0; m < 1000; m++) {
                boolean quiet = true;
                for (Act a : acts) quiet &= !a.plays(m);
                if (quiet) continue;
                if (!second(m)) return 2;
                if (!third(m)) least = 3;
                else if (!fourth(m) && least == 0) least = 4;
            }
            return least;
        }

        int firstStart(Act a, int from) {
            int before = a.start;
            int found = -1;
            for (int s = from; s <= 999 && found < 0; s++) {
                a.start = s;
                if (broken() == 0) found = s;
            }
            a.start = before;
            return found;
        }
    }

    // ---- one call on the model; an exception is told as a text

    private static Object ask(Model m, int call, int[] v) {
        switch (call) {
            case 0: {
                if (v[0] < 0 || v[0] > 999) return "IAE";
                if (m.sets.size() == 6) return "ISE";
                for (int s : m.sets) if (Math.abs(s - v[0]) < 10) return -1;
                m.sets.add(v[0]);
                return m.sets.size();
            }
            case 1: return change(m, m.changes, v[0], v[1], 0, 60);
            case 2: return change(m, m.bounds, v[0], v[1], 10, 300);
            case 3: return change(m, m.winds, v[0], v[1], -10, 10);
            case 4: case 5: return planned(m, call == 4, v);
            case 6: {
                if (noAct(m, v[0])) return "IOOBE";
                if (v[1] < 0 || v[1] > 999) return "IAE";
                Act a = m.acts.get(v[0]);
                if (!a.planned) return "ISE";
                int before = a.start;
                a.start = v[1];
                if (m.broken() == 0) return true;
                a.start = before;
                return false;
            }
            case 7: {
                if (noAct(m, v[0])) return "IOOBE";
                if (!m.acts.get(v[0]).planned) return "ISE";
                m.acts.get(v[0]).planned = false;
                return "nothing";
            }
            case 8: {
                if (noAct(m, v[0])) return "IOOBE";
                return m.acts.get(v[0]).planned ? m.acts.get(v[0]).start : -1;
            }
            case 9: {
                if (noAct(m, v[0])) return "IOOBE";
                if (v[1] < 0 || v[1] > 999) return "IAE";
                if (!m.acts.get(v[0]).planned) return "ISE";
                return m.firstStart(m.acts.get(v[0]), v[1]);
            }
            case 10: {
                if (v[0] < 'a' || v[0] > 'z') return "IAE";
                if (m.word.length() == 6) return "ISE";
                m.word += (char) v[0];
                return m.word.length();
            }
            case 11: {
                int had = m.word.length();
                m.word = "";
                return had;
            }
            case 12: return granted(m, v[0]);
            case 13: {
                if (noAct(m, v[0]) || v[1] < 0 || v[1] > 2) return "IOOBE";
                Act a = m.acts.get(v[0]);
                return v[1] == 0 ? a.draw : v[1] == 1 ? a.loud : a.channel;
            }
            case 14: return storm(m, v[0], v[1], v[2]);
            case 15: case 16: {
                if (v[1] < 0 || v[1] > 2) return "IOOBE";
                if (v[0] < 0 || v[0] > 999) return "IAE";
                return call == 15 ? m.load(v[0], v[1]) : m.noise(v[0], v[1]);
            }
            case 17: return v[0] < 0 || v[0] > 999 ? "IAE" : (Object) m.channels(v[0]);
            default: return m.broken() == 0;
        }
    }

    private static boolean noAct(Model m, int act) {
        return act < 0 || act >= m.acts.size();
    }

    private static Object change(Model m, int[] row, int index, int value, int least, int most) {
        if (index < 0 || index >= row.length) return "IOOBE";
        if (value < least || value > most) return "IAE";
        int before = row[index];
        row[index] = value;
        if (m.broken() == 0) return true;
        row[index] = before;
        return false;
    }

    private static Object planned(Model m, boolean keep, int[] v) {
        if (v[0] < 0 || v[0] > 2 || v[3] < 0 || v[3] > 2) return "IOOBE";
        if (v[1] < 0 || v[1] > 999 || v[2] < 1 || v[2] > 200) return "IAE";
        if (v[4] < 0 || v[4] > 200 || v[5] < 0 || v[5] > 200 || v[6] < -1 || v[6] > 31) return "IAE";
        if (m.acts.size() == 16) return "ISE";
        Act a = new Act();
        a.stage = v[0];
        a.start = v[1];
        a.length = v[2];
        a.phase = v[3];
        a.draw = v[4];
        a.loud = v[5];
        a.channel = v[6];
        m.acts.add(a);
        int broken = m.broken();
        if (!keep || broken != 0) m.acts.remove(m.acts.size() - 1);
        return !keep ? broken : broken != 0 ? -1 : m.acts.size() - 1;
    }

    private static Object granted(Model m, int act) {
        if (noAct(m, act)) return "IOOBE";
        Act a = m.acts.get(act);
        if (!a.planned) return "ISE";
        int draw = a.draw;
        int loud = a.loud;
        int channel = a.channel;
        if (m.word.equals("light")) a.draw = Math.min(200, draw + 20);
        else if (m.word.equals("dark")) a.draw = Math.max(0, draw - 20);
        else if (m.word.equals("loud")) a.loud = Math.min(200, loud + 5);
        else if (m.word.equals("soft")) a.loud = Math.max(0, loud - 5);
        else if (m.word.equals("air")) a.channel = channel == 31 ? -1 : channel + 1;
        else return "ISE";
        if (m.broken() == 0) return true;
        a.draw = draw;
        a.loud = loud;
        a.channel = channel;
        return false;
    }

    private static Object storm(Model m, int stage, int first, int minutes) {
        if (stage < 0 || stage > 2) return "IOOBE";
        if (first < 0 || first > 999 || minutes < 1 || minutes > 200) return "IAE";
        if (m.storms.size() == 5) return "ISE";
        m.storms.add(new int[] {stage, first, minutes});
        java.util.List<Act> off = new java.util.ArrayList<>();
        for (Act a : m.acts) {
            boolean hit = false;
            for (int k = first; k < first + minutes; k++) hit |= a.stage == stage && a.plays(k);
            if (hit) off.add(a);
        }
        off.sort((a, b) -> a.start - b.start);
        for (Act a : off) a.planned = false;
        int lost = 0;
        for (Act a : off) {
            a.planned = true;
            int start = first + minutes > 999 ? -1 : m.firstStart(a, first + minutes);
            if (start < 0) {
                a.planned = false;
                lost++;
            } else {
                a.start = start;
            }
        }
        return lost;
    }

    // ---- the same call on the class

    private static Object call(Festivalgrid x, int call, int[] v) {
        try {
            switch (call) {
                case 0: return x.startSet(v[0]);
                case 1: return x.setChange(v[0], v[1]);
                case 2: return x.setBound(v[0], v[1]);
                case 3: return x.setWind(v[0], v[1]);
                case 4: return x.plan(v[0], v[1], v[2], v[3], v[4], v[5], v[6]);
                case 5: return x.reason(v[0], v[1], v[2], v[3], v[4], v[5], v[6]);
                case 6: return x.move(v[0], v[1]);
                case 7: x.drop(v[0]); return "nothing";
                case 8: return x.start(v[0]);
                case 9: return x.firstStart(v[0], v[1]);
                case 10: return x.type((char) v[0]);
                case 11: return x.wipe();
                case 12: return x.grant(v[0]);
                case 13: return x.ofAct(v[0], v[1]);
                case 14: return x.storm(v[0], v[1], v[2]);
                case 15: return x.load(v[0], v[1]);
                case 16: return x.noise(v[0], v[1]);
                case 17: return x.channels(v[0]);
                default: return x.isFineByMinutes();
            }
        } catch (RuntimeException e) {
            Class<?> kind = e.getClass();
            if (kind == IndexOutOfBoundsException.class) return "IOOBE";
            if (kind == IllegalArgumentException.class) return "IAE";
            if (kind == IllegalStateException.class) return "ISE";
            return e.toString();
        }
    }

    // ---- the runs

    private static final String[] NAMES = {"startSet", "setChange", "setBound", "setWind", "plan", "reason", "move",
        "drop", "start", "firstStart", "type", "wipe", "grant", "ofAct", "storm", "load", "noise", "channels",
        "isFineByMinutes"};
    private static final String[] WORDS = {"light", "dark", "loud", "soft", "air", "airy", "lout"};
    private static final int[] ODD = {Integer.MIN_VALUE, -2, -1, 0, 1, 2, 3, 16, 17, 31, 32, 60, 61, 200, 201, 300,
        301, 999, 1000, 65536, Integer.MAX_VALUE};
    /** How often each call comes, of a hundred or so. */
    private static final int[] OFTEN = {3, 4, 6, 6, 22, 12, 12, 2, 4, 6, 2, 1, 12, 4, 2, 5, 6, 5, 2};

    private static int pick() {
        int sum = 0;
        for (int o : OFTEN) sum += o;
        int at = random(sum);
        int call = 0;
        while (at >= OFTEN[call]) at -= OFTEN[call++];
        return call;
    }

    /** A minute, in many runs out of a narrow stretch, so that acts come upon one another. */
    private static int minute(int low, int high) {
        return random(12) == 0 ? random(1000) : between(low, high);
    }

    /** A draw or a loudness from which a wish or two reach 0 or 200. */
    private static int nearAnEnd() {
        return random(2) == 0 ? random(30) : between(170, 200);
    }

    private static int[] arguments(int call, Model m, int low, int high) {
        int act = random(Math.max(1, m.acts.size()));
        int[] v = new int[7];
        switch (call) {
            case 0: v[0] = random(3) == 0 ? random(1000) : random(low + 1); break;
            case 1: v[0] = random(3); v[1] = random(2) == 0 ? random(6) : random(61); break;
            case 2: v[0] = random(3); v[1] = random(2) == 0 ? between(10, 120) : between(10, 300); break;
            case 3: v[0] = random(2) == 0 ? between(low / 60, high / 60) : random(17); v[1] = between(-10, 10); break;
            case 4: case 5:
                v[0] = random(3);
                v[1] = minute(low, high);
                v[2] = random(4) == 0 ? between(1, 200) : between(1, 25);
                v[3] = random(3);
                v[4] = random(3) == 0 ? random(201) : random(90);
                v[5] = random(8) == 0 ? random(201) : random(60);
                v[6] = random(3) == 0 ? -1 : random(32);
                if (tight) v[4] = random(60);
                if (tight && v[6] >= 0) v[6] = between(lowChannel, lowChannel + 6);
                if (mighty) {
                    v[4] = nearAnEnd();
                    v[5] = nearAnEnd();
                }
                break;
            case 6: case 9: v[0] = act; v[1] = minute(low, high); break;
            case 10: v[0] = between('a', 'z'); break;
            case 13: v[0] = act; v[1] = random(3); break;
            case 14: v[0] = random(3); v[1] = minute(low, high); v[2] = random(3) == 0 ? between(1, 200) : between(1, 40); break;
            case 15: case 16: v[0] = minute(low, high); v[1] = random(3); break;
            case 17: v[0] = minute(low, high); break;
            default: v[0] = act;
        }
        if (random(16) == 0) v[random(call == 4 || call == 5 ? 7 : 2)] = ODD[random(ODD.length)];
        if (random(60) == 0) v[random(7)] = ODD[random(ODD.length)];
        if (call == 10) v[0] = (char) v[0];
        return v;
    }

    /** Whether the run may go on: both answered the same, and the object has calls left. */
    private static boolean same(int run, int number, Festivalgrid x, Model m, int call, int[] v) {
        calls++;
        if (calls > MOST_CALLS) return false;
        Object want = ask(m, call, v);
        Object got = call(x, call, v);
        if (want.equals(got)) return true;
        wrong++;
        System.out.println("run " + run + ", call " + number + ": " + NAMES[call] + java.util.Arrays.toString(v)
            + " answered " + got + ", due is " + want);
        return false;
    }

    private static void run(int run) {
        Festivalgrid x = new Festivalgrid();
        Model m = new Model();
        calls = 0;
        int low = random(3) == 0 ? 0 : random(900);
        int high = Math.min(999, low + between(20, 300));
        mighty = run % 4 == 3;
        tight = !mighty && random(2) == 0;
        lowChannel = random(26);
        int sets = mighty ? 6 : tight ? 4 : 0;
        for (int k = 0; k < sets; k++) if (!same(run, k, x, m, 0, new int[] {10 * k})) return;
        for (int h = 0; mighty && h < 3; h++) if (!same(run, h, x, m, 2, new int[] {h, 300})) return;
        for (int number = 0; number < CALLS; number++) {
            int call = pick();
            if (call == 12 && random(4) != 0) {
                // A wish is typed whole, or hardly any run would come upon one.
                String word = WORDS[random(WORDS.length)];
                if (!same(run, number, x, m, 11, new int[7])) return;
                for (char c : word.toCharArray()) if (!same(run, number, x, m, 10, new int[] {c})) return;
            }
            if (!same(run, number, x, m, call, arguments(call, m, low, high))) return;
        }
        for (int k = 0; k < m.acts.size(); k++) {
            if (!same(run, CALLS, x, m, 8, new int[] {k})) return;
            for (int what = 0; what < 3; what++) if (!same(run, CALLS, x, m, 13, new int[] {k, what})) return;
        }
        if (calls < MOST_CALLS && !x.isFineByMinutes()) {
            wrong++;
            System.out.println("run " + run + " ends with a plan that is not fine");
        }
    }

    public static void main(String[] args) {
        int runs = args.length > 0 ? Integer.parseInt(args[0]) : RUNS;
        long base = args.length > 1 ? Long.parseLong(args[1]) : 0;
        for (int run = 0; run < runs; run++) {
            seed = base + run * 7919L + 17;
            run(run);
        }
        System.out.println(wrong == 0 ? "OracleRuns: " + runs + " runs are as due" : wrong + " runs are not as due");
        if (wrong != 0) System.exit(1);
    }
}
