/** The promises of the document one by one: ordinary inputs, the edges it names, and wrong inputs. */
public final class PromiseTests {
    private static final int NONE = Festivalgrid.NONE;
    private static final int[] BEYOND_MINUTES = {-1, 1000, Integer.MIN_VALUE, Integer.MAX_VALUE};
    private static final int[] BEYOND_THREE = {-1, 3, Integer.MIN_VALUE, Integer.MAX_VALUE};

    private static final Class<?> INDEX = IndexOutOfBoundsException.class;
    private static final Class<?> ARGUMENT = IllegalArgumentException.class;
    private static final Class<?> STATE = IllegalStateException.class;

    private static int wrong;
    private static String promise;

    private interface Call {
        void go();
    }

    private static void due(String what, Object want, Object got) {
        if (!want.equals(got)) {
            wrong++;
            System.out.println(promise + ": " + what + " answered " + got + ", due is " + want);
        }
    }

    private static void thrown(String what, Class<?> want, Call call) {
        Class<?> got = null;
        try {
            call.go();
        } catch (RuntimeException e) {
            got = e.getClass();
        }
        due(what + " throws", String.valueOf(want), String.valueOf(got));
    }

    /** A day with so many sets from its first minutes on. */
    private static Festivalgrid withSets(int count) {
        Festivalgrid x = new Festivalgrid();
        for (int i = 0; i < count; i++) {
            x.startSet(10 * i);
        }
        return x;
    }

    private static int quiet(Festivalgrid x, int stage, int start, int length) {
        return x.plan(stage, start, length, 0, 0, 0, NONE);
    }

    private static int loud(Festivalgrid x, int stage, int start, int length, int loud) {
        return x.plan(stage, start, length, 0, 0, loud, NONE);
    }

    private static int drawing(Festivalgrid x, int stage, int start, int length, int phase, int draw) {
        return x.plan(stage, start, length, phase, draw, 0, NONE);
    }

    private static int tuned(Festivalgrid x, int stage, int start, int length, int channel) {
        return x.plan(stage, start, length, 0, 0, 0, channel);
    }

    private static void word(Festivalgrid x, String word) {
        x.wipe();
        for (char letter : word.toCharArray()) {
            x.type(letter);
        }
    }

    private static boolean grant(Festivalgrid x, String word, int act) {
        word(x, word);
        return x.grant(act);
    }

    private static Festivalgrid withSixteenActs() {
        Festivalgrid x = new Festivalgrid();
        for (int i = 0; i < 16; i++) {
            due("plan " + i + " of 16", i, quiet(x, i % 3, 10 * i, 10));
        }
        return x;
    }

    private static void newObject() {
        Festivalgrid x = new Festivalgrid();
        due("NONE", -1, Festivalgrid.NONE);
        due("wipe of a new word", 0, x.wipe());
        thrown("start(0)", INDEX, () -> x.start(0));
        for (int minute = 0; minute < 1000; minute += 999) {
            for (int i = 0; i < 3; i++) {
                due("load", 0, x.load(minute, i));
                due("noise", 0, x.noise(minute, i));
            }
            due("channels", 0, x.channels(minute));
        }
        due("fine", true, x.isFineByMinutes());
        due("no set runs", 2, x.reason(0, 999, 1, 0, 1, 0, NONE));
        due("no draw needs no set", 0, x.reason(0, 0, 200, 2, 0, 0, NONE));
        due("no change-over, first", 0, quiet(x, 0, 0, 10));
        due("no change-over, second", 1, quiet(x, 0, 10, 10));
        due("bound 60 before 600", 0, x.reason(0, 599, 1, 0, 0, 70, NONE));
        due("bound 60 is passed", 4, x.reason(0, 599, 1, 0, 0, 71, NONE));
        Festivalgrid other = new Festivalgrid();
        due("objects share nothing", 0, quiet(other, 0, 0, 10));
    }

    private static void startSet() {
        Festivalgrid x = new Festivalgrid();
        due("first", 1, x.startSet(500));
        due("10 later", 2, x.startSet(510));
        due("10 earlier", 3, x.startSet(490));
        for (int near : new int[] {481, 490, 495, 500, 509, 519}) {
            due("near " + near, NONE, x.startSet(near));
        }
        due("a refused one does not count", 4, x.startSet(0));
        due("last minute", 5, x.startSet(999));
        for (int minute : BEYOND_MINUTES) {
            thrown("startSet(" + minute + ")", ARGUMENT, () -> x.startSet(minute));
        }
        due("sixth", 6, x.startSet(989));
        thrown("a seventh", STATE, () -> x.startSet(300));
        thrown("a seventh that is near", STATE, () -> x.startSet(500));
        thrown("a seventh beyond the day", ARGUMENT, () -> x.startSet(1000));
        due("power from its minute on", 0, x.reason(0, 0, 200, 0, 100, 0, NONE));
        due("one set before 490", 2, x.reason(0, 489, 2, 0, 101, 0, NONE));
        due("two sets from 490 on", 0, x.reason(0, 490, 200, 1, 200, 0, NONE));
    }

    private static void setChange() {
        Festivalgrid x = new Festivalgrid();
        quiet(x, 1, 0, 10);
        quiet(x, 1, 25, 10);
        due("as far as the gap", true, x.setChange(1, 15));
        due("one more", false, x.setChange(1, 16));
        due("refused, so the old one holds", 0, x.reason(1, 50, 1, 0, 0, 0, NONE));
        due("within the change-over", 1, x.reason(1, 49, 1, 0, 0, 0, NONE));
        due("another stage is free", true, x.setChange(0, 60));
        due("the same is fine", true, x.setChange(1, 15));
        due("less is fine", true, x.setChange(1, 0));
        due("then acts may follow at once", 0, x.reason(1, 35, 1, 0, 0, 0, NONE));
        due("60 on stage 2", true, x.setChange(2, 60));
        x.drop(1);
        due("a dropped act does not count", true, x.setChange(1, 60));
        for (int stage : BEYOND_THREE) {
            thrown("stage " + stage, INDEX, () -> x.setChange(stage, 0));
            thrown("stage " + stage + " and minutes", INDEX, () -> x.setChange(stage, 61));
        }
        for (int minutes : new int[] {-1, 61, Integer.MIN_VALUE, Integer.MAX_VALUE}) {
            thrown("minutes " + minutes, ARGUMENT, () -> x.setChange(0, minutes));
        }
        due("behind the last minute of the day", 2, quiet(x, 2, 990, 10));
    }

    private static void setBound() {
        Festivalgrid x = new Festivalgrid();
        due("300", true, x.setBound(0, 300));
        due("house 1 to 300", true, x.setBound(1, 300));
        due("house 2 to 300", true, x.setBound(2, 300));
        loud(x, 0, 100, 10, 150);
        due("noise of 140", true, x.setBound(0, 140));
        due("139 is less", false, x.setBound(0, 139));
        due("refused, so the old one holds", 4, x.reason(1, 109, 1, 0, 0, 21, NONE));
        due("and no act more than fits", 0, x.reason(1, 109, 1, 0, 0, 20, NONE));
        due("house 1 hears 130", false, x.setBound(1, 129));
        due("house 1 bound 130", true, x.setBound(1, 130));
        due("house 2 hears 120", true, x.setBound(2, 120));
        due("evening act", 1, loud(x, 0, 600, 10, 140));
        due("evening counts ten less", false, x.setBound(0, 139));
        x.drop(0);
        due("evening's own bound", true, x.setBound(0, 140));
        x.drop(1);
        due("least bound", true, x.setBound(0, 10));
        due("evening bound of 0 lets no noise", 4, x.reason(0, 600, 1, 0, 0, 11, NONE));
        due("evening bound of 0 lets silence", 0, x.reason(0, 600, 1, 0, 0, 10, NONE));
        Festivalgrid ends = new Festivalgrid();
        loud(ends, 0, 0, 1, 40);
        due("the first minute counts", false, ends.setBound(0, 29));
        ends.drop(0);
        loud(ends, 0, 999, 1, 40);
        due("the last minute counts", false, ends.setBound(0, 39));
        due("the last minute's bound", true, ends.setBound(0, 40));
        for (int house : BEYOND_THREE) {
            thrown("house " + house, INDEX, () -> x.setBound(house, 60));
            thrown("house and bound", INDEX, () -> x.setBound(house, 9));
        }
        for (int bound : new int[] {9, 301, Integer.MIN_VALUE, Integer.MAX_VALUE}) {
            thrown("bound " + bound, ARGUMENT, () -> x.setBound(0, bound));
        }
    }

    private static void setWind() {
        Festivalgrid x = new Festivalgrid();
        loud(x, 0, 110, 20, 65);
        due("hour 1 to 5 less", true, x.setWind(1, -5));
        due("hour 1 to 6 less", false, x.setWind(1, -6));
        due("hour 2 to 6 less", false, x.setWind(2, -6));
        due("refused, so hour 2 is still", 55, x.noise(120, 0));
        due("wind of hour 1", 60, x.noise(119, 0));
        due("hour 0 is without acts", true, x.setWind(0, -10));
        due("hour 2 with 10", true, x.setWind(2, 10));
        due("noise with wind 10", 45, x.noise(120, 0));
        due("wind to house 2", 25, x.noise(120, 2));
        due("last hour", true, x.setWind(16, -10));
        due("last hour's noise", 4, x.reason(1, 960, 40, 0, 0, 51, NONE));
        due("last hour's bound", 0, x.reason(1, 960, 40, 0, 0, 50, NONE));
        due("the hour before is still", 0, x.reason(1, 900, 60, 0, 0, 60, NONE));
        due("gap 0 hears all", 1, loud(x, 0, 0, 60, 60));
        due("noise with gap 0", 60, x.noise(59, 0));
        due("an hour of acts refuses no stronger wind", true, x.setWind(0, 10));
        for (int hour : new int[] {-1, 17, Integer.MIN_VALUE, Integer.MAX_VALUE}) {
            thrown("hour " + hour, INDEX, () -> x.setWind(hour, 0));
            thrown("hour and wind", INDEX, () -> x.setWind(hour, 11));
        }
        for (int wind : new int[] {-11, 11, Integer.MIN_VALUE, Integer.MAX_VALUE}) {
            thrown("wind " + wind, ARGUMENT, () -> x.setWind(0, wind));
        }
    }

    private static void plan() {
        Festivalgrid x = withSets(6);
        due("loudest bound", true, x.setBound(0, 300) && x.setBound(1, 300) && x.setBound(2, 300));
        due("most of all", 0, x.plan(2, 800, 200, 2, 200, 200, 31));
        due("a refused act has no number", NONE, quiet(x, 2, 999, 1));
        due("least of all", 1, x.plan(0, 0, 1, 0, 0, 0, 0));
        due("most draw with the first set", NONE, drawing(x, 1, 0, 1, 1, 101));
        due("a refused act draws nothing", 0, x.load(0, 1));
        due("a refused act holds no stage", 0, x.reason(1, 0, 1, 0, 0, 0, NONE));
        due("start", 800, x.start(0));
        due("draw", 200, x.ofAct(0, 0));
        due("loud", 200, x.ofAct(0, 1));
        due("channel", 31, x.ofAct(0, 2));
        due("no channel", 2, tuned(x, 1, 0, 1, NONE));
        due("no channel told", NONE, x.ofAct(2, 2));
        Festivalgrid full = withSixteenActs();
        thrown("a 17th", STATE, () -> quiet(full, 0, 900, 1));
        full.drop(3);
        thrown("a 17th behind a dropped one", STATE, () -> quiet(full, 0, 900, 1));
        thrown("a 17th that is refused", STATE, () -> quiet(full, 0, 0, 1));
        thrown("a 17th, wrong stage", INDEX, () -> quiet(full, 3, 900, 1));
        thrown("a 17th, wrong length", ARGUMENT, () -> quiet(full, 0, 900, 0));
        thrown("the 17th has no number", INDEX, () -> full.start(16));
        due("the 16th has one", 150, full.start(15));
        wrongActs(false);
    }

    private static void reason() {
        Festivalgrid x = withSets(1);
        due("bound of house 1", true, x.setBound(1, 20));
        x.plan(0, 100, 50, 0, 60, 30, 10);
        due("free", 0, x.reason(1, 100, 50, 0, 40, 10, 12));
        due("all four broken", 1, x.reason(0, 149, 1, 0, 41, 90, 10));
        due("2 to 4 broken", 2, x.reason(1, 149, 1, 0, 41, 90, 10));
        due("3 and 4 broken", 3, x.reason(1, 149, 1, 0, 40, 90, 10));
        due("4 broken", 4, x.reason(1, 149, 1, 0, 40, 90, 12));
        due("4 early and 2 late", 2, x.reason(1, 40, 61, 0, 41, 90, NONE));
        due("4 early and 3 late", 3, x.reason(1, 40, 61, 0, 0, 90, 11));
        due("beyond the day", 1, x.reason(1, 801, 200, 0, 0, 0, NONE));
        due("to the end of the day", 0, x.reason(1, 800, 200, 0, 0, 0, NONE));
        due("the same start", 1, x.reason(0, 100, 1, 0, 0, 0, NONE));
        due("around the other", 1, x.reason(0, 90, 200, 0, 0, 0, NONE));
        due("up to it", 0, x.reason(0, 90, 10, 0, 0, 0, NONE));
        due("into it", 1, x.reason(0, 90, 11, 0, 0, 0, NONE));
        due("behind it", 0, x.reason(0, 150, 1, 0, 0, 0, NONE));
        due("another phase", 0, x.reason(1, 149, 1, 1, 100, 0, NONE));
        thrown("reason plans nothing", INDEX, () -> x.start(1));
        due("load is as before", 60, x.load(100, 0));
        x.setChange(0, 5);
        due("change-over behind the new one", 1, x.reason(0, 86, 10, 0, 0, 0, NONE));
        due("just before it", 0, x.reason(0, 85, 10, 0, 0, 0, NONE));
        x.storm(1, 200, 10);
        due("in a storm", 1, x.reason(1, 209, 1, 0, 0, 0, NONE));
        due("before and behind a storm", 0, x.reason(1, 190, 10, 0, 0, 0, NONE));
        due("behind a storm", 0, x.reason(1, 210, 1, 0, 0, 0, NONE));
        due("around a storm", 1, x.reason(1, 190, 100, 0, 0, 0, NONE));
        due("a storm on another stage", 0, x.reason(2, 200, 10, 0, 0, 0, NONE));
        Festivalgrid full = withSixteenActs();
        thrown("with 16 acts", STATE, () -> full.reason(0, 900, 1, 0, 0, 0, NONE));
        wrongActs(true);
    }

    private static void wrongActs(boolean reason) {
        Festivalgrid x = new Festivalgrid();
        int[][] right = {{0, 2}, {0, 999}, {1, 200}, {0, 2}, {0, 200}, {0, 200}, {-1, 31}};
        for (int i = 0; i < 7; i++) {
            Class<?> want = i == 0 || i == 3 ? INDEX : ARGUMENT;
            int[] values = {right[i][0] - 1, right[i][1] + 1, Integer.MIN_VALUE, Integer.MAX_VALUE};
            for (int value : values) {
                int[] v = {0, 0, 1, 0, 0, 0, NONE};
                v[i] = value;
                thrown("argument " + i + " of " + value, want, () -> act(x, reason, v));
                v[0] = 3;
                v[1] = 1000;
                thrown("argument " + i + " and the stage", INDEX, () -> act(x, reason, v));
                v[0] = 0;
                v[3] = -1;
                thrown("argument " + i + " and the phase", INDEX, () -> act(x, reason, v));
            }
        }
        thrown("nothing was planned", INDEX, () -> x.start(0));
    }

    private static void act(Festivalgrid x, boolean reason, int[] v) {
        if (reason) {
            x.reason(v[0], v[1], v[2], v[3], v[4], v[5], v[6]);
        } else {
            x.plan(v[0], v[1], v[2], v[3], v[4], v[5], v[6]);
        }
    }

    private static void channelsMix() {
        Festivalgrid x = new Festivalgrid();
        tuned(x, 0, 100, 50, 10);
        due("same", 3, x.reason(1, 100, 1, 0, 0, 0, 10));
        due("one more", 3, x.reason(1, 100, 1, 0, 0, 0, 11));
        due("one less", 3, x.reason(1, 149, 1, 0, 0, 0, 9));
        due("one less, behind", 0, x.reason(1, 150, 1, 0, 0, 0, 9));
        due("none", 0, x.reason(1, 100, 1, 0, 0, 0, NONE));
        due("two more", 1, tuned(x, 1, 100, 50, 14));
        due("above both", 3, x.reason(2, 120, 1, 0, 0, 0, 18));
        due("below both", 3, x.reason(2, 120, 1, 0, 0, 0, 6));
        due("midway", 3, x.reason(2, 120, 1, 0, 0, 0, 12));
        due("beside midway", 3, x.reason(2, 120, 1, 0, 0, 0, 13));
        due("free", 0, x.reason(2, 120, 1, 0, 0, 0, 16));
        due("0", 0, x.reason(2, 120, 1, 0, 0, 0, 0));
        due("31", 0, x.reason(2, 120, 1, 0, 0, 0, 31));
        x.drop(1);
        tuned(x, 1, 100, 50, 31);
        due("wide apart: 10, 31 and no third one above", 0, x.reason(2, 100, 1, 0, 0, 0, 21));
        x.drop(0);
        tuned(x, 0, 100, 50, 1);
        due("midway of 1 and 31", 3, x.reason(2, 149, 1, 0, 0, 0, 16));
        due("not midway of 1 and 31", 0, x.reason(2, 149, 1, 0, 0, 0, 17));
        x.drop(2);
        tuned(x, 1, 100, 50, 16);
        due("31 above 1 and 16", 3, x.reason(2, 149, 1, 0, 0, 0, 31));
        due("0 and 31 do not touch", 0, x.reason(2, 99, 1, 0, 0, 0, 31));
    }

    private static void move() {
        Festivalgrid x = withSets(1);
        drawing(x, 0, 100, 20, 0, 60);
        drawing(x, 1, 130, 20, 0, 60);
        due("up to the other", true, x.move(0, 110));
        due("into the other's power", false, x.move(0, 111));
        due("stays", 110, x.start(0));
        due("to its own place", true, x.move(0, 110));
        due("over its own place", true, x.move(0, 105));
        due("load moved", 0, x.load(125, 0));
        due("load there", 60, x.load(124, 0));
        due("to the end", true, x.move(0, 980));
        due("beyond the end", false, x.move(0, 981));
        due("999 is too late", false, x.move(0, 999));
        due("to the first minute", true, x.move(0, 0));
        for (int act : new int[] {-1, 2, 16, Integer.MIN_VALUE, Integer.MAX_VALUE}) {
            thrown("act " + act, INDEX, () -> x.move(act, 1000));
        }
        x.drop(0);
        for (int start : BEYOND_MINUTES) {
            thrown("start " + start, ARGUMENT, () -> x.move(1, start));
            thrown("not planned, start " + start, ARGUMENT, () -> x.move(0, start));
        }
        thrown("not planned", STATE, () -> x.move(0, 0));
        due("the other is where it was", 130, x.start(1));
    }

    private static void drop() {
        Festivalgrid x = withSets(1);
        x.plan(0, 100, 20, 0, 60, 40, 5);
        x.plan(0, 120, 20, 0, 60, 40, 5);
        x.drop(0);
        due("not planned", NONE, x.start(0));
        due("its load is gone", 0, x.load(119, 0));
        due("its noise is gone", 0, x.noise(119, 0));
        due("its channel is gone", 0, x.channels(119));
        due("the other plays", 60, x.load(120, 0));
        thrown("again", STATE, () -> x.drop(0));
        due("numbers go on", 2, quiet(x, 0, 100, 20));
        due("the other is planned", 120, x.start(1));
        for (int act : new int[] {-1, 3, 16, Integer.MIN_VALUE, Integer.MAX_VALUE}) {
            thrown("act " + act, INDEX, () -> x.drop(act));
        }
    }

    private static void start() {
        Festivalgrid x = withSixteenActs();
        for (int i = 0; i < 16; i++) {
            due("start of " + i, 10 * i, x.start(i));
        }
        x.move(15, 999 - 9);
        due("moved", 990, x.start(15));
        x.drop(15);
        due("dropped", NONE, x.start(15));
        for (int act : new int[] {-1, 16, Integer.MIN_VALUE, Integer.MAX_VALUE}) {
            thrown("act " + act, INDEX, () -> x.start(act));
        }
    }

    private static void firstStart() {
        Festivalgrid x = withSets(1);
        x.setChange(0, 7);
        drawing(x, 0, 100, 20, 0, 60);
        drawing(x, 0, 200, 20, 0, 60);
        drawing(x, 1, 300, 20, 0, 60);
        due("where it is", 100, x.firstStart(0, 100));
        due("from the first minute", 0, x.firstStart(0, 0));
        due("up to the change-over", 173, x.firstStart(0, 173));
        due("behind the other and its change-over", 227, x.firstStart(0, 174));
        due("up to the power", 280, x.firstStart(0, 280));
        due("behind the other's power", 320, x.firstStart(0, 281));
        due("to the end", 980, x.firstStart(0, 980));
        due("no room to the end", NONE, x.firstStart(0, 981));
        due("from the last minute", NONE, x.firstStart(0, 999));
        due("it moves nothing", 100, x.start(0));
        x.storm(0, 400, 30);
        due("behind a storm", 430, x.firstStart(0, 381));
        due("before a storm", 380, x.firstStart(0, 380));
        due("an act of one minute", 3, quiet(x, 2, 5, 1));
        due("at the last minute", 999, x.firstStart(3, 999));
        Festivalgrid late = new Festivalgrid();
        late.startSet(500);
        drawing(late, 0, 500, 200, 1, 100);
        due("not before the set", 500, late.firstStart(0, 0));
        due("a long act to the end", 800, late.firstStart(0, 800));
        due("a long act beyond the end", NONE, late.firstStart(0, 801));
        Festivalgrid windy = new Festivalgrid();
        loud(windy, 0, 0, 61, 65);
        windy.setWind(1, 10);
        windy.setWind(3, -10);
        due("it may not reach the hour 3", 119, windy.firstStart(0, 119));
        due("behind the hour 3", 240, windy.firstStart(0, 120));
        due("no noise of 55 from 600 on", NONE, windy.firstStart(0, 540));
        due("up to 600", 539, windy.firstStart(0, 539));
        for (int act : new int[] {-1, 4, Integer.MIN_VALUE, Integer.MAX_VALUE}) {
            thrown("act " + act, INDEX, () -> x.firstStart(act, 1000));
        }
        x.drop(0);
        for (int from : BEYOND_MINUTES) {
            thrown("from " + from, ARGUMENT, () -> x.firstStart(1, from));
            thrown("not planned, from " + from, ARGUMENT, () -> x.firstStart(0, from));
        }
        thrown("not planned", STATE, () -> x.firstStart(0, 0));
    }

    private static void type() {
        Festivalgrid x = new Festivalgrid();
        for (char wrongLetter : new char[] {(char) 0, 'A', 'Z', '`', '{', ' ', (char) 228, (char) 65535}) {
            thrown("letter " + (int) wrongLetter, ARGUMENT, () -> x.type(wrongLetter));
        }
        due("a wrong letter is not typed", 1, x.type('a'));
        for (int i = 2; i <= 6; i++) {
            due("letter " + i, i, x.type('z'));
        }
        thrown("a seventh", STATE, () -> x.type('a'));
        thrown("a wrong seventh", ARGUMENT, () -> x.type('A'));
        due("six are kept", 6, x.wipe());
    }

    private static void wipe() {
        Festivalgrid x = new Festivalgrid();
        due("empty", 0, x.wipe());
        x.type('a');
        x.type('b');
        due("two", 2, x.wipe());
        due("empty again", 0, x.wipe());
        due("typing starts anew", 1, x.type('c'));
    }

    private static void grant() {
        Festivalgrid x = withSets(3);
        due("high bounds", true, x.setBound(0, 300) && x.setBound(1, 300) && x.setBound(2, 300));
        x.plan(0, 100, 50, 0, 170, 192, 30);
        due("light", true, grant(x, "light", 0));
        due("20 more", 190, x.ofAct(0, 0));
        due("light, the word stays", true, x.grant(0));
        due("never above 200", 200, x.ofAct(0, 0));
        due("loud", true, grant(x, "loud", 0));
        due("5 more", 197, x.ofAct(0, 1));
        due("loud again", true, x.grant(0));
        due("loudness never above 200", 200, x.ofAct(0, 1));
        due("soft", true, grant(x, "soft", 0));
        due("5 less", 195, x.ofAct(0, 1));
        due("dark", true, grant(x, "dark", 0));
        due("20 less", 180, x.ofAct(0, 0));
        due("air", true, grant(x, "air", 0));
        due("31", 31, x.ofAct(0, 2));
        due("air again", true, x.grant(0));
        due("none behind 31", NONE, x.ofAct(0, 2));
        due("air once more", true, x.grant(0));
        due("0 behind none", 0, x.ofAct(0, 2));
        due("the word is still there", 3, x.wipe());
        x.plan(1, 100, 50, 0, 19, 4, NONE);
        due("dark below 0", true, grant(x, "dark", 1));
        due("not below 0", 0, x.ofAct(1, 0));
        due("soft below 0", true, grant(x, "soft", 1));
        due("loudness not below 0", 0, x.ofAct(1, 1));
        wrongGrants(x);
        refusedGrants();
        grantsOfOneThing();
    }

    private static void wrongGrants(Festivalgrid x) {
        for (String word : new String[] {"", "l", "ligh", "lightt", "aire", "ai", "darl", "lout", "sofa", "zzzzzz"}) {
            word(x, word);
            thrown("the word " + word, STATE, () -> x.grant(0));
            for (int act : new int[] {-1, 2, 16, Integer.MIN_VALUE, Integer.MAX_VALUE}) {
                thrown("act " + act, INDEX, () -> x.grant(act));
            }
        }
        word(x, "air");
        x.drop(0);
        thrown("not planned", STATE, () -> x.grant(0));
        due("channel as before", 0, x.ofAct(0, 2));
        thrown("no such act", INDEX, () -> x.grant(2));
    }

    private static void refusedGrants() {
        Festivalgrid x = withSets(1);
        x.plan(0, 100, 50, 0, 81, 66, 4);
        x.plan(1, 149, 50, 1, 80, 0, 6);
        due("light beyond the power", false, grant(x, "light", 0));
        due("draw as before", 81, x.ofAct(0, 0));
        due("light up to the power", true, x.grant(1));
        due("loud beyond the bound", false, grant(x, "loud", 0));
        due("loudness as before", 66, x.ofAct(0, 1));
        due("air to a channel beside", false, grant(x, "air", 0));
        due("channel as before", 4, x.ofAct(0, 2));
        due("air away from it", true, x.grant(1));
        due("next channel", 7, x.ofAct(1, 2));
        tuned(x, 2, 149, 1, 0);
        due("air to 8, with 4 midway to 0", false, x.grant(1));
        due("channel as before", 7, x.ofAct(1, 2));
        due("away from the others", true, x.move(1, 150));
        due("not at once any more", true, x.grant(1));
        due("channel 8", 8, x.ofAct(1, 2));
    }

    private static void grantsOfOneThing() {
        Festivalgrid x = withSets(1);
        x.plan(0, 100, 50, 0, 50, 30, 4);
        int[][] due = {{70, 30, 4}, {50, 30, 4}, {50, 35, 4}, {50, 30, 4}, {50, 30, 5}};
        String[] words = {"light", "dark", "loud", "soft", "air"};
        for (int i = 0; i < words.length; i++) {
            due(words[i], true, grant(x, words[i], 0));
            for (int what = 0; what < 3; what++) {
                due("what " + what + " behind " + words[i], due[i][what], x.ofAct(0, what));
            }
        }
    }

    private static void ofAct() {
        Festivalgrid x = withSets(1);
        x.plan(0, 100, 50, 0, 81, 66, 4);
        x.plan(0, 200, 50, 0, 0, 0, NONE);
        int[][] due = {{81, 66, 4}, {0, 0, NONE}};
        for (int act = 0; act < 2; act++) {
            for (int what = 0; what < 3; what++) {
                due("what " + what + " of act " + act, due[act][what], x.ofAct(act, what));
            }
        }
        x.drop(0);
        due("of a dropped act", 66, x.ofAct(0, 1));
        for (int value : new int[] {-1, 3, Integer.MIN_VALUE, Integer.MAX_VALUE}) {
            thrown("what " + value, INDEX, () -> x.ofAct(0, value));
            thrown("act " + value, INDEX, () -> x.ofAct(value, 0));
        }
        thrown("act 2", INDEX, () -> x.ofAct(2, 0));
    }

    private static void storm() {
        Festivalgrid x = withSets(1);
        x.setChange(0, 5);
        drawing(x, 0, 140, 20, 0, 70);
        drawing(x, 0, 100, 35, 0, 70);
        drawing(x, 0, 50, 20, 0, 70);
        drawing(x, 0, 170, 10, 0, 70);
        drawing(x, 1, 100, 60, 1, 70);
        drawing(x, 2, 240, 30, 0, 40);
        due("two are hit, by rising starts", 0, x.storm(0, 130, 40));
        due("the earlier start first", 185, x.start(1));
        due("then the later one", 270, x.start(0));
        due("before the storm", 50, x.start(2));
        due("right behind the storm", 170, x.start(3));
        due("another stage", 100, x.start(4));
        due("fine", true, x.isFineByMinutes());
        due("its minutes are closed", 1, x.reason(0, 165, 5, 0, 0, 0, NONE));
        due("no act: nothing is lost", 0, x.storm(1, 999, 200));
        due("the last minute is closed", 1, x.reason(1, 999, 1, 0, 0, 0, NONE));
        due("before all acts", 0, x.storm(2, 0, 200));
        due("where it was", 240, x.start(5));
        due("on the last minute of an act", 0, x.storm(2, 269, 200));
        due("behind 200 minutes", 469, x.start(5));
        due("to the end of the day", 0, x.storm(0, 980, 20));
        thrown("a sixth", STATE, () -> x.storm(0, 0, 1));
        thrown("a sixth, wrong first", ARGUMENT, () -> x.storm(0, 1000, 1));
        thrown("a sixth, wrong stage", INDEX, () -> x.storm(3, 0, 1));
        lostActs();
        wrongStorms();
    }

    private static void lostActs() {
        Festivalgrid x = withSets(1);
        quiet(x, 0, 700, 100);
        quiet(x, 0, 800, 100);
        quiet(x, 0, 900, 100);
        due("two are hit, with no room behind", 2, x.storm(0, 799, 101));
        due("the first one is called off", NONE, x.start(0));
        due("the second one is called off", NONE, x.start(1));
        due("the third one is not hit", 900, x.start(2));
        Festivalgrid y = withSets(1);
        quiet(y, 0, 700, 150);
        quiet(y, 0, 850, 60);
        quiet(y, 0, 910, 60);
        due("two lost", 2, y.storm(0, 849, 62));
        due("150 minutes have no room", NONE, y.start(0));
        due("60 minutes have it", 911, y.start(1));
        due("the next 60 have none", NONE, y.start(2));
        thrown("called off: drop", STATE, () -> y.drop(0));
        thrown("called off: move", STATE, () -> y.move(2, 0));
        word(y, "air");
        thrown("called off: grant", STATE, () -> y.grant(2));
        thrown("called off: firstStart", STATE, () -> y.firstStart(2, 0));
        due("called off: ofAct", NONE, y.ofAct(2, 2));
        due("no load is left", 0, y.load(700, 0));
        due("the numbers go on", 3, quiet(y, 0, 0, 1));
    }

    private static void wrongStorms() {
        Festivalgrid x = new Festivalgrid();
        quiet(x, 0, 0, 1);
        for (int stage : BEYOND_THREE) {
            thrown("stage " + stage, INDEX, () -> x.storm(stage, 0, 1));
            thrown("stage and minutes", INDEX, () -> x.storm(stage, 0, 0));
        }
        for (int first : BEYOND_MINUTES) {
            thrown("first " + first, ARGUMENT, () -> x.storm(0, first, 1));
        }
        for (int minutes : new int[] {0, -1, 201, Integer.MIN_VALUE, Integer.MAX_VALUE}) {
            thrown("minutes " + minutes, ARGUMENT, () -> x.storm(0, 0, minutes));
        }
        due("no storm came", 0, x.start(0));
        for (int i = 0; i < 5; i++) {
            due("storm " + i, 0, x.storm(0, i, 1));
            due("start behind storm " + i, i + 1, x.start(0));
        }
        thrown("a sixth", STATE, () -> x.storm(2, 0, 200));
    }

    private static void load() {
        Festivalgrid x = withSets(3);
        x.plan(0, 100, 50, 1, 40, 0, NONE);
        x.plan(1, 120, 50, 1, 30, 0, NONE);
        x.plan(2, 120, 50, 2, 20, 0, NONE);
        due("before", 0, x.load(99, 1));
        due("first minute", 40, x.load(100, 1));
        due("together", 70, x.load(149, 1));
        due("behind the first", 30, x.load(150, 1));
        due("last minute", 30, x.load(169, 1));
        due("behind all", 0, x.load(170, 1));
        due("phase 0", 0, x.load(130, 0));
        due("phase 2", 20, x.load(130, 2));
        wrongMinutes(true);
        Festivalgrid y = withSets(2);
        due("100 for a set", 0, drawing(y, 0, 0, 10, 0, 100));
        due("none is left for another stage", 2, y.reason(1, 9, 1, 0, 1, 0, NONE));
        due("a minute later there are two sets", 0, y.reason(1, 10, 1, 0, 200, 0, NONE));
    }

    private static void noise() {
        Festivalgrid x = new Festivalgrid();
        loud(x, 0, 100, 50, 45);
        loud(x, 2, 120, 50, 25);
        due("before", 0, x.noise(99, 0));
        due("house 0", 35, x.noise(100, 0));
        due("house 1", 25, x.noise(100, 1));
        due("house 2", 15, x.noise(100, 2));
        due("none below 0 is added", 35, x.noise(149, 0));
        due("both at house 1", 30, x.noise(149, 1));
        due("both at house 2", 30, x.noise(149, 2));
        due("behind the first", 15, x.noise(150, 2));
        due("behind all", 0, x.noise(170, 2));
        due("wind of hour 2", true, x.setWind(2, 7));
        due("with wind", 28 - 10 + 8 - 10 + 2, x.noise(120, 1));
        due("without wind", 25, x.noise(119, 1));
        due("bound in the day", 0, x.reason(1, 599, 1, 0, 0, 70, NONE));
        due("bound in the evening", 4, x.reason(1, 600, 1, 0, 0, 61, NONE));
        due("ten less in the evening", 0, x.reason(1, 600, 1, 0, 0, 60, NONE));
        due("into the evening", 4, x.reason(1, 500, 101, 0, 0, 61, NONE));
        due("up to the evening", 0, x.reason(1, 500, 100, 0, 0, 61, NONE));
        wrongMinutes(false);
    }

    private static void wrongMinutes(boolean load) {
        Festivalgrid x = new Festivalgrid();
        for (int minute : BEYOND_MINUTES) {
            thrown("minute " + minute, ARGUMENT, () -> look(x, load, minute, 0));
            thrown("minute and index", INDEX, () -> look(x, load, minute, 3));
        }
        for (int index : BEYOND_THREE) {
            thrown("index " + index, INDEX, () -> look(x, load, 0, index));
        }
    }

    private static void look(Festivalgrid x, boolean load, int minute, int index) {
        if (load) {
            x.load(minute, index);
        } else {
            x.noise(minute, index);
        }
    }

    private static void channels() {
        Festivalgrid x = new Festivalgrid();
        tuned(x, 0, 100, 50, 0);
        tuned(x, 1, 120, 50, 31);
        tuned(x, 2, 120, 50, NONE);
        due("before", 0, x.channels(99));
        due("channel 0", 1, x.channels(100));
        due("both", 1 | Integer.MIN_VALUE, x.channels(149));
        due("31 is the sign", Integer.MIN_VALUE, x.channels(169));
        due("behind all", 0, x.channels(170));
        for (int minute : BEYOND_MINUTES) {
            thrown("minute " + minute, ARGUMENT, () -> x.channels(minute));
        }
    }

    private static void isFineByMinutes() {
        Festivalgrid x = withSets(6);
        due("empty", true, x.isFineByMinutes());
        for (int stage = 0; stage < 3; stage++) {
            x.setChange(stage, 60);
            x.plan(stage, 800, 200, 0, 200, 20, 4 * stage * stage);
        }
        due("a full evening", true, x.isFineByMinutes());
        x.storm(1, 900, 5);
        due("a storm", true, x.isFineByMinutes());
        due("the act is called off", NONE, x.start(1));
        x.drop(0);
        due("a drop", true, x.isFineByMinutes());
        due("refused", false, x.setBound(2, 19));
        due("fine all the same", true, x.isFineByMinutes());
        due("full", true, withSixteenActs().isFineByMinutes());
    }

    private static void run(String name, Call test) {
        promise = name;
        test.go();
    }

    public static void main(String[] args) {
        run("promise 1", PromiseTests::newObject);
        run("promise 2", PromiseTests::startSet);
        run("promise 3", PromiseTests::setChange);
        run("promise 4", PromiseTests::setBound);
        run("promise 5", PromiseTests::setWind);
        run("promise 6", PromiseTests::plan);
        run("promise 7", PromiseTests::reason);
        run("promise 7, point 3", PromiseTests::channelsMix);
        run("promise 8", PromiseTests::move);
        run("promise 9", PromiseTests::drop);
        run("promise 10", PromiseTests::start);
        run("promise 11", PromiseTests::firstStart);
        run("promise 12", PromiseTests::type);
        run("promise 13", PromiseTests::wipe);
        run("promise 14", PromiseTests::grant);
        run("promise 15", PromiseTests::ofAct);
        run("promise 16", PromiseTests::storm);
        run("promise 17", PromiseTests::load);
        run("promise 18", PromiseTests::noise);
        run("promise 19", PromiseTests::channels);
        run("promise 20", PromiseTests::isFineByMinutes);
        System.out.println(wrong == 0 ? "PromiseTests: all answers are as due" : wrong + " answers are not as due");
        if (wrong != 0) System.exit(1);
    }
}
