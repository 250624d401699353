/** Each sentence of the document that names a boundary case has a test of its own here, under the sentence's words. */
public final class BoundaryTests {
    private static final int NONE = Festivalgrid.NONE;
    private static final int LEAST = Integer.MIN_VALUE;
    private static final int MOST = Integer.MAX_VALUE;

    private static final String INDEX = "IndexOutOfBoundsException";
    private static final String ARGUMENT = "IllegalArgumentException";
    private static final String STATE = "IllegalStateException";

    private static int sentences;
    private static int wrong;
    private static String sentence;

    private interface Call {
        void go();
    }

    /** A call of the face with the first one or two of its arguments left open. */
    private interface Ask {
        Object go(int first, int second);
    }

    private static void due(String what, Object want, Object got) {
        if (!want.equals(got)) {
            wrong++;
            System.out.println("\"" + sentence + "\": " + what + " answered " + got + ", due is " + want);
        }
    }

    private static String thrownBy(Call call) {
        try {
            call.go();
            return "nothing";
        } catch (RuntimeException e) {
            return e.getClass().getSimpleName();
        }
    }

    private static void thrown(String what, String want, Call call) {
        due(what + " throws", want, thrownBy(call));
    }

    /** The values from the first to the last one are let pass, and those just outside and far outside are not. */
    private static void range(String what, int first, int last, String want, Ask ask) {
        for (int inside : new int[] {first, first + 1, last - 1, last}) {
            thrown(what + " " + inside, "nothing", () -> ask.go(inside, 0));
        }
        for (int outside : new int[] {first - 1, last + 1, LEAST, MOST}) {
            thrown(what + " " + outside, want, () -> ask.go(outside, 0));
        }
    }

    // ---- days and acts

    private static Festivalgrid day() {
        return new Festivalgrid();
    }

    private static Festivalgrid dayWithSets(int count) {
        Festivalgrid x = day();
        for (int i = 0; i < count; i++) {
            due("set " + (i + 1), i + 1, x.startSet(10 * i));
        }
        return x;
    }

    private static Festivalgrid dayWithAct() {
        Festivalgrid x = day();
        due("the act", 0, x.plan(0, 100, 10, 0, 0, 0, NONE));
        return x;
    }

    private static Festivalgrid dayWithActs(int count) {
        Festivalgrid x = day();
        for (int i = 0; i < count; i++) {
            due("act " + i, i, quiet(x, i % 3, 10 * i, 10));
        }
        return x;
    }

    private static Festivalgrid dayWithStorms(int count) {
        Festivalgrid x = dayWithAct();
        for (int i = 0; i < count; i++) {
            due("storm " + (i + 1), 0, x.storm(2, 900 + i, 1));
        }
        return x;
    }

    private static void loudBounds(Festivalgrid x) {
        for (int house = 0; house < 3; house++) {
            due("bound 300", true, x.setBound(house, 300));
        }
    }

    private static int quiet(Festivalgrid x, int stage, int start, int length) {
        return x.plan(stage, start, length, 0, 0, 0, NONE);
    }

    private static int loud(Festivalgrid x, int stage, int start, int length, int loud) {
        return x.plan(stage, start, length, 0, 0, loud, NONE);
    }

    private static int drawing(Festivalgrid x, int stage, int start, int length, int phase, int draw) {
        return x.plan(stage, start, length, phase, draw, 0, NONE);
    }

    private static int tuned(Festivalgrid x, int stage, int start, int length, int channel) {
        return x.plan(stage, start, length, 0, 0, 0, channel);
    }

    private static int quietReason(Festivalgrid x, int stage, int start, int length) {
        return x.reason(stage, start, length, 0, 0, 0, NONE);
    }

    private static int loudReason(Festivalgrid x, int stage, int start, int length, int loud) {
        return x.reason(stage, start, length, 0, 0, loud, NONE);
    }

    private static int drawReason(Festivalgrid x, int stage, int start, int length, int phase, int draw) {
        return x.reason(stage, start, length, phase, draw, 0, NONE);
    }

    private static int channelReason(Festivalgrid x, int stage, int start, int channel) {
        return x.reason(stage, start, 1, 0, 0, 0, channel);
    }

    private static void word(Festivalgrid x, String word) {
        x.wipe();
        for (char letter : word.toCharArray()) {
            x.type(letter);
        }
    }

    private static boolean grant(Festivalgrid x, String word, int act) {
        word(x, word);
        return x.grant(act);
    }

    private static void of(Festivalgrid x, int act, int draw, int loud, int channel) {
        due("draw of " + act, draw, x.ofAct(act, 0));
        due("loudness of " + act, loud, x.ofAct(act, 1));
        due("channel of " + act, channel, x.ofAct(act, 2));
    }

    // ---- the terms: exceptions, ranges, numbers

    private static void firstNamedException() {
        Festivalgrid sets = dayWithSets(6);
        thrown("startSet: minute, and 6 sets", ARGUMENT, () -> sets.startSet(1000));
        thrown("startSet: minute below, and 6 sets", ARGUMENT, () -> sets.startSet(-1));
        Festivalgrid x = dayWithAct();
        thrown("setChange: stage and minutes", INDEX, () -> x.setChange(3, 61));
        thrown("setBound: house and bound", INDEX, () -> x.setBound(-1, 301));
        thrown("setWind: hour and wind", INDEX, () -> x.setWind(17, -11));
        thrown("load: phase and minute", INDEX, () -> x.load(1000, 3));
        thrown("noise: house and minute", INDEX, () -> x.noise(-1, -1));
        thrown("move: act and start", INDEX, () -> x.move(1, 1000));
        thrown("firstStart: act and from", INDEX, () -> x.firstStart(-1, -1));
        word(x, "lights");
        thrown("grant: act, and no wish", INDEX, () -> x.grant(1));
        thrown("ofAct: act and what", INDEX, () -> x.ofAct(1, 3));
        x.drop(0);
        thrown("move: start, and not planned", ARGUMENT, () -> x.move(0, 1000));
        thrown("firstStart: from, and not planned", ARGUMENT, () -> x.firstStart(0, 1000));
        thrown("grant: not planned, and no wish", STATE, () -> x.grant(0));
        Festivalgrid letters = day();
        word(letters, "abcdef");
        thrown("type: letter, and 6 letters", ARGUMENT, () -> letters.type('{'));
        Festivalgrid storms = dayWithStorms(5);
        thrown("storm: stage and first", INDEX, () -> storms.storm(3, 1000, 1));
        thrown("storm: stage and minutes", INDEX, () -> storms.storm(-1, 0, 0));
        thrown("storm: stage, and 5 storms", INDEX, () -> storms.storm(3, 0, 1));
        thrown("storm: first, and 5 storms", ARGUMENT, () -> storms.storm(0, 1000, 1));
        thrown("storm: minutes, and 5 storms", ARGUMENT, () -> storms.storm(0, 0, 201));
    }

    /** Every pair of wrong arguments of plan and reason, with 16 acts and without. */
    private static void firstNamedExceptionOfPlan() {
        int[] wrongValues = {3, 1000, 0, -1, 201, -1, 32};
        for (int acts = 0; acts <= 16; acts += 16) {
            Festivalgrid x = dayWithActs(acts);
            for (int i = 0; i < 7; i++) {
                for (int j = i; j < 7; j++) {
                    int[] v = {0, 500, 1, 0, 0, 0, NONE};
                    v[i] = wrongValues[i];
                    v[j] = wrongValues[j];
                    String want = i == 0 || i == 3 || j == 3 ? INDEX : ARGUMENT;
                    String what = "arguments " + i + " and " + j + " with " + acts + " acts";
                    thrown("plan: " + what, want, () -> x.plan(v[0], v[1], v[2], v[3], v[4], v[5], v[6]));
                    thrown("reason: " + what, want, () -> x.reason(v[0], v[1], v[2], v[3], v[4], v[5], v[6]));
                }
            }
        }
    }

    private static void minutesOfTheDay() {
        // A new day for each set, as sets near each other and more than six would come into the way.
        range("startSet", 0, 999, ARGUMENT, (m, n) -> day().startSet(m));
        Festivalgrid x = dayWithAct();
        range("plan", 0, 999, ARGUMENT, (m, n) -> x.plan(1, m, 1, 0, 0, 0, NONE));
        range("reason", 0, 999, ARGUMENT, (m, n) -> quietReason(x, 0, m, 1));
        range("firstStart", 0, 999, ARGUMENT, (m, n) -> x.firstStart(0, m));
        range("move", 0, 999, ARGUMENT, (m, n) -> x.move(0, m));
        range("storm", 0, 999, ARGUMENT, (m, n) -> x.storm(2, m, 1));
        range("load", 0, 999, ARGUMENT, (m, n) -> x.load(m, 0));
        range("noise", 0, 999, ARGUMENT, (m, n) -> x.noise(m, 0));
        range("channels", 0, 999, ARGUMENT, (m, n) -> x.channels(m));
    }

    private static void hoursOfMinutes() {
        for (int hour = 0; hour <= 16; hour++) {
            Festivalgrid x = day();
            due("wind of hour " + hour, true, x.setWind(hour, -10));
            int first = 60 * hour;
            int last = Math.min(first + 59, 999);
            for (int start = 0; start < 1000; start += 200) {
                due("an act at " + start, start / 200, loud(x, 0, start, 200, 20));
            }
            due("first minute of hour " + hour, 20, x.noise(first, 0));
            due("last minute of hour " + hour, 20, x.noise(last, 0));
            if (first > 0) {
                due("minute before hour " + hour, 10, x.noise(first - 1, 0));
            }
            if (last < 999) {
                due("minute behind hour " + hour, 10, x.noise(last + 1, 0));
            }
        }
    }

    private static void stagesHousesPhases() {
        Festivalgrid x = day();
        range("plan's stage", 0, 2, INDEX, (i, n) -> quiet(x, i, 0, 1));
        range("plan's phase", 0, 2, INDEX, (i, n) -> drawing(x, 0, 500, 1, i, 0));
        range("reason's stage", 0, 2, INDEX, (i, n) -> quietReason(x, i, 0, 1));
        range("reason's phase", 0, 2, INDEX, (i, n) -> drawReason(x, 0, 0, 1, i, 0));
        range("setChange's stage", 0, 2, INDEX, (i, n) -> x.setChange(i, 0));
        range("setBound's house", 0, 2, INDEX, (i, n) -> x.setBound(i, 60));
        range("storm's stage", 0, 2, INDEX, (i, n) -> x.storm(i, 999, 1));
        range("load's phase", 0, 2, INDEX, (i, n) -> x.load(0, i));
        range("noise's house", 0, 2, INDEX, (i, n) -> x.noise(0, i));
    }

    private static void numbersOfActs() {
        Festivalgrid x = dayWithActs(3);
        due("a refused one", NONE, quiet(x, 0, 0, 10));
        x.drop(1);
        due("its number is not given again", 3, quiet(x, 1, 10, 10));
        due("a storm", 0, x.storm(0, 5, 2));
        due("behind the storm it has its number", 7, x.start(0));
        for (int i = 4; i < 16; i++) {
            due("number " + i, i, quiet(x, 2, 500 + i, 1));
        }
        thrown("a 17th", STATE, () -> quiet(x, 2, 900, 1));
        due("the last one's start", 515, x.start(15));
        numbersThatAreNoActs(x, 16);
        numbersThatAreNoActs(day(), 0);
        numbersThatAreNoActs(dayWithAct(), 1);
    }

    private static void numbersThatAreNoActs(Festivalgrid x, int count) {
        word(x, "air");
        for (int act : new int[] {-1, count, 16, LEAST, MOST}) {
            thrown("start " + act, INDEX, () -> x.start(act));
            thrown("move " + act, INDEX, () -> x.move(act, 0));
            thrown("drop " + act, INDEX, () -> x.drop(act));
            thrown("firstStart " + act, INDEX, () -> x.firstStart(act, 0));
            thrown("grant " + act, INDEX, () -> x.grant(act));
            thrown("ofAct " + act, INDEX, () -> x.ofAct(act, 0));
        }
    }

    private static void minutesOfAnAct() {
        for (int length : new int[] {1, 2, 199, 200}) {
            Festivalgrid x = dayWithSets(1);
            due("the act", 0, x.plan(1, 300, length, 2, 70, 50, 9));
            due("load before", 0, x.load(299, 2));
            due("load at first", 70, x.load(300, 2));
            due("load at last", 70, x.load(300 + length - 1, 2));
            due("load behind", 0, x.load(300 + length, 2));
            due("noise before", 0, x.noise(299, 1));
            due("noise at first", 40, x.noise(300, 1));
            due("noise at last", 40, x.noise(300 + length - 1, 1));
            due("noise behind", 0, x.noise(300 + length, 1));
            due("channels before", 0, x.channels(299));
            due("channels at first", 1 << 9, x.channels(300));
            due("channels at last", 1 << 9, x.channels(300 + length - 1));
            due("channels behind", 0, x.channels(300 + length));
        }
    }

    private static void plannedUntil() {
        Festivalgrid x = dayWithSets(1);
        due("an act", 0, x.plan(0, 100, 10, 0, 90, 60, 7));
        due("another one", 1, x.plan(1, 800, 200, 0, 90, 40, 9));
        x.drop(0);
        due("called off", 1, x.storm(1, 999, 1));
        word(x, "soft");
        for (int act = 0; act < 2; act++) {
            int gone = act;
            due("start of " + act, NONE, x.start(act));
            thrown("drop " + act, STATE, () -> x.drop(gone));
            thrown("move " + act, STATE, () -> x.move(gone, 0));
            thrown("firstStart " + act, STATE, () -> x.firstStart(gone, 0));
            thrown("grant " + act, STATE, () -> x.grant(gone));
        }
        of(x, 0, 90, 60, 7);
        of(x, 1, 90, 40, 9);
        for (int minute : new int[] {100, 109, 800, 999}) {
            due("load", 0, x.load(minute, 0));
            due("noise", 0, x.noise(minute, 0));
            due("channels", 0, x.channels(minute));
        }
        due("both places are free", 0, x.reason(0, 100, 10, 0, 100, 70, 7) + x.reason(1, 800, 199, 0, 100, 60, 9));
    }

    // ---- the four points

    private static void changeOvers() {
        for (int change : new int[] {0, 1, 59, 60}) {
            Festivalgrid x = day();
            due("change-over", true, x.setChange(1, change));
            due("an act", 0, quiet(x, 1, 300, 40));
            due("a later one too early", 1, quietReason(x, 1, 339 + change, 5));
            due("a later one", 0, quietReason(x, 1, 340 + change, 5));
            due("an earlier one too long", 1, quietReason(x, 1, 290 - change, 11));
            due("an earlier one", 0, quietReason(x, 1, 290 - change, 10));
            due("the same start", 1, quietReason(x, 1, 300, 5));
            due("within it", 1, quietReason(x, 1, 310, 5));
            due("around it", 1, quietReason(x, 1, 290, 100));
            due("another stage", 0, quietReason(x, 0, 300, 40) + quietReason(x, 2, 300, 40));
        }
        Festivalgrid end = day();
        due("a change-over may reach beyond the day", true, end.setChange(0, 60) && quiet(end, 0, 999, 1) == 0);
    }

    private static void changeOversOfThree() {
        Festivalgrid x = dayWithActs(0);
        due("early", 0, quiet(x, 0, 100, 10));
        due("late", 1, quiet(x, 0, 130, 10));
        due("change-over of 5", true, x.setChange(0, 5));
        due("just between", 0, quietReason(x, 0, 115, 10));
        due("too early", 1, quietReason(x, 0, 114, 10));
        due("too long", 1, quietReason(x, 0, 115, 11));
    }

    private static void noneInAStorm() {
        Festivalgrid x = day();
        due("a storm", 0, x.storm(1, 300, 20));
        due("up to it", 0, quietReason(x, 1, 290, 10));
        due("into it", 1, quietReason(x, 1, 290, 11));
        due("its last minute", 1, quietReason(x, 1, 319, 1));
        due("behind it", 0, quietReason(x, 1, 320, 1));
        due("within it", 1, quietReason(x, 1, 305, 2));
        due("around it", 1, quietReason(x, 1, 200, 200));
        due("on another stage", 0, quietReason(x, 0, 300, 20) + quietReason(x, 2, 300, 20));
        due("an act up to it", 0, quiet(x, 1, 290, 10));
        due("a change-over may lie in it", true, x.setChange(1, 60));
        due("no move into it", false, x.move(0, 291));
        due("a move behind it", true, x.move(0, 320));
        due("a second storm", 0, x.storm(1, 500, 1));
        due("the first one still closes the stage", 1, quietReason(x, 1, 319, 1));
        due("a single minute", 1, quietReason(x, 1, 500, 1));
    }

    private static void noneBeyondTheDay() {
        Festivalgrid x = day();
        due("200 to the end", 0, quietReason(x, 0, 800, 200));
        due("200 beyond it", 1, quietReason(x, 0, 801, 200));
        due("1 at the end", 0, quietReason(x, 0, 999, 1));
        due("2 beyond it", 1, quietReason(x, 0, 999, 2));
        due("not planned", NONE, quiet(x, 0, 991, 10));
        due("planned", 0, quiet(x, 0, 990, 10));
        due("not moved", false, x.move(0, 991));
        due("no start", NONE, x.firstStart(0, 991));
        due("a start", 990, x.firstStart(0, 990));
    }

    private static void powerOfSets() {
        Festivalgrid x = day();
        due("draw 0 without sets", 0, drawReason(x, 0, 500, 1, 1, 0));
        due("draw 1 without sets", 2, drawReason(x, 0, 500, 1, 1, 1));
        due("a set", 1, x.startSet(500));
        due("100", 0, drawReason(x, 0, 500, 200, 1, 100));
        due("101", 2, drawReason(x, 0, 500, 1, 1, 101));
        due("a minute before the set", 2, drawReason(x, 0, 499, 10, 1, 1));
        due("99 planned", 0, drawing(x, 0, 500, 100, 1, 99));
        due("1 with it", 0, drawReason(x, 1, 599, 1, 1, 1));
        due("2 with it", 2, drawReason(x, 1, 599, 1, 1, 2));
        due("2 behind it", 0, drawReason(x, 1, 600, 1, 1, 2));
        due("on the other phases", 0, drawReason(x, 1, 500, 100, 0, 100) + drawReason(x, 2, 500, 100, 2, 100));
        due("a second set", 2, x.startSet(550));
        due("2 from the second set on", 0, drawReason(x, 1, 550, 50, 1, 101));
        due("not before", 2, drawReason(x, 1, 549, 50, 1, 2));
    }

    private static void powerOfSixSets() {
        Festivalgrid x = dayWithSets(6);
        due("stage 0", 0, drawing(x, 0, 50, 10, 2, 200));
        due("stage 1", 1, drawing(x, 1, 50, 10, 2, 200));
        due("600 of six sets", 0, drawReason(x, 2, 50, 10, 2, 200));
        due("the third act", 2, drawing(x, 2, 50, 10, 2, 200));
        due("600 are played", 600, x.load(59, 2));
        due("a fourth one would be on the stage of another", 1, drawReason(x, 2, 59, 1, 2, 1));
        Festivalgrid y = dayWithSets(5);
        due("stage 0", 0, drawing(y, 0, 50, 10, 2, 200));
        due("stage 1", 1, drawing(y, 1, 50, 10, 2, 200));
        due("500 of five sets", 0, drawReason(y, 2, 50, 10, 2, 100));
        due("501 of five sets", 2, drawReason(y, 2, 50, 10, 2, 101));
    }

    private static void channelsThatDiffer() {
        for (int channel = 0; channel <= 31; channel++) {
            Festivalgrid x = day();
            due("an act", 0, tuned(x, 0, 100, 10, channel));
            for (int other = 0; other <= 31; other++) {
                int want = Math.abs(channel - other) < 2 ? 3 : 0;
                due(other + " beside " + channel, want, channelReason(x, 1, 109, other));
            }
            due("none beside " + channel, 0, channelReason(x, 1, 109, NONE));
            due("at another minute", 0, channelReason(x, 1, 110, channel) + channelReason(x, 1, 99, channel));
        }
        Festivalgrid none = day();
        due("without a channel", 0, tuned(none, 0, 100, 10, NONE));
        due("another one without", 0, channelReason(none, 1, 100, NONE));
        due("0 beside none", 0, channelReason(none, 1, 100, 0));
    }

    private static void channelsOfThree() {
        for (int first = 0; first <= 31; first++) {
            for (int second = first + 2; second <= 31; second++) {
                Festivalgrid x = day();
                due("an act", 0, tuned(x, 0, 100, 10, first));
                due("another", 1, tuned(x, 1, 105, 10, second));
                for (int third = 0; third <= 31; third++) {
                    boolean near = Math.abs(third - first) < 2 || Math.abs(third - second) < 2;
                    boolean even = 2 * first - second == third || 2 * second - first == third
                        || 2 * third - first == second;
                    String what = first + ", " + second + ", " + third;
                    due(what, near || even ? 3 : 0, channelReason(x, 2, 109, third));
                    due(what + " when one is over", Math.abs(third - second) < 2 ? 3 : 0, channelReason(x, 2, 110, third));
                }
            }
        }
    }

    private static void noiseAtMostTheBound() {
        for (int house = 0; house < 3; house++) {
            for (int bound : new int[] {10, 11, 60, 189, 190, 191}) {
                Festivalgrid x = day();
                loudBounds(x);
                due("bound " + bound, true, x.setBound(house, bound));
                int most = Math.min(200, bound + 10);
                int evening = bound;
                due("at the bound by day", 0, loudReason(x, house, 599, 1, most));
                due("above it by day", most == 200 ? 0 : 4, loudReason(x, house, 599, 1, Math.min(200, most + 1)));
                due("ten less at 600", 0, loudReason(x, house, 600, 1, evening));
                due("more at 600", 4, loudReason(x, house, 600, 1, evening + 1));
                due("ten less at 999", 0, loudReason(x, house, 999, 1, evening));
                due("more at 999", 4, loudReason(x, house, 999, 1, evening + 1));
                due("up to 600", 0, loudReason(x, house, 590, 10, most));
                due("into 600", 4, loudReason(x, house, 590, 11, evening + 1));
            }
        }
    }

    private static void noiseIsASum() {
        Festivalgrid x = day();
        loudBounds(x);
        due("just no noise", 0, loud(x, 0, 100, 10, 10));
        due("no noise at its own house", 0, x.noise(100, 0));
        due("1 above the gap", 1, loud(x, 0, 200, 10, 11));
        due("1 at its own house", 1, x.noise(200, 0));
        due("0 at the next house", 0, x.noise(200, 1));
        due("0 at the last house", 0, x.noise(200, 2));
        due("with it", 2, loud(x, 1, 200, 10, 35));
        due("none below 0 is added to 15", 1 + 15, x.noise(200, 0));
        due("none below 0 is added to 25", 25, x.noise(200, 1));
        due("none below 0 is added to another 15", 15, x.noise(200, 2));
        due("loudness 0", 3, loud(x, 2, 200, 10, 0));
        due("it takes nothing away", 15, x.noise(200, 2));
        due("the loudest ones", true, loud(x, 0, 300, 1, 200) == 4 && loud(x, 2, 300, 1, 130) == 5);
        due("190 and 100", 290, x.noise(300, 0));
        due("180 and 110", 290, x.noise(300, 1));
        due("170 and 120", 290, x.noise(300, 2));
        due("300 is at most the bound", 0, loudReason(x, 1, 300, 1, 20));
        due("301 is above it", 4, loudReason(x, 1, 300, 1, 31));
    }

    private static void gaps() {
        for (int wind = -10; wind <= 10; wind++) {
            for (int stage = 0; stage < 3; stage++) {
                Festivalgrid x = day();
                loudBounds(x);
                due("wind " + wind, true, x.setWind(3, wind));
                due("an act", 0, loud(x, stage, 180, 60, 100));
                for (int house = 0; house < 3; house++) {
                    int want = 100 - 10 - 10 * Math.abs(stage - house) - wind;
                    due("stage " + stage + ", house " + house + ", wind " + wind, want, x.noise(180, house));
                    due("the hour's last minute", want, x.noise(239, house));
                }
            }
        }
    }

    private static void atFirst() {
        for (int stage = 0; stage < 3; stage++) {
            Festivalgrid x = day();
            due("an act", 0, quiet(x, stage, 0, 10));
            due("no change-over", 0, quietReason(x, stage, 10, 1));
            due("bound of 60", 0, loudReason(x, stage, 100, 1, 70));
            due("not more", 4, loudReason(x, stage, 100, 1, 71));
        }
        for (int hour = 0; hour < 17; hour++) {
            Festivalgrid x = day();
            due("an act", 0, loud(x, 1, 60 * hour, 1, 50));
            due("no wind in hour " + hour, 40, x.noise(60 * hour, 1));
        }
        Festivalgrid x = day();
        for (int minute = 0; minute < 1000; minute += 27) {
            for (int phase = 0; phase < 3; phase++) {
                due("no set at " + minute, 2, drawReason(x, 0, minute, 1, phase, 1));
            }
        }
    }

    private static void setsRunToTheEnd() {
        Festivalgrid x = day();
        due("a set", 1, x.startSet(999));
        due("the last minute", 0, drawReason(x, 0, 999, 1, 0, 100));
        due("the minute before", 2, drawReason(x, 0, 998, 1, 0, 1));
        Festivalgrid y = day();
        due("a set", 1, y.startSet(0));
        for (int minute : new int[] {0, 1, 599, 600, 998, 999}) {
            due("power at " + minute, 0, drawReason(y, 0, minute, 1, 2, 100));
            due("no more at " + minute, 2, drawReason(y, 0, minute, 1, 2, 101));
        }
    }

    private static void setsApart() {
        for (int away = -12; away <= 12; away++) {
            Festivalgrid x = day();
            due("a set", 1, x.startSet(300));
            due("another far away", 2, x.startSet(700));
            due(away + " away from the first", Math.abs(away) < 10 ? NONE : 3, x.startSet(300 + away));
        }
        Festivalgrid x = day();
        due("a set", 1, x.startSet(300));
        due("20 later", 2, x.startSet(320));
        due("just between", 3, x.startSet(310));
        due("the minute 0 is not near", 4, x.startSet(0));
        due("behind 0", NONE, x.startSet(9));
        due("nor is 999", 5, x.startSet(999));
        due("before 999", NONE, x.startSet(990));
    }

    // ---- wishes

    private static void letterByLetter() {
        Festivalgrid x = dayWithSets(1);
        due("an act", 0, x.plan(0, 100, 10, 0, 50, 50, 5));
        String[] steps = {"l", "li", "lig", "ligh"};
        thrown("the empty word", STATE, () -> x.grant(0));
        for (int i = 0; i < steps.length; i++) {
            due("letters", i + 1, x.type(steps[i].charAt(i)));
            thrown("the word " + steps[i], STATE, () -> x.grant(0));
        }
        due("letters", 5, x.type('t'));
        due("light", true, x.grant(0));
        due("letters", 6, x.type('t'));
        thrown("the word lightt", STATE, () -> x.grant(0));
        of(x, 0, 70, 50, 5);
        due("letters", 6, x.wipe());
        thrown("the empty word again", STATE, () -> x.grant(0));
        for (String word : new String[] {"thgil", "alight", "sdark", "darks", "loudly", "softer", "airs", "hair", "ai", "ir",
                "lightd", "dar", "lou", "sof", "zz"}) {
            word(x, word);
            thrown("the word " + word, STATE, () -> x.grant(0));
        }
        of(x, 0, 70, 50, 5);
    }

    /** A day with one act with which all is fine, whatever is wished. */
    private static Festivalgrid wishing(int draw, int loud, int channel) {
        Festivalgrid x = dayWithSets(2);
        loudBounds(x);
        due("the act", 0, x.plan(1, 100, 10, 2, draw, loud, channel));
        return x;
    }

    private static void light() {
        int[][] pairs = {{0, 20}, {1, 21}, {100, 120}, {179, 199}, {180, 200}, {181, 200}, {199, 200}, {200, 200}};
        for (int[] pair : pairs) {
            Festivalgrid x = wishing(pair[0], 50, 5);
            due("light at " + pair[0], true, grant(x, "light", 0));
            of(x, 0, pair[1], 50, 5);
            due("load", pair[1], x.load(109, 2));
        }
    }

    private static void dark() {
        int[][] pairs = {{200, 180}, {21, 1}, {20, 0}, {19, 0}, {1, 0}, {0, 0}};
        for (int[] pair : pairs) {
            Festivalgrid x = wishing(pair[0], 50, 5);
            due("dark at " + pair[0], true, grant(x, "dark", 0));
            of(x, 0, pair[1], 50, 5);
            due("load", pair[1], x.load(100, 2));
        }
    }

    private static void loud() {
        int[][] pairs = {{0, 5}, {1, 6}, {100, 105}, {194, 199}, {195, 200}, {196, 200}, {199, 200}, {200, 200}};
        for (int[] pair : pairs) {
            Festivalgrid x = wishing(50, pair[0], 5);
            due("loud at " + pair[0], true, grant(x, "loud", 0));
            of(x, 0, 50, pair[1], 5);
            due("noise", Math.max(0, pair[1] - 10), x.noise(109, 1));
        }
    }

    private static void soft() {
        int[][] pairs = {{200, 195}, {6, 1}, {5, 0}, {4, 0}, {1, 0}, {0, 0}};
        for (int[] pair : pairs) {
            Festivalgrid x = wishing(50, pair[0], 5);
            due("soft at " + pair[0], true, grant(x, "soft", 0));
            of(x, 0, 50, pair[1], 5);
            due("noise", Math.max(0, pair[1] - 10), x.noise(100, 1));
        }
    }

    private static void air() {
        Festivalgrid x = wishing(50, 60, NONE);
        word(x, "air");
        for (int channel = 0; channel <= 31; channel++) {
            due("air to " + channel, true, x.grant(0));
            of(x, 0, 50, 60, channel);
            due("in use", 1 << channel, x.channels(105));
        }
        due("air behind 31", true, x.grant(0));
        of(x, 0, 50, 60, NONE);
        due("none in use", 0, x.channels(105));
        due("air behind none", true, x.grant(0));
        of(x, 0, 50, 60, 0);
    }

    private static void neverAbove200() {
        Festivalgrid x = wishing(170, 187, NONE);
        word(x, "light");
        for (int want : new int[] {190, 200, 200, 200}) {
            due("light", true, x.grant(0));
            due("draw", want, x.ofAct(0, 0));
        }
        word(x, "loud");
        for (int want : new int[] {192, 197, 200, 200, 200}) {
            due("loud", true, x.grant(0));
            due("loudness", want, x.ofAct(0, 1));
        }
        due("dark counts from 200 on", true, grant(x, "dark", 0));
        due("soft counts from 200 on", true, grant(x, "soft", 0));
        of(x, 0, 180, 195, NONE);
    }

    private static void refusedWishes() {
        Festivalgrid x = dayWithSets(1);
        due("an act", 0, x.plan(0, 100, 10, 0, 41, 66, 4));
        due("another", 1, x.plan(1, 109, 10, 0, 40, 0, 6));
        due("light beyond the power", false, grant(x, "light", 0));
        of(x, 0, 41, 66, 4);
        due("dark", true, grant(x, "dark", 1));
        due("light up to the power", true, grant(x, "light", 0));
        of(x, 0, 61, 66, 4);
        due("loud beyond the bound", false, grant(x, "loud", 0));
        due("air too near", false, grant(x, "air", 0));
        of(x, 0, 61, 66, 4);
        due("soft", true, grant(x, "soft", 0));
        due("loud again", true, grant(x, "loud", 0));
        of(x, 0, 61, 66, 4);
        due("air away from it", true, grant(x, "air", 1));
        due("then air", true, grant(x, "air", 0));
        of(x, 0, 61, 66, 5);
        of(x, 1, 20, 0, 7);
        // Less draw and loudness can't break a plan that is fine; air to none can't, either.
        due("a third one beyond", 2, tuned(x, 2, 109, 1, 31));
        due("air behind 31", true, grant(x, "air", 2));
        due("air onto 0", true, grant(x, "air", 2));
        due("0, 5 and 7 go together", 0, x.ofAct(2, 2));
    }

    private static void theWordStays() {
        Festivalgrid x = wishing(0, 50, 5);
        due("another act", 1, x.plan(2, 100, 10, 2, 150, 0, NONE));
        word(x, "light");
        due("light", true, x.grant(0));
        due("light again", true, x.grant(0));
        due("beyond the power", false, x.grant(1));
        thrown("no such act", INDEX, () -> x.grant(2));
        x.drop(1);
        thrown("not planned", STATE, () -> x.grant(1));
        due("and once more", true, x.grant(0));
        of(x, 0, 60, 50, 5);
        due("letters", 6, x.type('s'));
        thrown("no wish", STATE, () -> x.grant(0));
        due("letters", 6, x.wipe());
    }

    // ---- storms

    private static void stormHits() {
        int[][] hits = {{90, 10, 100}, {90, 11, 101}, {109, 1, 110}, {110, 1, 100}, {109, 200, 309}, {104, 2, 106},
            {99, 1, 100}, {100, 1, 101}};
        for (int[] hit : hits) {
            Festivalgrid x = dayWithAct();
            due("storm at " + hit[0] + " of " + hit[1], 0, x.storm(0, hit[0], hit[1]));
            due("start then", hit[2], x.start(0));
            due("on another stage", 0, x.storm(1, hit[0], hit[1]));
            due("start as before", hit[2], x.start(0));
        }
    }

    private static void stormOrder() {
        Festivalgrid x = dayWithSets(1);
        due("the latest", 0, drawing(x, 0, 140, 10, 0, 60));
        due("the earliest", 1, drawing(x, 0, 100, 30, 0, 60));
        due("between", 2, drawing(x, 0, 130, 10, 0, 60));
        due("another stage's", 3, drawing(x, 1, 215, 10, 0, 60));
        due("behind", 4, drawing(x, 0, 150, 5, 0, 60));
        due("none is lost", 0, x.storm(0, 129, 12));
        due("the earliest first, behind the other stage's act", 155, x.start(1));
        due("then the one between", 185, x.start(2));
        due("then the latest", 195, x.start(0));
        due("not hit", 150, x.start(4));
        due("on another stage", 215, x.start(3));
    }

    private static void calledOffAtFirst() {
        // The later act would stand in the earlier one's way if it were not called off before that one is planned again.
        Festivalgrid x = day();
        due("the earlier", 0, quiet(x, 0, 100, 30));
        due("the later", 1, quiet(x, 0, 135, 30));
        due("both hit", 0, x.storm(0, 129, 7));
        due("the earlier", 136, x.start(0));
        due("the later", 166, x.start(1));
    }

    private static void allSixteenAreHit() {
        Festivalgrid x = day();
        for (int act = 0; act < 16; act++) {
            due("act " + act, act, quiet(x, 1, 180 - 12 * act, 12));
        }
        due("none is lost", 0, x.storm(1, 0, 200));
        for (int act = 0; act < 16; act++) {
            due("start of " + act, 200 + 180 - 12 * act, x.start(act));
        }
        due("hit anew, and none is lost", 0, x.storm(1, 211, 170));
        for (int act = 0; act < 16; act++) {
            due("start of " + act, 381 + 180 - 12 * act, x.start(act));
        }
    }

    private static void firstStartBehindTheStorm() {
        Festivalgrid x = day();
        due("an act", 0, quiet(x, 0, 100, 50));
        due("before the storm there would be room", 0, x.storm(0, 149, 1));
        due("behind it", 150, x.start(0));
        due("a small gap", 1, quiet(x, 0, 240, 10));
        due("hit anew", 0, x.storm(0, 199, 11));
        due("behind the gap that is too small", 250, x.start(0));
        due("the small one stays", 240, x.start(1));
        due("a change-over of 5", true, x.setChange(0, 0) && x.move(0, 255) && x.setChange(0, 5));
        due("hit once more", 0, x.storm(0, 304, 1));
        due("right behind the storm", 305, x.start(0));
        due("to the last place", 0, x.storm(0, 354, 200));
        due("behind 200 minutes", 554, x.start(0));
    }

    private static void lastPlaceBehindTheStorm() {
        for (int end = 949; end <= 951; end++) {
            Festivalgrid x = day();
            due("an act", 0, quiet(x, 2, 800, 50));
            due("storm to " + end, end > 950 ? 1 : 0, x.storm(2, end - 150, 150));
            due("start then", end > 950 ? NONE : end, x.start(0));
        }
    }

    private static void howManyAreLost() {
        for (int hit = 1; hit <= 4; hit++) {
            Festivalgrid x = day();
            for (int i = 0; i < 4; i++) {
                due("act " + i, i, quiet(x, 1, 840 + 40 * i, 40));
            }
            due("of " + hit + " with no place behind", hit, x.storm(1, 1000 - 40 * hit, 40 * hit));
            for (int i = 0; i < 4; i++) {
                due("start of " + i, i < 4 - hit ? 840 + 40 * i : NONE, x.start(i));
            }
            due("those that are lost are not hit again", 0, x.storm(1, 1000 - 40 * hit, 40 * hit));
        }
        Festivalgrid x = day();
        due("an act", 0, quiet(x, 1, 600, 100));
        due("the next one", 1, quiet(x, 1, 700, 100));
        due("one that is not hit", 2, quiet(x, 1, 900, 100));
        due("the second one finds 99 minutes", 1, x.storm(1, 699, 2));
        due("the first one", 701, x.start(0));
        due("the second one", NONE, x.start(1));
        due("the third one", 900, x.start(2));
    }

    private static void toTheEndOfTheDay() {
        for (int minutes : new int[] {1, 2, 200}) {
            Festivalgrid x = day();
            due("the last minute", 0, quiet(x, 0, 999, 1));
            due("the minute before", 1, quiet(x, 0, 998, 1));
            due("one is lost", 1, x.storm(0, 999, minutes));
            due("it has no start", NONE, x.start(0));
            due("the other one stays", 998, x.start(1));
            due("the first minute of the day is no part of it", 0, quietReason(x, 0, 0, 200));
            due("the last one is", 1, quietReason(x, 0, 999, 1));
        }
        Festivalgrid x = day();
        due("long before the end", 0, x.storm(0, 800, 200));
        due("up to it", 0, quietReason(x, 0, 799, 1));
        due("into it", 1, quietReason(x, 0, 800, 1));
        due("at the end", 1, quietReason(x, 0, 999, 1));
    }

    private static void fiveStorms() {
        Festivalgrid x = dayWithStorms(5);
        thrown("a sixth on the act", STATE, () -> x.storm(0, 100, 1));
        due("the act stays", 100, x.start(0));
        for (int i = 0; i < 5; i++) {
            due("storm " + i + " closes its minute", 1, quietReason(x, 2, 900 + i, 1));
        }
        due("not the minute before", 0, quietReason(x, 2, 899, 1));
        due("nor the one behind", 0, quietReason(x, 2, 905, 1));
        Festivalgrid same = day();
        for (int i = 0; i < 5; i++) {
            due("the same storm again", 0, same.storm(0, 0, 200));
        }
        thrown("a sixth of the same", STATE, () -> same.storm(0, 0, 200));
    }

    // ---- refusals

    private static void refusedChanges() {
        Festivalgrid x = day();
        due("change-over of the day", true, x.setChange(0, 3));
        due("an act", 0, loud(x, 0, 100, 10, 60));
        due("another", 1, loud(x, 0, 115, 10, 60));
        due("5 between them", true, x.setChange(0, 5));
        due("6 do not fit", false, x.setChange(0, 6));
        due("60 do not fit", false, x.setChange(0, 60));
        due("5 hold", 1, quietReason(x, 0, 129, 1));
        due("only 5 hold", 0, quietReason(x, 0, 130, 1));
        due("bound 50 fits", true, x.setBound(0, 50));
        due("bound 49 does not", false, x.setBound(0, 49));
        due("bound 10 does not", false, x.setBound(0, 10));
        due("50 holds", 0, loudReason(x, 0, 200, 1, 60));
        due("not more", 4, loudReason(x, 0, 200, 1, 61));
        due("bound 40 of the next house", true, x.setBound(1, 40));
        due("not 39", false, x.setBound(1, 39));
        due("wind 0", true, x.setWind(1, 0));
        due("wind -1", false, x.setWind(1, -1));
        due("wind -10", false, x.setWind(1, -10));
        due("wind -1 in hour 2", false, x.setWind(2, -1));
        due("wind -10 in hour 3", true, x.setWind(3, -10));
        due("wind 10", true, x.setWind(1, 10));
        due("no more noise than that", 40, x.noise(100, 0));
        due("wind is asked anew", true, x.setWind(1, 0));
        due("noise", 50, x.noise(100, 0));
    }

    private static void refusedChangesInTheEvening() {
        Festivalgrid x = day();
        due("an act", 0, loud(x, 2, 590, 11, 60));
        due("bound 60 is 50 from 600 on", true, x.setBound(2, 60));
        due("59 is 49", false, x.setBound(2, 59));
        due("wind before 600", true, x.setWind(9, -10));
        due("wind from 600 on", false, x.setWind(10, -1));
        due("up to 600 only", true, x.move(0, 589));
        due("then the wind", true, x.setWind(10, -1));
        due("and not back", false, x.move(0, 590));
    }

    private static void refusedWindsOfEachHour() {
        for (int hour = 0; hour <= 16; hour++) {
            int last = Math.min(60 * hour + 59, 999);
            for (int minute = 60 * hour; minute <= last; minute += last - 60 * hour) {
                Festivalgrid x = day();
                due("an act", 0, loud(x, 1, minute, 1, minute < 600 ? 65 : 55));
                due("wind -6 at " + minute, false, x.setWind(hour, -6));
                due("wind -5 at " + minute, true, x.setWind(hour, -5));
                due("wind -6 an hour earlier", true, x.setWind(Math.floorMod(hour - 1, 17), -6));
                due("wind -6 an hour later", true, x.setWind((hour + 1) % 17, -6));
                due("noise at " + minute, minute < 600 ? 60 : 50, x.noise(minute, 1));
            }
        }
    }

    private static void refusedBoundsAtEachEnd() {
        for (int minute : new int[] {0, 599, 600, 999}) {
            Festivalgrid x = day();
            due("an act", 0, loud(x, 2, minute, 1, 40));
            int least = minute < 600 ? 30 : 40;
            due("bound " + (least - 1) + " at " + minute, false, x.setBound(2, least - 1));
            due("bound " + least + " at " + minute, true, x.setBound(2, least));
        }
    }

    // ---- promises

    private static void aNewObject() {
        Festivalgrid x = day();
        due("the word is empty", 0, x.wipe());
        word(x, "");
        thrown("no act", INDEX, () -> x.start(0));
        due("the first set", 1, x.startSet(5));
        due("the first act", 0, quiet(x, 0, 0, 200));
        thrown("the empty word", STATE, () -> x.grant(0));
        due("no storm", 0, day().storm(0, 0, 200));
        due("fine", true, day().isFineByMinutes());
        due("NONE", -1, Festivalgrid.NONE);
    }

    private static void sixSets() {
        Festivalgrid x = dayWithSets(5);
        due("near: refused, and not counted", NONE, x.startSet(49));
        due("the sixth", 6, x.startSet(50));
        for (int minute : new int[] {0, 50, 55, 60, 999}) {
            thrown("a seventh at " + minute, STATE, () -> x.startSet(minute));
        }
    }

    private static void changesFrom0To60() {
        Festivalgrid x = day();
        range("minutes", 0, 60, ARGUMENT, (m, n) -> x.setChange(2, m));
        due("the last one let pass is 60", 0, quiet(x, 2, 0, 1));
        due("60 hold", 1, quietReason(x, 2, 60, 1));
        due("no more", 0, quietReason(x, 2, 61, 1));
    }

    private static void boundsFrom10To300() {
        Festivalgrid x = day();
        range("bound", 10, 300, ARGUMENT, (b, n) -> x.setBound(0, b));
        due("bound 10", true, x.setBound(0, 10));
        due("0 from 600 on", 0, loudReason(x, 0, 600, 1, 10));
        due("not 1", 4, loudReason(x, 0, 600, 1, 11));
        due("10 before", 0, loudReason(x, 0, 599, 1, 20));
        due("not 11", 4, loudReason(x, 0, 599, 1, 21));
    }

    private static void hoursAndWinds() {
        Festivalgrid x = day();
        range("hour", 0, 16, INDEX, (h, n) -> x.setWind(h, 0));
        range("wind", -10, 10, ARGUMENT, (w, n) -> x.setWind(16, w));
        due("the last one let pass is 10", 0, loud(x, 0, 999, 1, 60));
        due("wind 10", 40, x.noise(999, 0));
        due("gap of 0", true, x.move(0, 0) && x.setWind(0, -10));
        due("wind -10", 60, x.noise(0, 0));
    }

    private static void argumentsOfActs() {
        int[][] ranges = {{0, 2}, {0, 999}, {1, 200}, {0, 2}, {0, 200}, {0, 200}, {NONE, 31}};
        String[] names = {"stage", "start", "length", "phase", "draw", "loud", "channel"};
        for (int i = 0; i < 7; i++) {
            int at = i;
            range("plan's " + names[i], ranges[i][0], ranges[i][1], i == 0 || i == 3 ? INDEX : ARGUMENT, (value, n) -> {
                int[] v = {0, 0, 1, 0, 0, 0, NONE};
                v[at] = value;
                return day().plan(v[0], v[1], v[2], v[3], v[4], v[5], v[6]);
            });
            range("reason's " + names[i], ranges[i][0], ranges[i][1], i == 0 || i == 3 ? INDEX : ARGUMENT, (value, n) -> {
                int[] v = {0, 0, 1, 0, 0, 0, NONE};
                v[at] = value;
                return day().reason(v[0], v[1], v[2], v[3], v[4], v[5], v[6]);
            });
        }
    }

    private static void sixteenActs() {
        Festivalgrid x = dayWithActs(15);
        due("a refused one is none of them", NONE, quiet(x, 0, 0, 1));
        due("reason of the 16th", 0, quietReason(x, 0, 900, 1));
        due("the 16th", 15, quiet(x, 0, 900, 1));
        for (int start : new int[] {0, 500, 999}) {
            thrown("a 17th at " + start, STATE, () -> quiet(x, 1, start, 2));
            thrown("reason of a 17th at " + start, STATE, () -> quietReason(x, 1, start, 2));
        }
        for (int i = 0; i < 16; i++) {
            x.drop(i);
        }
        thrown("dropped ones count", STATE, () -> quiet(x, 1, 500, 1));
        thrown("for reason, too", STATE, () -> quietReason(x, 1, 500, 1));
        thrown("there is no act 16", INDEX, () -> x.start(16));
    }

    private static void firstOfTheFour() {
        // Bit p of a case says that the point p + 1 would be broken by the act on trial.
        for (int broken = 0; broken < 16; broken++) {
            Festivalgrid x = dayWithSets(1);
            due("an act", 0, x.plan(0, 100, 10, 0, 50, 60, 8));
            boolean[] breaks = {(broken & 1) != 0, (broken & 2) != 0, (broken & 4) != 0, (broken & 8) != 0};
            int stage = breaks[0] ? 0 : 1;
            int draw = breaks[1] ? 51 : 50;
            int channel = breaks[2] ? 9 : 10;
            int loud = breaks[3] ? 90 : 0;
            int want = breaks[0] ? 1 : breaks[1] ? 2 : breaks[2] ? 3 : breaks[3] ? 4 : 0;
            due("case " + broken, want, x.reason(stage, 109, 20, 0, draw, loud, channel));
            due("plan of case " + broken, want == 0 ? 1 : NONE, x.plan(stage, 109, 20, 0, draw, loud, channel));
        }
        Festivalgrid x = dayWithSets(1);
        due("an act", 0, x.plan(0, 150, 10, 0, 50, 0, 8));
        due("4 at first, then 3, then 2", 2, x.reason(1, 100, 60, 0, 51, 90, 9));
        due("4 at first, then 3", 3, x.reason(1, 100, 60, 0, 50, 90, 9));
        due("4 in one minute", 4, x.reason(1, 541, 60, 0, 50, 61, 9));
    }

    private static void movesAndStarts() {
        Festivalgrid x = dayWithActs(2);
        due("onto itself", true, x.move(0, 0));
        due("over itself", true, x.move(0, 5));
        due("start", 5, x.start(0));
        due("another stage's minutes", true, x.move(0, 10));
        due("the last place", true, x.move(0, 990));
        due("beyond it", false, x.move(0, 991));
        due("start", 990, x.start(0));
        x.drop(0);
        due("dropped", NONE, x.start(0));
        due("the other one", 10, x.start(1));
    }

    private static void firstStarts() {
        Festivalgrid x = dayWithActs(1);
        due("the first minute", 0, x.firstStart(0, 0));
        due("any minute", 1, x.firstStart(0, 1));
        due("the last place", 990, x.firstStart(0, 990));
        due("beyond it", NONE, x.firstStart(0, 991));
        due("the last minute", NONE, x.firstStart(0, 999));
        due("another act", 1, quiet(x, 0, 20, 200));
        due("just before it", 10, x.firstStart(0, 10));
        due("behind it", 220, x.firstStart(0, 11));
        due("a minute to the end", 2, quiet(x, 0, 999, 1));
        due("before that one", 989, x.firstStart(0, 989));
        due("beyond it", NONE, x.firstStart(0, 990));
    }

    private static void firstStartsAmongAll() {
        Festivalgrid x = dayWithSets(1);
        due("an act", 0, x.plan(0, 0, 20, 1, 60, 50, 8));
        due("with too much draw", 1, x.plan(1, 100, 10, 1, 41, 0, NONE));
        due("on a channel too near", 2, x.plan(1, 140, 10, 0, 0, 0, 9));
        due("too loud with it", 3, x.plan(1, 180, 10, 0, 0, 50, NONE));
        due("the last place before the draw", 80, x.firstStart(0, 80));
        due("behind the draw", 110, x.firstStart(0, 81));
        due("the last place before the channel", 120, x.firstStart(0, 120));
        due("behind the channel", 150, x.firstStart(0, 121));
        due("the last place before the noise", 160, x.firstStart(0, 160));
        due("behind the noise", 190, x.firstStart(0, 161));
        due("asking moves nothing", 0, x.start(0));
    }

    private static void firstStartsBetween() {
        Festivalgrid x = day();
        due("an act", 0, quiet(x, 0, 0, 10));
        for (int i = 0; i < 5; i++) {
            due("another", i + 1, quiet(x, 0, 20 + 195 * i, 184 + i % 2));
        }
        due("just before", 10, x.firstStart(0, 10));
        due("behind the first, where 11 are free", 204, x.firstStart(0, 11));
        due("one later", 205, x.firstStart(0, 205));
        due("10 are free", 400, x.firstStart(0, 206));
        due("10 are free again", 790, x.firstStart(0, 596));
        due("to the end", 984, x.firstStart(0, 791));
        due("beyond the last place", NONE, x.firstStart(0, 991));
        due("asking moves nothing", 0, x.start(0));
    }

    private static void lettersFromAToZ() {
        for (int letter = 'a'; letter <= 'z'; letter++) {
            due("letter " + (char) letter, 1, day().type((char) letter));
        }
        Festivalgrid x = day();
        for (int code = 0; code < 256; code++) {
            char letter = (char) code;
            if (code < 'a' || code > 'z') {
                thrown("letter " + code, ARGUMENT, () -> x.type(letter));
            }
        }
        for (char letter : new char[] {(char) 353, (char) 0x7fff, (char) 0x8000, (char) 0xff41, (char) 0xffff}) {
            thrown("letter " + (int) letter, ARGUMENT, () -> x.type(letter));
        }
        due("none was typed", 0, x.wipe());
    }

    private static void sixLetters() {
        Festivalgrid x = day();
        for (int i = 1; i <= 6; i++) {
            due("letter " + i, i, x.type('z'));
        }
        thrown("a seventh", STATE, () -> x.type('a'));
        thrown("a seventh again", STATE, () -> x.type('z'));
        due("six", 6, x.wipe());
        due("none", 0, x.wipe());
        due("one", 1, x.type('a'));
        due("one", 1, x.wipe());
    }

    private static void whatOfAnAct() {
        Festivalgrid x = dayWithSets(2);
        loudBounds(x);
        due("the most", 0, x.plan(0, 100, 10, 0, 200, 200, 31));
        due("the least", 1, x.plan(1, 110, 10, 0, 0, 0, 0));
        due("none", 2, x.plan(2, 120, 10, 0, 1, 2, NONE));
        of(x, 0, 200, 200, 31);
        of(x, 1, 0, 0, 0);
        of(x, 2, 1, 2, NONE);
        range("what", 0, 2, INDEX, (what, n) -> x.ofAct(0, what));
        x.drop(0);
        range("what of a dropped one", 0, 2, INDEX, (what, n) -> x.ofAct(0, what));
    }

    private static void minutesOfStorms() {
        range("minutes", 1, 200, ARGUMENT, (minutes, n) -> day().storm(1, 0, minutes));
        Festivalgrid x = day();
        due("200 minutes", 0, x.storm(1, 100, 200));
        due("the minute before", 0, quietReason(x, 1, 99, 1));
        due("the first one", 1, quietReason(x, 1, 100, 1));
        due("the last one", 1, quietReason(x, 1, 299, 1));
        due("the one behind", 0, quietReason(x, 1, 300, 1));
        due("one minute", 0, x.storm(1, 400, 1));
        due("the minute before", 0, quietReason(x, 1, 399, 1));
        due("the minute", 1, quietReason(x, 1, 400, 1));
        due("the one behind", 0, quietReason(x, 1, 401, 1));
    }

    private static void bitsOfChannels() {
        for (int channel = 0; channel <= 31; channel++) {
            Festivalgrid x = day();
            due("an act", 0, tuned(x, 0, 999, 1, channel));
            due("bit " + channel, channel == 31 ? LEAST : 1 << channel, x.channels(999));
        }
        Festivalgrid x = day();
        due("no act", 0, x.channels(0));
        due("an act without a channel", 0, tuned(x, 0, 0, 1, NONE));
        due("no channel", 0, x.channels(0));
        due("channel 0", 1, tuned(x, 1, 0, 1, 0));
        due("channel 31", 2, tuned(x, 2, 0, 1, 31));
        due("the first and the sign", LEAST + 1, x.channels(0));
    }

    private static void loadsOfPhases() {
        Festivalgrid x = dayWithSets(6);
        for (int phase = 0; phase < 3; phase++) {
            due("no act", 0, x.load(999, phase));
        }
        for (int stage = 0; stage < 3; stage++) {
            due("an act", stage, drawing(x, stage, 999, 1, 1, 200));
        }
        due("all on one phase", 600, x.load(999, 1));
        due("none on the others", 0, x.load(999, 0) + x.load(999, 2));
    }

    private static void fineBehindEveryCall() {
        Festivalgrid x = dayWithSets(2);
        due("fine without acts", true, x.isFineByMinutes());
        for (int i = 0; i < 60; i++) {
            if (i < 16) {
                x.plan(i % 3, 370 * i % 1000, 1 + 23 * i % 200, i % 3, 17 * i % 110, 5 * i % 90, i % 33 - 1);
            }
            x.setWind(i % 17, i % 21 - 10);
            x.setChange(i % 3, 7 * i % 61);
            x.setBound(i % 3, 10 + 13 * i % 100);
            due("fine behind changes " + i, true, x.isFineByMinutes());
            if (i % 12 == 11) {
                x.storm(i % 3, 41 * i % 1000, i);
                due("fine behind a storm", true, x.isFineByMinutes());
            }
        }
        due("an act was planned at first", 0, x.ofAct(0, 0));
    }

    // ---- all of them

    private static void run(String words, Call... tests) {
        sentence = words;
        sentences++;
        for (Call test : tests) {
            thrown("its test", "nothing", test);
        }
    }

    private static void terms() {
        run("if several exceptions apply, the one that its throws clause names first is thrown",
            BoundaryTests::firstNamedException, BoundaryTests::firstNamedExceptionOfPlan);
        run("The day has the minutes 0 to 999", BoundaryTests::minutesOfTheDay);
        run("the hour of a minute is minute / 60, rounded down, 0 to 16", BoundaryTests::hoursOfMinutes);
        run("Stages are 0 to 2, houses 0 to 2, phases 0 to 2", BoundaryTests::stagesHousesPhases);
        run("Acts are numbered from 0 in the order in which they are planned, up to 16 in all",
            BoundaryTests::numbersOfActs);
        run("It plays from its start on for as many minutes as its length", BoundaryTests::minutesOfAnAct);
        run("It is planned until it is dropped or called off", BoundaryTests::plannedUntil);
        run("the later one does not start earlier than the other one's start, length and the change-over of the stage,"
            + " together", BoundaryTests::changeOvers, BoundaryTests::changeOversOfThree);
        run("no act plays in a storm on its stage", BoundaryTests::noneInAStorm);
        run("none plays beyond the minute 999", BoundaryTests::noneBeyondTheDay);
        run("in each minute, for each phase, the draws of all acts that play are together at most 100 for each set that"
            + " runs", BoundaryTests::powerOfSets, BoundaryTests::powerOfSixSets);
        run("no two channels differ by less than 2", BoundaryTests::channelsThatDiffer);
        run("with three of them, whichever, twice the channel of the first one less that of the second one is not that of"
            + " the third one", BoundaryTests::channelsOfThree);
        run("the noise is at most its bound, and from the minute 600 on at most its bound less 10",
            BoundaryTests::noiseAtMostTheBound);
        run("the sum, over all acts that play, of loudness less gap, where that is above 0", BoundaryTests::noiseIsASum);
        run("the gap of a stage and a house is 10, and 10 for each number by which both differ, and the wind of the hour,"
            + " together", BoundaryTests::gaps);
        run("The change-overs are 0 at first, bounds 60, winds 0; no set runs", BoundaryTests::atFirst);
        run("Sets are started for a minute, from which on they run to the end of the day",
            BoundaryTests::setsRunToTheEnd);
        run("Between the minutes of two sets there are at least 10", BoundaryTests::setsApart);
    }

    private static void wishesAndStorms() {
        run("A word is typed letter by letter", BoundaryTests::letterByLetter);
        run("light, by which its draw is 20 more", BoundaryTests::light);
        run("dark, 20 less, but not below 0", BoundaryTests::dark);
        run("loud, by which its loudness is 5 more", BoundaryTests::loud);
        run("soft, 5 less, but not below 0", BoundaryTests::soft);
        run("air, by which its channel is the next one behind (0 behind none, none behind 31)", BoundaryTests::air);
        run("Draws and loudnesses are never above 200", BoundaryTests::neverAbove200);
        run("The word stays", BoundaryTests::theWordStays);
        run("Wishes, changes of bounds and the like that would make the plan not fine are refused",
            BoundaryTests::refusedWishes, BoundaryTests::refusedChanges, BoundaryTests::refusedChangesInTheEvening,
            BoundaryTests::refusedWindsOfEachHour, BoundaryTests::refusedBoundsAtEachEnd);
        run("The acts on it that play in them, by rising starts, are called off at first",
            BoundaryTests::stormHits, BoundaryTests::calledOffAtFirst);
        run("then, in this order, each one is planned again with the first start behind the storm with which the plan is"
            + " fine then", BoundaryTests::stormOrder, BoundaryTests::allSixteenAreHit,
            BoundaryTests::firstStartBehindTheStorm);
        run("if there is one", BoundaryTests::lastPlaceBehindTheStorm);
        run("Returns how many acts are called off and not planned again", BoundaryTests::howManyAreLost);
        run("how long it lasts, at most to the end of the day", BoundaryTests::toTheEndOfTheDay);
        run("if there were 5 storms", BoundaryTests::fiveStorms);
    }

    private static void promises() {
        run("Creates a day without sets and acts; the word is empty", BoundaryTests::aNewObject);
        run("if there are 6 sets", BoundaryTests::sixSets);
        run("`minutes`: 0 to 60", BoundaryTests::changesFrom0To60);
        run("`bound`: 10 to 300", BoundaryTests::boundsFrom10To300);
        run("`wind`: -10 to 10", BoundaryTests::hoursAndWinds);
        run("`channel`: 0 to 31, or NONE", BoundaryTests::argumentsOfActs);
        run("if there are 16 acts", BoundaryTests::sixteenActs);
        run("1 to 4 for the first one of the four that would not be so; 0 if it would not be refused",
            BoundaryTests::firstOfTheFour);
        run("Returns the start; NONE if it is not planned", BoundaryTests::movesAndStarts);
        run("Returns the first start, from a minute on, to which an act could be moved", BoundaryTests::firstStarts,
            BoundaryTests::firstStartsAmongAll);
        run("Returns the start; NONE if there is none", BoundaryTests::firstStartsBetween);
        run("`letter`: a to z", BoundaryTests::lettersFromAToZ);
        run("if it has 6 letters", BoundaryTests::sixLetters);
        run("0 the draw, 1 the loudness, 2 the channel (NONE if it has none)", BoundaryTests::whatOfAnAct);
        run("`minutes`: 1 to 200", BoundaryTests::minutesOfStorms);
        run("Returns the draws of all acts that play in a minute on a phase", BoundaryTests::loadsOfPhases);
        run("the bit c for the channel c (for 31 the sign)", BoundaryTests::bitsOfChannels);
        run("Tells whether the plan is fine, minute by minute of the whole day", BoundaryTests::fineBehindEveryCall);
    }

    public static void main(String[] args) {
        terms();
        wishesAndStorms();
        promises();
        System.out.println(wrong == 0 ? "BoundaryTests: " + sentences + " sentences hold"
            : wrong + " answers are not as due");
        if (wrong != 0) System.exit(1);
    }
}
