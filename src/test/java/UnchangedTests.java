import java.util.ArrayList;
import java.util.List;

/**
 * "A call that throws an exception changes nothing", nor does one that refuses or only asks: two days are made alike,
 * one of them is called so, and then both must answer the same to all that the face can ask. An object is used for at
 * most 512 calls, so each row of questions has its own two days.
 */
public final class UnchangedTests {
    private static final int NONE = Festivalgrid.NONE;
    private static final String NOTHING = "nothing";
    private static final String INDEX = "IndexOutOfBoundsException";
    private static final String ARGUMENT = "IllegalArgumentException";
    private static final String STATE = "IllegalStateException";

    private static int wrong;
    private static int calls;

    private interface Maker {
        Festivalgrid day();
    }

    private interface Call {
        Object on(Festivalgrid x);
    }

    private static String answer(Festivalgrid x, Call call) {
        try {
            return String.valueOf(call.on(x));
        } catch (RuntimeException e) {
            return e.getClass().getSimpleName();
        }
    }

    private static void type(Festivalgrid x, String word) {
        x.wipe();
        for (char letter : word.toCharArray()) {
            x.type(letter);
        }
    }

    // ---- the days

    /** A day with a little of everything; act 5 is dropped, and the first storm has called act 7 off. */
    private static Festivalgrid busyDay() {
        Festivalgrid x = new Festivalgrid();
        made(x.startSet(0) == 1 && x.startSet(300) == 2 && x.startSet(600) == 3);
        made(x.setChange(0, 5) && x.setChange(1, 10));
        made(x.setBound(0, 70) && x.setBound(1, 80) && x.setBound(2, 75));
        made(x.setWind(1, -5) && x.setWind(10, 5) && x.setWind(16, -10));
        made(x.plan(0, 100, 50, 0, 60, 60, 10) == 0);
        made(x.plan(0, 200, 50, 1, 30, 20, NONE) == 1);
        made(x.plan(1, 120, 60, 0, 40, 40, 14) == 2);
        made(x.plan(2, 130, 20, 2, 95, 30, 20) == 3);
        made(x.plan(1, 620, 30, 0, 200, 50, 31) == 4);
        made(x.plan(2, 620, 30, 1, 10, 10, 0) == 5);
        made(x.plan(0, 900, 100, 2, 20, 30, NONE) == 6);
        made(x.plan(2, 960, 40, 2, 0, 0, 5) == 7);
        x.drop(5);
        made(x.storm(2, 970, 30) == 1 && x.storm(2, 140, 5) == 0);
        type(x, "light");
        return x;
    }

    /** A day on which nothing more can be started, planned, typed or come over a stage. */
    private static Festivalgrid fullDay() {
        Festivalgrid x = new Festivalgrid();
        for (int i = 0; i < 6; i++) {
            made(x.startSet(100 + 10 * i) == i + 1);
        }
        for (int i = 0; i < 16; i++) {
            int channel = i % 3 == 0 ? NONE : 7 * (i % 3) + i / 3;
            made(x.plan(i % 3, 200 + 40 * (i / 3), 30, i % 3, 20 * (i % 9), 30, channel) == i);
        }
        x.drop(4);
        for (int i = 0; i < 5; i++) {
            made(x.storm(i % 3, 210 + 50 * i, 1 + 5 * i) == 0);
        }
        type(x, "lights");
        return x;
    }

    private static void made(boolean well) {
        if (!well) {
            wrong++;
            System.out.println("a day can't be made");
        }
    }

    // ---- all that the face can ask

    private static void askActs(Festivalgrid x, List<String> told) {
        for (int act = 0; act < 16; act++) {
            int number = act;
            told.add(answer(x, y -> y.start(number)));
            for (int what = 0; what < 3; what++) {
                int which = what;
                told.add(answer(x, y -> y.ofAct(number, which)));
            }
            told.add(answer(x, y -> y.firstStart(number, 50 * number)));
            told.add(answer(x, y -> y.firstStart(number, 0)));
        }
        told.add(answer(x, Festivalgrid::isFineByMinutes));
    }

    private static void askMinutes(Festivalgrid x, int part, List<String> told) {
        for (int minute = 50 * part; minute < 50 * part + 50; minute++) {
            int asked = minute;
            for (int index = 0; index < 3; index++) {
                int which = index;
                told.add(answer(x, y -> y.load(asked, which)));
                told.add(answer(x, y -> y.noise(asked, which)));
            }
            told.add(answer(x, y -> y.channels(asked)));
        }
    }

    /** Where an act would be let play, minute by minute, tells change-overs and storms. */
    private static void askStages(Festivalgrid x, int part, List<String> told) {
        for (int minute = 100 * part; minute < 100 * part + 100; minute++) {
            int asked = minute;
            for (int stage = 0; stage < 3; stage++) {
                int where = stage;
                told.add(answer(x, y -> y.reason(where, asked, 1, 0, 0, 0, NONE)));
            }
        }
    }

    /** How loud and how strong an act would be let play tells bounds, winds and sets; the last act is the one moved. */
    private static void askHours(Festivalgrid x, int hour, List<String> told) {
        int minute = Math.min(60 * hour + 5, 999);
        for (int house = 0; house < 3; house++) {
            int where = house;
            for (int loud = 0; loud <= 120; loud++) {
                int how = loud;
                told.add(answer(x, y -> y.reason(where, minute, 1, 0, 0, how, NONE)));
            }
            for (int draw = 0; draw <= 200; draw += 50) {
                int how = draw;
                told.add(answer(x, y -> y.reason(where, minute, 1, where, how, 0, NONE)));
                told.add(answer(x, y -> y.reason(where, minute, 1, where, Math.min(200, how + 1), 0, NONE)));
            }
        }
    }

    /** The counts and the word can only be told by calls that change them, each on a day of its own. */
    private static void askCounts(Maker maker, Call call, List<String> told) {
        for (int minute = 0; minute < 1000; minute += 9) {
            int asked = minute;
            told.add(answer(called(maker, call), x -> x.startSet(asked)));
        }
        for (int index = 0; index < 3; index++) {
            int which = index;
            for (int bound = 10; bound <= 100; bound += 3) {
                int asked = bound;
                told.add(answer(called(maker, call), x -> x.setBound(which, asked)));
            }
            for (int minutes = 0; minutes <= 60; minutes += 4) {
                int asked = minutes;
                told.add(answer(called(maker, call), x -> x.setChange(which, asked)));
            }
        }
        for (int act = 0; act < 16; act++) {
            int number = act;
            told.add(answer(called(maker, call), x -> x.grant(number)));
            told.add(answer(called(maker, call), x -> x.move(number, 400)));
        }
        Festivalgrid counted = called(maker, call);
        for (int i = 0; i < 17; i++) {
            told.add(answer(counted, x -> x.plan(0, 0, 1, 0, 0, 0, NONE)));
            told.add(answer(counted, x -> x.type('s')));
            told.add(answer(counted, x -> x.storm(2, 0, 1)));
        }
        told.add(answer(counted, Festivalgrid::wipe));
    }

    private static Festivalgrid called(Maker maker, Call call) {
        Festivalgrid x = maker.day();
        answer(x, call);
        return x;
    }

    private static List<String> told(Maker maker, Call call) {
        List<String> told = new ArrayList<>();
        askActs(called(maker, call), told);
        for (int part = 0; part < 20; part++) {
            askMinutes(called(maker, call), part, told);
        }
        for (int part = 0; part < 10; part++) {
            askStages(called(maker, call), part, told);
        }
        for (int hour = 0; hour < 17; hour++) {
            askHours(called(maker, call), hour, told);
        }
        askCounts(maker, call, told);
        return told;
    }

    // ---- the calls

    private static Maker maker;
    private static List<String> before;

    private static void on(Maker day) {
        maker = day;
        before = told(day, x -> NOTHING);
    }

    private static void unchanged(String what, Object want, Call call) {
        calls++;
        String got = answer(maker.day(), call);
        if (!got.equals(String.valueOf(want))) {
            wrong++;
            System.out.println(what + " answered " + got + ", due is " + want);
        }
        if (!told(maker, call).equals(before)) {
            wrong++;
            System.out.println(what + " changes something");
        }
    }

    /** The questions tell days apart that differ in one thing; else the tests here would tell nothing. */
    private static void changed(String what, Call call) {
        if (told(maker, call).equals(before)) {
            wrong++;
            System.out.println(what + " can't be seen");
        }
    }

    private static String drop(Festivalgrid x, int act) {
        x.drop(act);
        return NOTHING;
    }

    private static void refusals() {
        unchanged("a near set", NONE, x -> x.startSet(309));
        unchanged("a near set before", NONE, x -> x.startSet(591));
        unchanged("a change-over that does not fit", false, x -> x.setChange(0, 51));
        unchanged("a bound too low", false, x -> x.setBound(0, 69));
        unchanged("a bound far too low", false, x -> x.setBound(1, 10));
        unchanged("a wind too low", false, x -> x.setWind(2, -1));
        unchanged("an act on another", NONE, x -> x.plan(0, 249, 1, 0, 0, 0, NONE));
        unchanged("an act in the change-over", NONE, x -> x.plan(0, 254, 1, 0, 0, 0, NONE));
        unchanged("an act in a storm", NONE, x -> x.plan(2, 140, 1, 0, 0, 0, NONE));
        unchanged("an act beyond the day", NONE, x -> x.plan(1, 999, 2, 0, 0, 0, NONE));
        unchanged("an act with too much draw", NONE, x -> x.plan(2, 120, 5, 0, 1, 0, NONE));
        unchanged("an act on a channel near another", NONE, x -> x.plan(2, 630, 5, 1, 0, 0, 30));
        unchanged("an act too loud", NONE, x -> x.plan(2, 400, 5, 1, 0, 86, NONE));
        unchanged("a move onto another", false, x -> x.move(0, 160));
        unchanged("a move beyond the day", false, x -> x.move(4, 999));
        unchanged("a move before the second set", false, x -> x.move(4, 299));
        unchanged("a move to where it is", true, x -> x.move(0, 100));
        unchanged("a wish with too much draw", false, x -> x.grant(0));
        unchanged("the same change-over", true, x -> x.setChange(1, 10));
        unchanged("the same bound", true, x -> x.setBound(0, 70));
        unchanged("the same wind", true, x -> x.setWind(16, -10));
    }

    private static void questions() {
        unchanged("reason 0", 0, x -> x.reason(0, 400, 10, 0, 100, 30, 3));
        unchanged("reason 1", 1, x -> x.reason(0, 100, 10, 0, 100, 30, 3));
        unchanged("reason 2", 2, x -> x.reason(2, 0, 1, 2, 101, 90, 3));
        unchanged("reason 3", 3, x -> x.reason(2, 620, 10, 1, 0, 0, 31));
        unchanged("reason 4", 4, x -> x.reason(1, 700, 10, 1, 0, 90, 3));
        unchanged("start", 100, x -> x.start(0));
        unchanged("start of a dropped act", NONE, x -> x.start(5));
        unchanged("start of one called off", NONE, x -> x.start(7));
        unchanged("firstStart", 255, x -> x.firstStart(6, 0));
        unchanged("firstStart with none", NONE, x -> x.firstStart(4, 980));
        unchanged("ofAct", 200, x -> x.ofAct(4, 0));
        unchanged("load", 100, x -> x.load(149, 0));
        unchanged("noise", 55, x -> x.noise(100, 0));
        unchanged("channels", 1 << 10, x -> x.channels(100));
        unchanged("isFineByMinutes", true, Festivalgrid::isFineByMinutes);
        unchanged("a letter that is wiped with the word, and the word anew", 5, x -> {
            x.type('s');
            x.wipe();
            for (char letter : "ligh".toCharArray()) x.type(letter);
            return x.type('t');
        });
    }

    private static void wrongArguments() {
        unchanged("startSet", ARGUMENT, x -> x.startSet(1000));
        unchanged("startSet below", ARGUMENT, x -> x.startSet(-1));
        unchanged("setChange's stage", INDEX, x -> x.setChange(3, 0));
        unchanged("setChange's minutes", ARGUMENT, x -> x.setChange(2, 61));
        unchanged("setBound's house", INDEX, x -> x.setBound(-1, 100));
        unchanged("setBound's bound", ARGUMENT, x -> x.setBound(2, 301));
        unchanged("setWind's hour", INDEX, x -> x.setWind(17, 3));
        unchanged("setWind's wind", ARGUMENT, x -> x.setWind(5, 11));
        for (int i = 0; i < 7; i++) {
            int[] v = {1, 400, 10, 1, 10, 20, 3};
            v[i] = new int[] {3, 1000, 0, 3, 201, 201, 32}[i];
            String want = i == 0 || i == 3 ? INDEX : ARGUMENT;
            unchanged("plan's argument " + i, want, x -> x.plan(v[0], v[1], v[2], v[3], v[4], v[5], v[6]));
            unchanged("reason's argument " + i, want, x -> x.reason(v[0], v[1], v[2], v[3], v[4], v[5], v[6]));
        }
        unchanged("move's act", INDEX, x -> x.move(8, 400));
        unchanged("move's start", ARGUMENT, x -> x.move(0, 1000));
        unchanged("drop's act", INDEX, x -> drop(x, 8));
        unchanged("start's act", INDEX, x -> x.start(8));
        unchanged("firstStart's act", INDEX, x -> x.firstStart(8, 0));
        unchanged("firstStart's from", ARGUMENT, x -> x.firstStart(0, 1000));
        unchanged("type's letter", ARGUMENT, x -> x.type('S'));
        unchanged("grant's act", INDEX, x -> x.grant(8));
        unchanged("ofAct's act", INDEX, x -> x.ofAct(8, 0));
        unchanged("ofAct's what", INDEX, x -> x.ofAct(0, 3));
        unchanged("storm's stage", INDEX, x -> x.storm(3, 100, 100));
        unchanged("storm's first", ARGUMENT, x -> x.storm(0, 1000, 100));
        unchanged("storm's minutes", ARGUMENT, x -> x.storm(0, 100, 201));
        unchanged("storm of no minutes", ARGUMENT, x -> x.storm(0, 100, 0));
        unchanged("load's minute", ARGUMENT, x -> x.load(1000, 0));
        unchanged("load's phase", INDEX, x -> x.load(0, 3));
        unchanged("noise's minute", ARGUMENT, x -> x.noise(-1, 0));
        unchanged("noise's house", INDEX, x -> x.noise(0, -1));
        unchanged("channels' minute", ARGUMENT, x -> x.channels(1000));
        for (int act = 5; act <= 7; act += 2) {
            int gone = act;
            unchanged("move of an act that is not planned", STATE, x -> x.move(gone, 400));
            unchanged("drop of an act that is not planned", STATE, x -> drop(x, gone));
            unchanged("firstStart of an act that is not planned", STATE, x -> x.firstStart(gone, 0));
            unchanged("grant of an act that is not planned", STATE, x -> x.grant(gone));
        }
    }

    private static void fullCounts() {
        unchanged("a seventh set", STATE, x -> x.startSet(500));
        unchanged("a 17th act", STATE, x -> x.plan(0, 700, 10, 0, 10, 10, 1));
        unchanged("reason of a 17th act", STATE, x -> x.reason(0, 700, 10, 0, 10, 10, 1));
        unchanged("a seventh letter", STATE, x -> x.type('s'));
        unchanged("a word that is no wish", STATE, x -> x.grant(0));
        unchanged("a sixth storm", STATE, x -> x.storm(0, 200, 200));
    }

    private static void seen() {
        changed("a set", x -> x.startSet(100));
        changed("a change-over", x -> x.setChange(0, 6));
        changed("a change-over of one less", x -> x.setChange(1, 9));
        changed("a bound", x -> x.setBound(2, 76));
        changed("a wind", x -> x.setWind(4, 1));
        changed("an act", x -> x.plan(0, 500, 1, 0, 0, 0, NONE));
        changed("a move", x -> x.move(1, 201));
        changed("a drop", x -> drop(x, 6));
        changed("a letter", x -> x.type('s'));
        changed("a wiped word", Festivalgrid::wipe);
        changed("a wish", x -> x.grant(1));
        changed("a storm on no act", x -> x.storm(1, 0, 1));
    }

    public static void main(String[] args) {
        on(UnchangedTests::busyDay);
        seen();
        refusals();
        questions();
        wrongArguments();
        on(UnchangedTests::fullDay);
        fullCounts();
        System.out.println(wrong == 0 ? "UnchangedTests: " + calls + " calls change nothing"
            : wrong + " answers are not as due");
        if (wrong != 0) System.exit(1);
    }
}
