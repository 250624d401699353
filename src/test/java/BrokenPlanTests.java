import java.lang.reflect.Field;

/**
 * Promise 20 where it answers false. No call of the face lets a plan be that is not fine, so these tests reach behind
 * it: they change one field of a fine day and ask isFineByMinutes, just inside and just outside of each point.
 */
public final class BrokenPlanTests {
    private static final int NONE = Festivalgrid.NONE;

    private static int wrong;

    private static void due(String what, Object want, Object got) {
        if (!want.equals(got)) {
            wrong++;
            System.out.println(what + " answered " + got + ", due is " + want);
        }
    }

    private static Object field(Object of, String name) throws ReflectiveOperationException {
        Field field = of.getClass().getDeclaredField(name);
        field.setAccessible(true);
        return field.get(of);
    }

    private static void setAct(Festivalgrid x, int act, String name, int value) throws ReflectiveOperationException {
        Object changed = ((Object[]) field(x, "acts"))[act];
        Field field = changed.getClass().getDeclaredField(name);
        field.setAccessible(true);
        field.setInt(changed, value);
    }

    private static void setRow(Festivalgrid x, String name, int index, int value) throws ReflectiveOperationException {
        ((int[]) field(x, name))[index] = value;
    }

    /** One act on each stage at the minutes 590 to 609, and a later one on stage 0; a storm lies on stage 1. */
    private static Festivalgrid day() {
        Festivalgrid x = new Festivalgrid();
        int[] channels = {4, 9, 24};
        due("a set", 1, x.startSet(0));
        due("a second set", 2, x.startSet(605));
        for (int stage = 0; stage < 3; stage++) {
            due("act " + stage, stage, x.plan(stage, 590, 20, stage, 50, 20, channels[stage]));
        }
        due("act 3", 3, x.plan(0, 620, 30, 2, 100, 0, NONE));
        due("a storm", 0, x.storm(1, 700, 10));
        return x;
    }

    /** What is asked of an act: the value with which the day is fine, and the one with which it is not. */
    private static void act(String what, int act, String name, int fine, int broken) throws ReflectiveOperationException {
        Festivalgrid x = day();
        due("day", true, x.isFineByMinutes());
        setAct(x, act, name, fine);
        due(what + " " + fine, true, x.isFineByMinutes());
        setAct(x, act, name, broken);
        due(what + " " + broken, false, x.isFineByMinutes());
        setAct(x, act, name, fine);
        due(what + " " + fine + " again", true, x.isFineByMinutes());
    }

    private static void row(String what, String name, int index, int fine, int broken) throws ReflectiveOperationException {
        Festivalgrid x = day();
        setRow(x, name, index, fine);
        due(what + " " + fine, true, x.isFineByMinutes());
        setRow(x, name, index, broken);
        due(what + " " + broken, false, x.isFineByMinutes());
    }

    private static void stages() throws ReflectiveOperationException {
        act("the earlier act's start", 0, "start", 600, 601);
        act("the earlier act's length", 0, "length", 30, 31);
        act("the later act's start", 3, "start", 610, 609);
        act("the same start", 3, "start", 610, 590);
        row("the change-over", "changes", 0, 10, 11);
        act("a start before a storm", 1, "start", 680, 681);
        act("a start behind a storm", 1, "start", 710, 709);
        act("an act around a storm", 1, "length", 110, 130);
        act("a stage with a storm", 3, "start", 700, 595);
        act("a start near the end of the day", 3, "start", 970, 971);
        act("a last minute far beyond the day", 3, "start", 970, 999);
    }

    private static void power() throws ReflectiveOperationException {
        act("draw with one set", 0, "draw", 100, 101);
        act("draw with two sets", 3, "draw", 200, 201);
        Festivalgrid x = day();
        setAct(x, 1, "phase", 0);
        due("100 of two acts", true, x.isFineByMinutes());
        setAct(x, 1, "draw", 51);
        due("101 of two acts", false, x.isFineByMinutes());
        setAct(x, 1, "phase", 1);
        due("51 and 50 on two phases", true, x.isFineByMinutes());
    }

    private static void channels() throws ReflectiveOperationException {
        act("a channel above", 1, "channel", 6, 5);
        act("a channel below", 1, "channel", 2, 3);
        act("the same channel", 1, "channel", NONE, 4);
        act("a channel midway", 1, "channel", 13, 14);
    }

    private static void noise() throws ReflectiveOperationException {
        act("loudness from 600 on", 0, "loud", 60, 61);
        row("a bound from 600 on", "bounds", 1, 20, 19);
        Festivalgrid x = day();
        setAct(x, 0, "loud", 32);
        setRow(x, "winds", 9, -10);
        setRow(x, "winds", 10, -9);
        due("49 with wind -9", true, x.isFineByMinutes());
        setRow(x, "winds", 10, -10);
        due("52 with wind -10", false, x.isFineByMinutes());
        setAct(x, 0, "start", 580);
        due("52 up to 599", true, x.isFineByMinutes());
    }

    /** Two acts of one minute each, at the same start, and a draw without a set: at both ends of the day. */
    private static void minutes() throws ReflectiveOperationException {
        for (int minute = 0; minute < 1000; minute += 333) {
            Festivalgrid x = new Festivalgrid();
            due("an act", 0, x.plan(0, minute, 1, 0, 0, 0, NONE));
            due("another", 1, x.plan(1, minute, 1, 0, 0, 0, NONE));
            due("fine at " + minute, true, x.isFineByMinutes());
            setAct(x, 1, "stage", 0);
            due("the same start at " + minute, false, x.isFineByMinutes());
            setAct(x, 1, "stage", 2);
            due("another stage at " + minute, true, x.isFineByMinutes());
            setAct(x, 1, "draw", 1);
            due("a draw without a set at " + minute, false, x.isFineByMinutes());
        }
    }

    public static void main(String[] args) throws ReflectiveOperationException {
        stages();
        power();
        channels();
        noise();
        minutes();
        System.out.println(wrong == 0 ? "BrokenPlanTests: all answers are as due" : wrong + " answers are not as due");
        if (wrong != 0) System.exit(1);
    }
}
