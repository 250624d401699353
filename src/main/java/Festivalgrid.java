import java.util.Arrays;

/** The plan of a festival's day: acts on stages, power, radio channels, noise, wishes and storms. */
public final class Festivalgrid {
    public static final int NONE = -1;

    private static final int DAY = 1000;
    private static final int HOUR = 60;
    private static final int HOURS = 17;
    private static final int STAGES = 3;
    private static final int HOUSES = 3;
    private static final int PHASES = 3;
    private static final int CHANNELS = 32;

    private static final int MOST_SETS = 6;
    private static final int MOST_ACTS = 16;
    private static final int MOST_LETTERS = 6;
    private static final int MOST_STORMS = 5;

    private static final int SET_DISTANCE = 10;
    private static final int SET_POWER = 100;
    private static final int MOST_CHANGE = 60;
    private static final int FIRST_BOUND = 60;
    private static final int LEAST_BOUND = 10;
    private static final int MOST_BOUND = 300;
    private static final int MOST_WIND = 10;
    private static final int MOST_LENGTH = 200;
    private static final int MOST_STRENGTH = 200;
    private static final int GAP = 10;
    private static final int EVENING = 600;
    private static final int EVENING_LESS = 10;

    /** What is answered for a plan that keeps the four points; else the number of the point. */
    private static final int FINE = 0;
    private static final int STAGE_POINT = 1;
    private static final int POWER_POINT = 2;
    private static final int CHANNEL_POINT = 3;
    private static final int NOISE_POINT = 4;

    private static final Wish[] WISHES = Wish.values();

    private final int[] sets = new int[MOST_SETS];
    private int setCount;
    private final int[] changes = new int[STAGES];
    private final int[] bounds = new int[HOUSES];
    private final int[] winds = new int[HOURS];
    private final Act[] acts = new Act[MOST_ACTS];
    private int actCount;
    private final StringBuilder word = new StringBuilder();
    private final Storm[] storms = new Storm[MOST_STORMS];
    private int stormCount;

    // What lookAt found in the minute at which it looked last; kept here so that no call makes rows.
    private final int[] loads = new int[PHASES];
    private final int[] noises = new int[HOUSES];
    private int channelSet;
    private boolean channelsTouch;

    public Festivalgrid() {
        Arrays.fill(bounds, FIRST_BOUND);
        for (int i = 0; i < MOST_ACTS; i++) {
            acts[i] = new Act();
        }
        for (int i = 0; i < MOST_STORMS; i++) {
            storms[i] = new Storm();
        }
    }

    // ---- what there is

    public int startSet(int minute) throws IllegalArgumentException, IllegalStateException {
        requireMinute(minute);
        if (setCount >= MOST_SETS) {
            throw new IllegalStateException("all sets are started");
        }
        for (int i = 0; i < setCount; i++) {
            if (Math.abs(sets[i] - minute) < SET_DISTANCE) {
                return NONE;
            }
        }
        sets[setCount] = minute;
        setCount++;
        return setCount;
    }

    public boolean setChange(int stage, int minutes) throws IndexOutOfBoundsException, IllegalArgumentException {
        requireStage(stage);
        requireRange(minutes, 0, MOST_CHANGE);
        int before = changes[stage];
        changes[stage] = minutes;
        if (isStageFine(stage)) {
            return true;
        }
        changes[stage] = before;
        return false;
    }

    public boolean setBound(int house, int bound) throws IndexOutOfBoundsException, IllegalArgumentException {
        requireHouse(house);
        requireRange(bound, LEAST_BOUND, MOST_BOUND);
        int before = bounds[house];
        bounds[house] = bound;
        if (brokenWithin(0, DAY) == FINE) {
            return true;
        }
        bounds[house] = before;
        return false;
    }

    public boolean setWind(int hour, int wind) throws IndexOutOfBoundsException, IllegalArgumentException {
        if (hour < 0 || hour >= HOURS) {
            throw new IndexOutOfBoundsException("no such hour");
        }
        requireRange(wind, -MOST_WIND, MOST_WIND);
        int before = winds[hour];
        winds[hour] = wind;
        if (brokenWithin(hour * HOUR, Math.min(hour * HOUR + HOUR, DAY)) == FINE) {
            return true;
        }
        winds[hour] = before;
        return false;
    }

    // ---- acts

    public int plan(int stage, int start, int length, int phase, int draw, int loud, int channel)
            throws IndexOutOfBoundsException, IllegalArgumentException, IllegalStateException {
        Act act = tryAct(stage, start, length, phase, draw, loud, channel);
        if (brokenBy(act) != FINE) {
            act.planned = false;
            return NONE;
        }
        actCount++;
        return actCount - 1;
    }

    public int reason(int stage, int start, int length, int phase, int draw, int loud, int channel)
            throws IndexOutOfBoundsException, IllegalArgumentException, IllegalStateException {
        Act act = tryAct(stage, start, length, phase, draw, loud, channel);
        int point = brokenBy(act);
        act.planned = false;
        return point;
    }

    public boolean move(int act, int start)
            throws IndexOutOfBoundsException, IllegalArgumentException, IllegalStateException {
        requireAct(act);
        requireMinute(start);
        requirePlanned(act);
        Act moved = acts[act];
        int before = moved.start;
        moved.start = start;
        if (brokenBy(moved) == FINE) {
            return true;
        }
        moved.start = before;
        return false;
    }

    public void drop(int act) throws IndexOutOfBoundsException, IllegalStateException {
        requireAct(act);
        requirePlanned(act);
        acts[act].planned = false;
    }

    public int start(int act) throws IndexOutOfBoundsException {
        requireAct(act);
        return acts[act].planned ? acts[act].start : NONE;
    }

    public int firstStart(int act, int from)
            throws IndexOutOfBoundsException, IllegalArgumentException, IllegalStateException {
        requireAct(act);
        requireMinute(from);
        requirePlanned(act);
        Act asked = acts[act];
        int before = asked.start;
        int found = firstFineStart(asked, from);
        asked.start = before;
        return found;
    }

    // ---- wishes

    public int type(char letter) throws IllegalArgumentException, IllegalStateException {
        requireRange(letter, 'a', 'z');
        if (word.length() >= MOST_LETTERS) {
            throw new IllegalStateException("the word is full");
        }
        word.append(letter);
        return word.length();
    }

    public int wipe() {
        int letters = word.length();
        word.setLength(0);
        return letters;
    }

    public boolean grant(int act) throws IndexOutOfBoundsException, IllegalStateException {
        requireAct(act);
        requirePlanned(act);
        Wish wish = typedWish();
        if (wish == null) {
            throw new IllegalStateException("the word is no wish");
        }
        Act wishing = acts[act];
        int draw = wishing.draw;
        int loud = wishing.loud;
        int channel = wishing.channel;
        wishing.take(wish);
        if (brokenBy(wishing) == FINE) {
            return true;
        }
        wishing.draw = draw;
        wishing.loud = loud;
        wishing.channel = channel;
        return false;
    }

    public int ofAct(int act, int what) throws IndexOutOfBoundsException {
        requireAct(act);
        switch (what) {
            case 0:
                return acts[act].draw;
            case 1:
                return acts[act].loud;
            case 2:
                return acts[act].channel;
            default:
                throw new IndexOutOfBoundsException("no such what");
        }
    }

    // ---- storms

    public int storm(int stage, int first, int minutes)
            throws IndexOutOfBoundsException, IllegalArgumentException, IllegalStateException {
        requireStage(stage);
        requireMinute(first);
        requireRange(minutes, 1, MOST_LENGTH);
        if (stormCount >= MOST_STORMS) {
            throw new IllegalStateException("all storms have been");
        }
        Storm storm = storms[stormCount];
        stormCount++;
        storm.stage = stage;
        storm.first = first;
        storm.end = Math.min(first + minutes, DAY);
        callOff(storm);
        return replan(storm.end);
    }

    // ---- minutes

    public int load(int minute, int phase) throws IndexOutOfBoundsException, IllegalArgumentException {
        requirePhase(phase);
        requireMinute(minute);
        lookAt(minute);
        return loads[phase];
    }

    public int noise(int minute, int house) throws IndexOutOfBoundsException, IllegalArgumentException {
        requireHouse(house);
        requireMinute(minute);
        lookAt(minute);
        return noises[house];
    }

    public int channels(int minute) throws IllegalArgumentException {
        requireMinute(minute);
        lookAt(minute);
        return channelSet;
    }

    public boolean isFineByMinutes() {
        for (Act act : acts) {
            if (act.planned && act.end() > DAY) {
                return false;
            }
        }
        for (int minute = 0; minute < DAY; minute++) {
            if (!areStagesFineAt(minute) || brokenAt(minute) != FINE) {
                return false;
            }
        }
        return true;
    }

    // ---- what the arguments must be

    private static void requireRange(int value, int least, int most) {
        if (value < least || value > most) {
            throw new IllegalArgumentException("out of range");
        }
    }

    private static void requireMinute(int minute) {
        requireRange(minute, 0, DAY - 1);
    }

    private static void requireStage(int stage) {
        if (stage < 0 || stage >= STAGES) {
            throw new IndexOutOfBoundsException("no such stage");
        }
    }

    private static void requireHouse(int house) {
        if (house < 0 || house >= HOUSES) {
            throw new IndexOutOfBoundsException("no such house");
        }
    }

    private static void requirePhase(int phase) {
        if (phase < 0 || phase >= PHASES) {
            throw new IndexOutOfBoundsException("no such phase");
        }
    }

    private void requireAct(int act) {
        if (act < 0 || act >= actCount) {
            throw new IndexOutOfBoundsException("no such act");
        }
    }

    /** Asks for an act's number that requireAct has let pass. */
    private void requirePlanned(int act) {
        if (!acts[act].planned) {
            throw new IllegalStateException("the act is not planned");
        }
    }

    /** Puts an act on trial into the plan, in the first free place; it has no number yet. */
    private Act tryAct(int stage, int start, int length, int phase, int draw, int loud, int channel) {
        requireStage(stage);
        requirePhase(phase);
        requireMinute(start);
        requireRange(length, 1, MOST_LENGTH);
        requireRange(draw, 0, MOST_STRENGTH);
        requireRange(loud, 0, MOST_STRENGTH);
        requireRange(channel, NONE, CHANNELS - 1);
        if (actCount >= MOST_ACTS) {
            throw new IllegalStateException("all acts are used");
        }
        Act act = acts[actCount];
        act.stage = stage;
        act.start = start;
        act.length = length;
        act.phase = phase;
        act.draw = draw;
        act.loud = loud;
        act.channel = channel;
        act.planned = true;
        return act;
    }

    // ---- the first point: the stages

    private boolean isStageFine(int stage) {
        for (Act act : acts) {
            if (act.planned && act.stage == stage && !fitsOnStage(act)) {
                return false;
            }
        }
        return true;
    }

    private boolean fitsOnStage(Act act) {
        if (act.end() > DAY) {
            return false;
        }
        for (Storm storm : storms) {
            if (storm.hits(act)) {
                return false;
            }
        }
        int change = changes[act.stage];
        for (Act other : acts) {
            if (other != act && other.planned && other.stage == act.stage && act.isTooNear(other, change)) {
                return false;
            }
        }
        return true;
    }

    private boolean areStagesFineAt(int minute) {
        for (Act act : acts) {
            if (act.playsAt(minute) && (isStormyAt(act.stage, minute) || isHeldByAnother(act, minute))) {
                return false;
            }
        }
        return true;
    }

    private boolean isStormyAt(int stage, int minute) {
        for (Storm storm : storms) {
            if (storm.stage == stage && minute >= storm.first && minute < storm.end) {
                return true;
            }
        }
        return false;
    }

    /** An act holds its stage from its start on until the change-over behind it is over. */
    private boolean isHeldByAnother(Act act, int minute) {
        int change = changes[act.stage];
        for (Act other : acts) {
            if (other != act && other.planned && other.stage == act.stage
                    && minute >= other.start && minute < other.end() + change) {
                return true;
            }
        }
        return false;
    }

    // ---- all points

    /** The first point that an act breaks in a plan that is fine without it, so only its own minutes count. */
    private int brokenBy(Act act) {
        if (!fitsOnStage(act)) {
            return STAGE_POINT;
        }
        return brokenWithin(act.start, act.end());
    }

    /** The first one of the points 2 to 4 that is broken in any of the minutes before the end. */
    private int brokenWithin(int first, int end) {
        int least = FINE;
        for (int minute = first; minute < end; minute++) {
            int point = brokenAt(minute);
            if (point == POWER_POINT) {
                return POWER_POINT;
            }
            if (point != FINE && (least == FINE || point < least)) {
                least = point;
            }
        }
        return least;
    }

    private int brokenAt(int minute) {
        lookAt(minute);
        int power = SET_POWER * setsAt(minute);
        for (int load : loads) {
            if (load > power) {
                return POWER_POINT;
            }
        }
        if (channelsTouch || hasMiddleChannel(channelSet)) {
            return CHANNEL_POINT;
        }
        int less = minute >= EVENING ? EVENING_LESS : 0;
        for (int house = 0; house < HOUSES; house++) {
            if (noises[house] > bounds[house] - less) {
                return NOISE_POINT;
            }
        }
        return FINE;
    }

    private int setsAt(int minute) {
        int running = 0;
        for (int i = 0; i < setCount; i++) {
            if (sets[i] <= minute) {
                running++;
            }
        }
        return running;
    }

    /** Twice the first channel less the second is the third where the first lies midway between them. */
    private static boolean hasMiddleChannel(int set) {
        if (Integer.bitCount(set) < 3) {
            return false;
        }
        for (int middle = 1; middle < CHANNELS - 1; middle++) {
            if (hasChannel(set, middle) && hasPairAround(set, middle)) {
                return true;
            }
        }
        return false;
    }

    private static boolean hasPairAround(int set, int middle) {
        for (int away = 1; away <= middle && middle + away < CHANNELS; away++) {
            if (hasChannel(set, middle - away) && hasChannel(set, middle + away)) {
                return true;
            }
        }
        return false;
    }

    private static boolean hasChannel(int set, int channel) {
        return channel >= 0 && channel < CHANNELS && (set >>> channel & 1) != 0;
    }

    private void lookAt(int minute) {
        Arrays.fill(loads, 0);
        Arrays.fill(noises, 0);
        channelSet = 0;
        channelsTouch = false;
        int wind = winds[minute / HOUR];
        for (Act act : acts) {
            if (act.playsAt(minute)) {
                addToLook(act, wind);
            }
        }
    }

    private void addToLook(Act act, int wind) {
        loads[act.phase] += act.draw;
        for (int house = 0; house < HOUSES; house++) {
            int gap = GAP + GAP * Math.abs(act.stage - house) + wind;
            noises[house] += Math.max(0, act.loud - gap);
        }
        int channel = act.channel;
        if (channel != NONE) {
            // The set alone would not show two acts on one channel, so touching is noted as they come.
            channelsTouch = channelsTouch || hasChannel(channelSet, channel - 1)
                    || hasChannel(channelSet, channel) || hasChannel(channelSet, channel + 1);
            channelSet |= 1 << channel;
        }
    }

    // ---- free starts

    /**
     * Finds the first fine start of a planned act, and leaves it there; NONE if there is none.
     * Points 2 to 4 depend in a minute only on who plays in it, so it is enough to find as many
     * good minutes on end as the act is long.
     */
    private int firstFineStart(Act act, int from) {
        int good = 0;
        for (int minute = from; minute < DAY; minute++) {
            act.start = minute;
            good = brokenAt(minute) == FINE ? good + 1 : 0;
            if (good >= act.length) {
                act.start = minute - act.length + 1;
                if (fitsOnStage(act)) {
                    return act.start;
                }
            }
        }
        return NONE;
    }

    private void callOff(Storm storm) {
        for (Act act : acts) {
            if (act.planned && storm.hits(act)) {
                act.planned = false;
                act.waits = true;
            }
        }
    }

    /** Plans the acts that wait again, from a minute on, and returns for how many there is no start. */
    private int replan(int from) {
        int lost = 0;
        for (int i = 0; i < MOST_ACTS; i++) {
            Act act = earliestWaiting();
            if (act == null) {
                break;
            }
            act.waits = false;
            act.planned = true;
            if (firstFineStart(act, from) == NONE) {
                act.planned = false;
                lost++;
            }
        }
        return lost;
    }

    private Act earliestWaiting() {
        Act earliest = null;
        for (Act act : acts) {
            if (act.waits && (earliest == null || act.start < earliest.start)) {
                earliest = act;
            }
        }
        return earliest;
    }

    // ---- wishes

    private Wish typedWish() {
        String typed = word.toString();
        for (Wish wish : WISHES) {
            if (wish.text.equals(typed)) {
                return wish;
            }
        }
        return null;
    }

    private enum Wish {
        LIGHT("light", 20, 0, false),
        DARK("dark", -20, 0, false),
        LOUD("loud", 0, 5, false),
        SOFT("soft", 0, -5, false),
        AIR("air", 0, 0, true);

        private final String text;
        private final int moreDraw;
        private final int moreLoud;
        private final boolean nextChannel;

        Wish(String text, int moreDraw, int moreLoud, boolean nextChannel) {
            this.text = text;
            this.moreDraw = moreDraw;
            this.moreLoud = moreLoud;
            this.nextChannel = nextChannel;
        }
    }

    private static final class Act {
        private int stage;
        private int start;
        private int length;
        private int phase;
        private int draw;
        private int loud;
        private int channel;
        private boolean planned;
        private boolean waits;

        private int end() {
            return start + length;
        }

        private boolean playsAt(int minute) {
            return planned && minute >= start && minute < start + length;
        }

        private boolean isTooNear(Act other, int change) {
            return start < other.end() + change && other.start < end() + change;
        }

        private void take(Wish wish) {
            draw = withinStrength(draw + wish.moreDraw);
            loud = withinStrength(loud + wish.moreLoud);
            if (wish.nextChannel) {
                channel = channel >= CHANNELS - 1 ? NONE : channel + 1;
            }
        }

        private static int withinStrength(int value) {
            return Math.max(0, Math.min(value, MOST_STRENGTH));
        }
    }

    /** The minutes of a storm from its first to before its end; one that has not come yet has no stage. */
    private static final class Storm {
        private int stage = NONE;
        private int first;
        private int end;

        private boolean hits(Act act) {
            return stage == act.stage && act.start < end && first < act.end();
        }
    }
}
