/**
 * Rain gauges of a valley, the runners who carry their counts to the village,
 * and the ledger that the village keeps of them.
 */
public final class ToldDrops {
    public static final int NO_SUCH = -1000001, BAD_VALUE = -1000002, BAD_TEXT = -1000003, TOO_MANY = -1000004, NOT_POSSIBLE = -1000005, NONE = -1000006;
    public static final int WHEEL = 0, GUESS = 1;

    private static final int GAUGES = 6, VILLAGE = 0, MOST_RUNNERS = 20;
    private static final int LEAST_WHEEL = 4, MOST_WHEEL = 60;
    private static final int MOST_MOUTH = 9, MOST_CUP = 50, MOST_SHARE = 200, MOST_WAY = 9;
    private static final int MOST_AMOUNT = 99, MOST_HOURS_A_CALL = 24, MOST_HOURS = 9999, MOST_HOURS_TRIED = 500;
    private static final int MOST_PAD = 60, MOST_HISTORY = 6, SLOTS = 2;
    private static final int CUP_FACT = 4, TIPS_FACT = 5, CAUGHT_FACT = 7, POURED_FACT = 8;

    private final Valley now = new Valley();
    private final Valley trial = new Valley();
    private final History history = new History();
    private final Valley[] slots = new Valley[SLOTS];
    private final boolean[] saved = new boolean[SLOTS];
    private final Pad pad = new Pad();
    private final OrderReader reader = new OrderReader(pad);

    /** Makes dry gauges, at the hour 0. */
    public ToldDrops() {
        for (int slot = 0; slot < slots.length; slot++) {
            slots[slot] = new Valley();
        }
    }

    // ---- changes

    /** Changes a setting; returns the previous value. */
    public int set(int setting, int value) {
        if (setting == WHEEL && within(value, LEAST_WHEEL, MOST_WHEEL)) {
            history.record(now);
            int previous = now.wheel;
            now.changeWheels(value);
            return previous;
        }
        if (setting == GUESS && within(value, 0, 1)) {
            history.record(now);
            int previous = now.guess;
            now.guess = value;
            return previous;
        }
        return BAD_VALUE;
    }

    /** Changes a gauge; returns the drops in its cup. */
    public int gauge(int gauge, int mouth, int cup, int share, int way) {
        Gauge changed = now.gaugeAt(gauge);
        if (changed == null) {
            return NO_SUCH;
        }
        boolean sizesFit = within(mouth, 1, MOST_MOUTH) && within(cup, 1, MOST_CUP);
        if (!sizesFit || !within(share, 0, MOST_SHARE) || !within(way, 0, MOST_WAY)) {
            return BAD_VALUE;
        }
        history.record(now);
        changed.mouth = mouth;
        changed.cup = cup;
        changed.share = share;
        changed.way = way;
        return changed.drops;
    }

    /** Lets it rain for some hours; returns how many tips there are in them. */
    public int rain(int amount, int hours) {
        if (!within(amount, 0, MOST_AMOUNT) || !within(hours, 1, MOST_HOURS_A_CALL)) {
            return BAD_VALUE;
        }
        if (!now.hasTimeFor(hours)) {
            return TOO_MANY;
        }
        history.record(now);
        return now.passHours(amount, hours);
    }

    /** Sends a runner from a gauge; returns the wheel that the runner carries. */
    public int send(int gauge) {
        if (now.gaugeAt(gauge) == null) {
            return NO_SUCH;
        }
        if (now.isFull()) {
            return TOO_MANY;
        }
        history.record(now);
        return now.sendRunner(gauge);
    }

    /** A runner is lost; returns the gauge from which the runner was sent. */
    public int lose(int runner) {
        Runner lost = now.runnerAt(runner);
        if (lost == null) {
            return NO_SUCH;
        }
        history.record(now);
        int gauge = lost.gauge;
        now.countAsLost(lost);
        now.removeRunner(runner);
        return gauge;
    }

    /** A runner tells twice; returns how many are on the way then. */
    public int twice(int runner) {
        Runner first = now.runnerAt(runner);
        if (first == null) {
            return NO_SUCH;
        }
        if (now.isFull()) {
            return TOO_MANY;
        }
        history.record(now);
        now.addSecondOf(first);
        return now.onTheWay;
    }

    /** Does the orders of the pad and empties it; returns how many are done. */
    public int run() {
        if (reader.findFault() != NONE) {
            return BAD_TEXT;
        }
        history.record(now);
        reader.goToStart();
        int done = 0;
        for (int order = 0; order < MOST_PAD && reader.readOrder(); order++) {
            if (obeyOrder()) {
                done++;
            }
            reader.passSeparator();
        }
        pad.length = 0;
        return done;
    }

    // ---- what there is

    /** Tells something about a gauge. */
    public int gaugeOf(int gauge, int what) {
        Gauge asked = now.gaugeAt(gauge);
        return asked == null ? NO_SUCH : now.factOf(asked, what);
    }

    /** Tells something that the ledger has of a gauge. */
    public int ledger(int gauge, int what) {
        Gauge asked = now.gaugeAt(gauge);
        if (asked == null) {
            return NO_SUCH;
        }
        Page page = asked.page;
        switch (what) {
            case 0: return page.told;
            case 1: return page.latestHour;
            case 2: return now.wheelAt(page.latestTips);
            case 3: return asked.gap();
            case 4: return page.taken;
            case 5: return page.tooLate;
            case 6: return page.toldTwice;
            case 7: return page.lost;
            default: return BAD_VALUE;
        }
    }

    /** Tells something about a runner. */
    public int runner(int runner, int what) {
        Runner asked = now.runnerAt(runner);
        if (asked == null) {
            return NO_SUCH;
        }
        switch (what) {
            case 0: return asked.gauge;
            case 1: return now.wheelAt(asked.tips);
            case 2: return asked.hour;
            case 3: return asked.hoursLeft;
            default: return BAD_VALUE;
        }
    }

    /** Tells a number of the whole valley. */
    public int count(int what) {
        switch (what) {
            case 0: return now.wheel;
            case 1: return now.guess;
            case 2: return now.hours;
            case 3: return now.onTheWay;
            case 4: return now.sumOf(CAUGHT_FACT);
            case 5: return now.sumOf(POURED_FACT) + now.sumOf(CUP_FACT);
            case 6: return now.sumOf(TIPS_FACT);
            case 7: return now.sumOfTold();
            case 8: return now.gaugesWithGap();
            case 9: return pad.length;
            case 10: return history.size;
            default: return BAD_VALUE;
        }
    }

    // ---- what if

    /** Tells in how many hours of rain a gauge has tipped WHEEL times since its latest telling. */
    public int untilRound(int gauge, int amount) {
        trial.copyFrom(now);
        Gauge asked = trial.gaugeAt(gauge);
        if (asked == null) {
            return NO_SUCH;
        }
        if (!within(amount, 0, MOST_AMOUNT)) {
            return BAD_VALUE;
        }
        // Nobody comes in these hours: what is asked goes by the telling that was taken before them.
        for (int hours = 0; hours <= MOST_HOURS_TRIED; hours++) {
            if (asked.untold() >= trial.wheel) {
                return hours;
            }
            asked.catchRain(amount);
        }
        return NONE;
    }

    /** Tells the gap of a gauge if a runner was sent now and came before all others. */
    public int ifSent(int gauge) {
        trial.copyFrom(now);
        Gauge asked = trial.gaugeAt(gauge);
        if (asked == null) {
            return NO_SUCH;
        }
        // Without the others there is room for this one, and with the way 0 nobody and no hour comes ahead.
        trial.onTheWay = 0;
        asked.way = 0;
        trial.sendRunner(gauge);
        return asked.gap();
    }

    /** Tells the gap of a gauge when all runners on the way have come, with dry hours until then. */
    public int ifAllCome(int gauge) {
        trial.copyFrom(now);
        Gauge asked = trial.gaugeAt(gauge);
        if (asked == null) {
            return NO_SUCH;
        }
        trial.passHours(0, trial.longestWay());
        return asked.gap();
    }

    /** Finds the gauge whose wheel went on the most since its latest telling. */
    public int mostUntold() {
        int most = 0;
        int found = NONE;
        for (int gauge = 0; gauge < GAUGES; gauge++) {
            int untold = now.gauges[gauge].untold();
            if (untold > most) {
                most = untold;
                found = gauge;
            }
        }
        return found;
    }

    // ---- texts

    /** Appends characters to the pad; returns its length then. */
    public int put(long characters) {
        int number = charactersIn(characters);
        if (number == 0) {
            return BAD_VALUE;
        }
        if (pad.length + number > MOST_PAD) {
            return TOO_MANY;
        }
        for (int place = number - 1; place >= 0; place--) {
            pad.append((char) codeAt(characters, place));
        }
        return pad.length;
    }

    /** Empties the pad; returns the length that it had. */
    public int wipe() {
        int length = pad.length;
        pad.length = 0;
        return length;
    }

    /** Tells the fault of the pad. */
    public int fault() {
        return reader.findFault();
    }

    // ---- undo, saving

    /** Undoes the latest change; returns how many can be undone then. */
    public int undo() {
        return history.takeBack(now) ? history.size : NOT_POSSIBLE;
    }

    /** Saves what there is in a slot; returns the hours. */
    public int save(int slot) {
        if (!within(slot, 0, SLOTS - 1)) {
            return BAD_VALUE;
        }
        slots[slot].copyFrom(now);
        saved[slot] = true;
        return now.hours;
    }

    /** Restores what was saved in a slot; returns the hours then. */
    public int restore(int slot) {
        if (!within(slot, 0, SLOTS - 1)) {
            return BAD_VALUE;
        }
        if (!saved[slot]) {
            return NOT_POSSIBLE;
        }
        history.record(now);
        now.copyFrom(slots[slot]);
        return now.hours;
    }

    private static boolean within(int value, int least, int most) {
        return value >= least && value <= most;
    }

    /** Does the order that was read last, and tells whether it could be done. */
    private boolean obeyOrder() {
        if (reader.kind == 's') {
            return now.sendRunner(reader.gauge) >= 0;
        }
        if (!now.hasTimeFor(reader.hours)) {
            return false;
        }
        now.passHours(reader.amount, reader.hours);
        return true;
    }

    /** How many characters a number holds; 0 if it is not a number of characters. */
    private static int charactersIn(long characters) {
        int number = 0;
        while (number < 8 && codeAt(characters, number) != 0) {
            if (!within(codeAt(characters, number), 33, 126)) {
                return 0;
            }
            number++;
        }
        boolean emptyAbove = number == 8 || characters >>> (8 * number) == 0;
        return emptyAbove ? number : 0;
    }

    /** The code at a place, counted from the last character. */
    private static int codeAt(long characters, int place) {
        return (int) (characters >>> (8 * place)) & 255;
    }

    /** All that undo and the slots bring back: settings, hours, gauges and runners. */
    private static final class Valley {
        int wheel = 10;
        int guess = 1;
        int hours;
        int onTheWay;
        final Gauge[] gauges = new Gauge[GAUGES];
        final Runner[] runners = new Runner[MOST_RUNNERS];

        Valley() {
            for (int gauge = 0; gauge < gauges.length; gauge++) {
                gauges[gauge] = new Gauge(gauge);
            }
            for (int runner = 0; runner < runners.length; runner++) {
                runners[runner] = new Runner();
            }
        }

        void copyFrom(Valley other) {
            wheel = other.wheel;
            guess = other.guess;
            hours = other.hours;
            onTheWay = other.onTheWay;
            for (int gauge = 0; gauge < GAUGES; gauge++) {
                gauges[gauge].copyFrom(other.gauges[gauge]);
            }
            for (int runner = 0; runner < onTheWay && runner < MOST_RUNNERS; runner++) {
                runners[runner].copyFrom(other.runners[runner]);
            }
        }

        /** The gauge of a number, null if there is no such gauge. */
        Gauge gaugeAt(int number) {
            return number >= 0 && number < gauges.length ? gauges[number] : null;
        }

        /** The runner of a number, null if there is no such runner on the way. */
        Runner runnerAt(int number) {
            return number >= 0 && number < onTheWay && number < runners.length ? runners[number] : null;
        }

        boolean isFull() {
            return onTheWay >= runners.length;
        }

        boolean hasTimeFor(int more) {
            return hours + more <= MOST_HOURS;
        }

        int wheelAt(int tips) {
            return wheel > 0 ? tips % wheel : 0;
        }

        void changeWheels(int value) {
            for (int runner = 0; runner < onTheWay && runner < runners.length; runner++) {
                countAsLost(runners[runner]);
            }
            onTheWay = 0;
            wheel = value;
        }

        /** Lets hours of rain of an amount pass, and returns the tips in them. */
        int passHours(int amount, int number) {
            int tips = 0;
            for (int hour = 0; hour < number; hour++) {
                for (Gauge gauge : gauges) {
                    tips += gauge.catchRain(amount);
                }
                hours++;
                moveRunners();
            }
            return tips;
        }

        /** Brings all runners an hour nearer; those who have come tell and are gone. */
        private void moveRunners() {
            int number = 0;
            for (int unmoved = onTheWay; unmoved > 0; unmoved--) {
                Runner runner = runnerAt(number);
                if (runner == null) {
                    return;
                }
                runner.hoursLeft--;
                if (runner.hoursLeft > 0) {
                    number++;
                } else {
                    hear(runner);
                    removeRunner(number);
                }
            }
        }

        /** Sends a runner, and returns the wheel that is carried, or why nobody can be sent. */
        int sendRunner(int number) {
            Gauge gauge = gaugeAt(number);
            if (gauge == null) {
                return NO_SUCH;
            }
            Runner sent = addRunner();
            if (sent == null) {
                return TOO_MANY;
            }
            sent.gauge = number;
            sent.tips = gauge.tips;
            sent.hour = hours;
            sent.villageCaught = gauges[VILLAGE].caught;
            sent.hoursLeft = gauge.way;
            if (sent.hoursLeft == 0) {
                hear(sent);
                removeRunner(onTheWay - 1);
            }
            return wheelAt(gauge.tips);
        }

        void addSecondOf(Runner first) {
            Runner second = addRunner();
            if (second != null) {
                second.copyFrom(first);
                second.hoursLeft++;
            }
        }

        /** The row of a new last runner, null if there is no room. */
        private Runner addRunner() {
            if (onTheWay < 0 || onTheWay >= runners.length) {
                return null;
            }
            Runner added = runners[onTheWay];
            onTheWay++;
            return added;
        }

        /** Takes a runner from the way; the row is kept behind the others for a later one. */
        void removeRunner(int number) {
            Runner removed = runnerAt(number);
            int last = onTheWay - 1;
            if (removed == null || last >= runners.length) {
                return;
            }
            for (int runner = number; runner < last; runner++) {
                runners[runner] = runners[runner + 1];
            }
            runners[last] = removed;
            onTheWay = last;
        }

        void countAsLost(Runner runner) {
            Gauge gauge = gaugeAt(runner.gauge);
            if (gauge != null) {
                gauge.page.lost++;
            }
        }

        int longestWay() {
            int longest = 0;
            for (int runner = 0; runner < onTheWay && runner < runners.length; runner++) {
                longest = Math.max(longest, runners[runner].hoursLeft);
            }
            return longest;
        }

        /** Writes what a runner tells into the ledger, if it is taken. */
        private void hear(Runner runner) {
            Gauge gauge = gaugeAt(runner.gauge);
            if (gauge == null) {
                return;
            }
            Page page = gauge.page;
            if (runner.hour < page.latestHour) {
                page.tooLate++;
            } else if (page.taken > 0 && runner.hour == page.latestHour
                    && wheelAt(runner.tips) == wheelAt(page.latestTips)) {
                page.toldTwice++;
            } else {
                page.told += wentOn(gauge, runner);
                page.taken++;
                page.latestHour = runner.hour;
                page.latestTips = runner.tips;
                page.latestVillageCaught = runner.villageCaught;
            }
        }

        private int wentOn(Gauge gauge, Runner runner) {
            int went = wheelAt(runner.tips) - wheelAt(gauge.page.latestTips);
            if (went < 0) {
                went += wheel;
            }
            if (guess == 1) {
                went += wheel * roundsFor(expectedTips(gauge, runner) - went);
            }
            return went;
        }

        /** The tips that the gauge of the village lets expect between the latest telling and this one. */
        private int expectedTips(Gauge gauge, Runner runner) {
            int villageMouth = gauges[VILLAGE].mouth;
            if (villageMouth <= 0 || gauge.cup <= 0) {
                return 0;
            }
            int fell = runner.villageCaught - gauge.page.latestVillageCaught;
            return fell * gauge.mouth / villageMouth / gauge.cup;
        }

        /**
         * How many rounds of the wheel come nearer to the tips that are missing.
         * One more round does so as long as more than half a round is missing;
         * it is reckoned at once, as there can be millions of them.
         */
        private int roundsFor(int missing) {
            if (missing <= 0 || wheel <= 0) {
                return 0;
            }
            return (2 * missing + wheel - 1) / (2 * wheel);
        }

        int factOf(Gauge gauge, int what) {
            switch (what) {
                case 0: return gauge.mouth;
                case 1: return gauge.cup;
                case 2: return gauge.share;
                case 3: return gauge.way;
                case CUP_FACT: return gauge.drops;
                case TIPS_FACT: return gauge.tips;
                case 6: return wheelAt(gauge.tips);
                case CAUGHT_FACT: return gauge.caught;
                case POURED_FACT: return gauge.poured;
                default: return BAD_VALUE;
            }
        }

        int sumOf(int what) {
            int sum = 0;
            for (Gauge gauge : gauges) {
                sum += factOf(gauge, what);
            }
            return sum;
        }

        int sumOfTold() {
            int sum = 0;
            for (Gauge gauge : gauges) {
                sum += gauge.page.told;
            }
            return sum;
        }

        int gaugesWithGap() {
            int number = 0;
            for (Gauge gauge : gauges) {
                if (gauge.gap() != 0) {
                    number++;
                }
            }
            return number;
        }
    }

    /** A gauge, its cup and all that went through it, with its page of the ledger. */
    private static final class Gauge {
        int mouth = 3;
        int cup = 10;
        int share = 100;
        int way;
        int drops;
        int tips;
        int caught;
        int poured;
        final Page page = new Page();

        Gauge(int way) {
            this.way = way;
        }

        void copyFrom(Gauge other) {
            mouth = other.mouth;
            cup = other.cup;
            share = other.share;
            way = other.way;
            drops = other.drops;
            tips = other.tips;
            caught = other.caught;
            poured = other.poured;
            page.copyFrom(other.page);
        }

        /** Catches the rain of an hour, and returns how often the cup tips. */
        int catchRain(int amount) {
            int fell = amount * mouth * share / 100;
            caught += fell;
            drops += fell;
            int tipped = cup > 0 ? drops / cup : 0;
            drops -= tipped * cup;
            poured += tipped * cup;
            tips += tipped;
            return tipped;
        }

        int gap() {
            return tips - page.told;
        }

        int untold() {
            return tips - page.latestTips;
        }
    }

    /**
     * What the ledger has of a gauge. Of the latest telling it keeps the tips,
     * not the wheel: so the wheel follows when WHEEL is set.
     */
    private static final class Page {
        int told;
        int latestHour;
        int latestTips;
        int latestVillageCaught;
        int taken;
        int tooLate;
        int toldTwice;
        int lost;

        void copyFrom(Page other) {
            told = other.told;
            latestHour = other.latestHour;
            latestTips = other.latestTips;
            latestVillageCaught = other.latestVillageCaught;
            taken = other.taken;
            tooLate = other.tooLate;
            toldTwice = other.toldTwice;
            lost = other.lost;
        }
    }

    /** A runner on the way: the telling, and the hours until it comes. */
    private static final class Runner {
        int gauge;
        int tips;
        int hour;
        int villageCaught;
        int hoursLeft;

        void copyFrom(Runner other) {
            gauge = other.gauge;
            tips = other.tips;
            hour = other.hour;
            villageCaught = other.villageCaught;
            hoursLeft = other.hoursLeft;
        }
    }

    /** The states before the latest changes, the oldest first; its rows are made once and used again. */
    private static final class History {
        final Valley[] states = new Valley[MOST_HISTORY];
        int size;

        History() {
            for (int state = 0; state < states.length; state++) {
                states[state] = new Valley();
            }
        }

        void record(Valley before) {
            if (size >= states.length) {
                dropOldest();
            }
            if (size >= 0 && size < states.length) {
                states[size].copyFrom(before);
                size++;
            }
        }

        /** Gives the latest state back; false if there is none. */
        boolean takeBack(Valley into) {
            if (size <= 0 || size > states.length) {
                return false;
            }
            size--;
            into.copyFrom(states[size]);
            return true;
        }

        private void dropOldest() {
            int last = states.length - 1;
            Valley oldest = states[0];
            for (int state = 0; state < last; state++) {
                states[state] = states[state + 1];
            }
            states[last] = oldest;
            size = last;
        }
    }

    /** The pad: a text that cannot grow beyond its signs. */
    private static final class Pad {
        final char[] signs = new char[MOST_PAD];
        int length;

        void append(char sign) {
            if (length >= 0 && length < signs.length) {
                signs[length] = sign;
                length++;
            }
        }

        /** The sign at a place, 0 behind the end: no sign of the pad is 0. */
        char signAt(int place) {
            return place >= 0 && place < length && place < signs.length ? signs[place] : 0;
        }

        /** The digit at a place, -1 if there is none. */
        int digitAt(int place) {
            char sign = signAt(place);
            return sign >= '0' && sign <= '9' ? sign - '0' : -1;
        }
    }

    /** Reads orders from the pad; where it stops short, it stands at the fault. */
    private static final class OrderReader {
        final Pad pad;
        int at;
        char kind;
        int amount;
        int hours;
        int gauge;

        OrderReader(Pad pad) {
            this.pad = pad;
        }

        void goToStart() {
            at = 0;
        }

        /** The index of the fault, NONE if the whole pad can be read. */
        int findFault() {
            goToStart();
            for (int order = 0; order < MOST_PAD && readOrder(); order++) {
                if (at >= pad.length) {
                    return NONE;
                }
                if (pad.signAt(at) != ';') {
                    return at;
                }
                passSeparator();
            }
            return at;
        }

        void passSeparator() {
            at++;
        }

        boolean readOrder() {
            kind = pad.signAt(at);
            if (kind != 'r' && kind != 's') {
                return false;
            }
            at++;
            return kind == 'r' ? readRain() : readGauge();
        }

        private boolean readRain() {
            amount = readNumber(0, MOST_AMOUNT);
            if (amount < 0 || pad.signAt(at) != 'h') {
                return false;
            }
            at++;
            hours = readNumber(1, MOST_HOURS_A_CALL);
            return hours >= 0;
        }

        private boolean readGauge() {
            gauge = readNumber(0, GAUGES - 1);
            return gauge >= 0;
        }

        /** A number of one or two digits, -1 if a sign cannot stand; no number of the orders has three. */
        private int readNumber(int least, int most) {
            int first = pad.digitAt(at);
            if (first < least || first > most) {
                return -1;
            }
            at++;
            int second = pad.digitAt(at);
            if (first == 0 || second < 0) {
                return first;
            }
            int both = 10 * first + second;
            if (both > most) {
                return -1;
            }
            at++;
            return both;
        }
    }
}
