import java.util.ArrayList;
import java.util.List;
import java.util.regex.Matcher;
import java.util.regex.Pattern;

/**
 * The document written a second time, as literally as it goes and without care
 * for speed: drops are tipped cup by cup, rounds are added one by one, a state
 * is copied whole, a text is read by a pattern.
 */
final class WordsModel {
    static final int NO_SUCH = -1000001, BAD_VALUE = -1000002, BAD_TEXT = -1000003, TOO_MANY = -1000004, NOT_POSSIBLE = -1000005, NONE = -1000006;

    private static final String ORDER = "(?:r(?:0|[1-9][0-9]?)h(?:[1-9]|1[0-9]|2[0-4])|s[0-5])";
    private static final Pattern TEXT = Pattern.compile(ORDER + "(?:;" + ORDER + ")*");

    private static final class Telling {
        int gauge, wheel, hour, village, allTips;

        Telling copy() {
            Telling t = new Telling();
            t.gauge = gauge; t.wheel = wheel; t.hour = hour; t.village = village; t.allTips = allTips;
            return t;
        }
    }

    private static final class OnTheWay {
        Telling telling;
        int comesAt;

        OnTheWay(Telling telling, int comesAt) {
            this.telling = telling; this.comesAt = comesAt;
        }
    }

    private static final class State {
        int[] settings = {10, 1};
        int hours;
        int[] mouth = {3, 3, 3, 3, 3, 3}, cup = {10, 10, 10, 10, 10, 10}, share = {100, 100, 100, 100, 100, 100}, way = {0, 1, 2, 3, 4, 5};
        int[] inCup = new int[6], tips = new int[6], caught = new int[6], poured = new int[6];
        int[] told = new int[6], taken = new int[6], late = new int[6], twice = new int[6], lost = new int[6];
        Telling[] latest = new Telling[6];
        List<OnTheWay> way20 = new ArrayList<>();

        State() {
            for (int g = 0; g < 6; g++) latest[g] = new Telling();
        }

        State copy() {
            State s = new State();
            s.settings = settings.clone(); s.hours = hours;
            s.mouth = mouth.clone(); s.cup = cup.clone(); s.share = share.clone(); s.way = way.clone();
            s.inCup = inCup.clone(); s.tips = tips.clone(); s.caught = caught.clone(); s.poured = poured.clone();
            s.told = told.clone(); s.taken = taken.clone(); s.late = late.clone(); s.twice = twice.clone(); s.lost = lost.clone();
            for (int g = 0; g < 6; g++) s.latest[g] = latest[g].copy();
            for (OnTheWay o : way20) s.way20.add(new OnTheWay(o.telling.copy(), o.comesAt));
            return s;
        }

        void catchRain(int g, int amount) {
            int drops = amount * mouth[g] * share[g] / 100;
            caught[g] += drops;
            inCup[g] += drops;
            while (inCup[g] >= cup[g]) {
                inCup[g] -= cup[g];
                poured[g] += cup[g];
                tips[g]++;
            }
        }

        void hour(int amount) {
            for (int g = 0; g < 6; g++) catchRain(g, amount);
            hours++;
            List<OnTheWay> come = new ArrayList<>();
            for (OnTheWay o : way20) if (o.comesAt <= hours) come.add(o);
            way20.removeAll(come);
            for (OnTheWay o : come) tell(o.telling);
        }

        Telling telling(int g) {
            Telling t = new Telling();
            t.gauge = g; t.wheel = tips[g] % settings[0]; t.hour = hours; t.village = caught[0]; t.allTips = tips[g];
            return t;
        }

        void tell(Telling t) {
            int g = t.gauge;
            Telling before = latest[g];
            if (t.hour < before.hour) { late[g]++; return; }
            if (t.hour == before.hour && t.wheel == before.wheel && taken[g] > 0) { twice[g]++; return; }
            int went = t.wheel - before.wheel;
            if (went < 0) went += settings[0];
            if (settings[1] == 1) {
                int e = (t.village - before.village) * mouth[g] / mouth[0] / cup[g];
                while (Math.abs(went + settings[0] - e) < Math.abs(went - e)) went += settings[0];
            }
            told[g] += went;
            taken[g]++;
            latest[g] = t;
        }

        int gap(int g) {
            return tips[g] - told[g];
        }
    }

    private State s = new State();
    private final List<State> history = new ArrayList<>();
    private final State[] slots = new State[2];
    private String pad = "";

    private void record() {
        history.add(s.copy());
        if (history.size() > 6) history.remove(0);
    }

    private static boolean noGauge(int g) {
        return g < 0 || g > 5;
    }

    private boolean noRunner(int r) {
        return r < 0 || r >= s.way20.size();
    }

    int set(int setting, int value) {
        if (setting != 0 && setting != 1) return BAD_VALUE;
        if (setting == 0 ? value < 4 || value > 60 : value < 0 || value > 1) return BAD_VALUE;
        record();
        int before = s.settings[setting];
        s.settings[setting] = value;
        if (setting == 0) {
            for (OnTheWay o : s.way20) s.lost[o.telling.gauge]++;
            s.way20.clear();
            for (Telling t : s.latest) t.wheel = t.allTips % value;
        }
        return before;
    }

    int gauge(int g, int mouth, int cup, int share, int way) {
        if (noGauge(g)) return NO_SUCH;
        if (mouth < 1 || mouth > 9 || cup < 1 || cup > 50 || share < 0 || share > 200 || way < 0 || way > 9) return BAD_VALUE;
        record();
        s.mouth[g] = mouth; s.cup[g] = cup; s.share[g] = share; s.way[g] = way;
        return s.inCup[g];
    }

    private int doRain(int amount, int hours) {
        if (amount < 0 || amount > 99 || hours < 1 || hours > 24) return BAD_VALUE;
        if (s.hours + hours > 9999) return TOO_MANY;
        int before = count(6);
        for (int h = 0; h < hours; h++) s.hour(amount);
        return count(6) - before;
    }

    private int doSend(int g) {
        if (noGauge(g)) return NO_SUCH;
        if (s.way20.size() == 20) return TOO_MANY;
        Telling t = s.telling(g);
        if (s.way[g] == 0) s.tell(t); else s.way20.add(new OnTheWay(t, s.hours + s.way[g]));
        return t.wheel;
    }

    private int ifFine(int answer, State before) {
        if (answer >= 0) {
            history.add(before);
            if (history.size() > 6) history.remove(0);
        }
        return answer;
    }

    int rain(int amount, int hours) {
        State before = s.copy();
        return ifFine(doRain(amount, hours), before);
    }

    int send(int g) {
        State before = s.copy();
        return ifFine(doSend(g), before);
    }

    int lose(int r) {
        if (noRunner(r)) return NO_SUCH;
        record();
        int g = s.way20.remove(r).telling.gauge;
        s.lost[g]++;
        return g;
    }

    int twice(int r) {
        if (noRunner(r)) return NO_SUCH;
        if (s.way20.size() == 20) return TOO_MANY;
        record();
        OnTheWay o = s.way20.get(r);
        s.way20.add(new OnTheWay(o.telling.copy(), o.comesAt + 1));
        return s.way20.size();
    }

    int run() {
        if (fault() != NONE) return BAD_TEXT;
        record();
        int done = 0;
        for (String order : pad.split(";")) {
            int h = order.indexOf('h');
            int answer = order.charAt(0) == 's' ? doSend(order.charAt(1) - '0')
                    : doRain(Integer.parseInt(order.substring(1, h)), Integer.parseInt(order.substring(h + 1)));
            if (answer >= 0) done++;
        }
        pad = "";
        return done;
    }

    int gaugeOf(int g, int what) {
        if (noGauge(g)) return NO_SUCH;
        if (what < 0 || what > 8) return BAD_VALUE;
        return new int[] {s.mouth[g], s.cup[g], s.share[g], s.way[g], s.inCup[g], s.tips[g], s.tips[g] % s.settings[0], s.caught[g], s.poured[g]}[what];
    }

    int ledger(int g, int what) {
        if (noGauge(g)) return NO_SUCH;
        if (what < 0 || what > 7) return BAD_VALUE;
        return new int[] {s.told[g], s.latest[g].hour, s.latest[g].wheel, s.gap(g), s.taken[g], s.late[g], s.twice[g], s.lost[g]}[what];
    }

    int runner(int r, int what) {
        if (noRunner(r)) return NO_SUCH;
        if (what < 0 || what > 3) return BAD_VALUE;
        OnTheWay o = s.way20.get(r);
        return new int[] {o.telling.gauge, o.telling.wheel, o.telling.hour, o.comesAt - s.hours}[what];
    }

    int count(int what) {
        if (what < 0 || what > 10) return BAD_VALUE;
        int caught = 0, held = 0, tips = 0, told = 0, gaps = 0;
        for (int g = 0; g < 6; g++) {
            caught += s.caught[g];
            held += s.poured[g] + s.inCup[g];
            tips += s.tips[g];
            told += s.told[g];
            if (s.gap(g) != 0) gaps++;
        }
        return new int[] {s.settings[0], s.settings[1], s.hours, s.way20.size(), caught, held, tips, told, gaps, pad.length(), history.size()}[what];
    }

    int untilRound(int g, int amount) {
        if (noGauge(g)) return NO_SUCH;
        if (amount < 0 || amount > 99) return BAD_VALUE;
        State t = s.copy();
        for (int h = 0; h <= 500; h++) {
            if (t.tips[g] - t.latest[g].allTips >= t.settings[0]) return h;
            t.catchRain(g, amount);
        }
        return NONE;
    }

    int ifSent(int g) {
        if (noGauge(g)) return NO_SUCH;
        State t = s.copy();
        t.tell(t.telling(g));
        return t.gap(g);
    }

    int ifAllCome(int g) {
        if (noGauge(g)) return NO_SUCH;
        State t = s.copy();
        while (!t.way20.isEmpty()) t.hour(0);
        return t.gap(g);
    }

    int mostUntold() {
        int best = NONE;
        for (int g = 5; g >= 0; g--) {
            int untold = s.tips[g] - s.latest[g].allTips;
            if (untold > 0 && (best == NONE || untold >= s.tips[best] - s.latest[best].allTips)) best = g;
        }
        return best;
    }

    int put(long characters) {
        StringBuilder text = new StringBuilder();
        long rest = characters;
        while (rest != 0) {
            int code = (int) (rest & 255);
            if (code < 33 || code > 126) return BAD_VALUE;
            text.insert(0, (char) code);
            rest >>>= 8;
        }
        if (text.length() == 0) return BAD_VALUE;
        if (pad.length() + text.length() > 60) return TOO_MANY;
        pad += text;
        return pad.length();
    }

    int wipe() {
        int length = pad.length();
        pad = "";
        return length;
    }

    int fault() {
        for (int end = 1; end <= pad.length(); end++) {
            Matcher m = TEXT.matcher(pad.substring(0, end));
            if (!m.matches() && !m.hitEnd()) return end - 1;
        }
        return TEXT.matcher(pad).matches() ? NONE : pad.length();
    }

    int undo() {
        if (history.isEmpty()) return NOT_POSSIBLE;
        s = history.remove(history.size() - 1);
        return history.size();
    }

    int save(int slot) {
        if (slot != 0 && slot != 1) return BAD_VALUE;
        slots[slot] = s.copy();
        return s.hours;
    }

    int restore(int slot) {
        if (slot != 0 && slot != 1) return BAD_VALUE;
        if (slots[slot] == null) return NOT_POSSIBLE;
        record();
        s = slots[slot].copy();
        return s.hours;
    }
}
