/** Promises 20 to 22: undo, save, restore. */
public final class HistoryTest {
    private static final int BAD_VALUE = ToldDrops.BAD_VALUE, NOT_POSSIBLE = ToldDrops.NOT_POSSIBLE;

    public static void main(String[] args) {
        undoOfEachChange();
        sixAreKept();
        undoLeavesPadAndSlots();
        errorsAreNotRecorded();
        questionsAreNotRecorded();
        saveAnswers();
        restoreAnswers();
        slotsAreApart();
        restoreLeavesPadAndHistory();
        runnersComeBackWithAllTheyCarry();
        ledgerComesBackWhole();
        Due.end("HistoryTest");
    }

    private static ToldDrops busyValley() {
        ToldDrops x = new ToldDrops();
        x.set(ToldDrops.WHEEL, 7);
        x.gauge(2, 5, 8, 120, 4);
        x.rain(9, 5);
        x.send(2);
        x.send(3);
        x.send(0);
        x.rain(4, 1);
        x.twice(0);
        return x;
    }

    private static void undone(String change, ToldDrops x, String before, boolean differs) {
        Due.due("20: " + change + " changes", Told.valley(x).equals(before) ? 0 : 1, differs ? 1 : 0);
        Due.due("20: undo of " + change, x.undo(), 5);
        Due.due("20: as before " + change, Told.valley(x).equals(before) ? 1 : 0, 1);
    }

    private static void undoOfEachChange() {
        ToldDrops x = busyValley();
        String before = Told.valley(x);
        Due.due("20: full", x.count(10), 6);
        x.set(ToldDrops.WHEEL, 9);
        undone("set wheel", x, before, true);
        x = busyValley();
        x.set(ToldDrops.GUESS, 0);
        undone("set guess", x, before, true);
        x = busyValley();
        x.gauge(1, 9, 9, 9, 9);
        undone("gauge", x, before, true);
        x = busyValley();
        x.rain(50, 24);
        undone("rain", x, before, true);
        x = busyValley();
        x.send(1);
        undone("send", x, before, true);
        x = busyValley();
        x.send(0);
        undone("send with the way 0", x, before, true);
        x = busyValley();
        x.lose(0);
        undone("lose", x, before, true);
        x = busyValley();
        x.twice(1);
        undone("twice", x, before, true);
        x = busyValley();
        Due.write(x, "r9h9;s4");
        x.run();
        undone("run", x, before, true);
        x = busyValley();
        x.save(1);
        x.restore(1);
        undone("restore of the same", x, before, false);
        x = busyValley();
        x.set(ToldDrops.GUESS, 1);
        undone("set of the same", x, before, false);
    }

    private static void sixAreKept() {
        ToldDrops x = new ToldDrops();
        for (int hour = 1; hour <= 9; hour++) {
            x.rain(hour, 1);
            Due.due("20: recorded", x.count(10), Math.min(hour, 6));
        }
        for (int left = 5; left >= 0; left--) {
            Due.due("20: undone", x.undo(), left);
            Due.due("20: the hours", x.count(2), 3 + left);
        }
        Due.due("20: no more", x.undo(), NOT_POSSIBLE);
        Due.due("20: three hours stay", x.count(2), 3);
        Due.due("20: 18 drops stay", x.gaugeOf(4, 7), 18);
        x.rain(1, 1);
        Due.due("20: recorded again", x.count(10), 1);
        Due.due("20: undone again", x.undo(), 0);
        Due.due("20: three hours again", x.count(2), 3);
    }

    private static void undoLeavesPadAndSlots() {
        ToldDrops x = new ToldDrops();
        x.rain(5, 5);
        x.rain(5, 5);
        x.save(0);
        Due.write(x, "r1h");
        x.undo();
        Due.due("20: the pad stays", x.count(9), 3);
        Due.due("20: five hours", x.count(2), 5);
        Due.due("22: the slot stays", x.restore(0), 10);
        Due.due("20: undo of restore", x.undo(), 1);
        Due.due("20: five hours again", x.count(2), 5);
    }

    private static void errorsAreNotRecorded() {
        ToldDrops x = new ToldDrops();
        x.set(9, 9);
        x.gauge(9, 1, 1, 1, 1);
        x.rain(0, 0);
        x.send(9);
        x.lose(0);
        x.twice(0);
        x.run();
        x.restore(0);
        x.restore(2);
        x.undo();
        Due.due("20: no errors", x.count(10), 0);
    }

    private static void questionsAreNotRecorded() {
        ToldDrops x = busyValley();
        x.undo();
        String before = Told.valley(x);
        Due.due("20: asking records nothing", x.count(10), 5);
        Due.due("20: asking changes nothing", Told.valley(x).equals(before) ? 1 : 0, 1);
        x.save(0);
        Due.due("21: save is no change", x.count(10), 5);
    }

    private static void saveAnswers() {
        ToldDrops x = new ToldDrops();
        Due.due("21: -1", x.save(-1), BAD_VALUE);
        Due.due("21: 2", x.save(2), BAD_VALUE);
        Due.due("21: least int", x.save(Integer.MIN_VALUE), BAD_VALUE);
        Due.due("21: the hour 0", x.save(0), 0);
        x.rain(1, 7);
        Due.due("21: the hour 7", x.save(1), 7);
        x.rain(1, 7);
        Due.due("21: written over", x.save(1), 14);
        x.rain(1, 1);
        Due.due("22: the later one", x.restore(1), 14);
    }

    private static void restoreAnswers() {
        ToldDrops x = new ToldDrops();
        Due.due("22: -1", x.restore(-1), BAD_VALUE);
        Due.due("22: 2", x.restore(2), BAD_VALUE);
        Due.due("22: nothing saved", x.restore(1), NOT_POSSIBLE);
        ToldDrops busy = busyValley();
        String before = Told.valley(busy);
        busy.save(1);
        busy.set(ToldDrops.WHEEL, 33);
        busy.set(ToldDrops.GUESS, 0);
        busy.gauge(0, 1, 1, 1, 1);
        busy.rain(77, 24);
        busy.send(4);
        Due.due("22: the hours then", busy.restore(1), 6);
        Due.due("22: all as saved", Told.valley(busy).equals(before) ? 1 : 0, 1);
        busy.rain(5, 5);
        Due.due("22: the slot keeps it", busy.restore(1), 6);
        Due.due("22: all as saved again", Told.valley(busy).equals(before) ? 1 : 0, 1);
        Due.due("22: nothing in the other", busy.restore(0), NOT_POSSIBLE);
    }

    private static void slotsAreApart() {
        ToldDrops x = new ToldDrops();
        x.rain(1, 1);
        x.save(0);
        x.rain(1, 1);
        x.save(1);
        x.rain(1, 1);
        Due.due("22: slot 0", x.restore(0), 1);
        Due.due("22: slot 1", x.restore(1), 2);
        Due.due("22: three changes and two", x.count(10), 5);
        Due.due("22: undo of restore", x.undo(), 4);
        Due.due("22: slot 0 again", x.count(2), 1);
    }

    private static void restoreLeavesPadAndHistory() {
        ToldDrops x = new ToldDrops();
        x.rain(1, 1);
        x.save(0);
        x.rain(1, 1);
        Due.write(x, "s0;s1");
        x.restore(0);
        Due.due("22: the pad stays", x.count(9), 5);
        Due.due("22: the history goes on", x.count(10), 3);
        Due.due("20: undone", x.undo(), 2);
        Due.due("20: two hours", x.count(2), 2);
    }

    private static void runnersComeBackWithAllTheyCarry() {
        ToldDrops x = new ToldDrops();
        x.rain(40, 3);
        x.send(1);
        x.save(0);
        x.lose(0);
        x.rain(99, 24);
        x.send(2);
        x.restore(0);
        x.rain(0, 1);
        // the village had caught 360 when the runner was sent
        Due.due("22: guessed by what the runner bears in mind", x.ledger(1, 0), 36);
        x.undo();
        x.undo();
        Due.due("20: the runner of 2", x.runner(0, 0), 2);
        x.rain(0, 2);
        Due.due("20: guessed by what this one bears in mind", x.ledger(2, 0), 748);
    }

    private static void ledgerComesBackWhole() {
        ToldDrops x = new ToldDrops();
        x.rain(5, 3);
        x.gauge(1, 3, 10, 100, 2);
        x.send(1);
        x.rain(5, 1);
        x.gauge(1, 3, 10, 100, 0);
        x.send(1);
        x.send(1);
        x.save(0);
        String before = Told.valley(x);
        x.rain(0, 1);
        Due.due("20: one too late", x.ledger(1, 5), 1);
        x.undo();
        Due.due("20: none too late", x.ledger(1, 5), 0);
        Due.due("20: one twice", x.ledger(1, 6), 1);
        Due.due("20: as before", Told.valley(x).equals(before) ? 1 : 0, 1);
        x.rain(5, 9);
        x.send(1);
        x.restore(0);
        Due.due("22: as saved", Told.valley(x).equals(before) ? 1 : 0, 1);
        x.undo();
        Due.due("20: too late again", x.ledger(1, 5), 1);
    }
}
