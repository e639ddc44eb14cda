/** Promises 9 to 16: gaugeOf, ledger, runner, count, untilRound, ifSent, ifAllCome, mostUntold. */
public final class NumbersTest {
    private static final int NO_SUCH = ToldDrops.NO_SUCH, BAD_VALUE = ToldDrops.BAD_VALUE, NONE = ToldDrops.NONE;
    private static final int GUESS = ToldDrops.GUESS;

    public static void main(String[] args) {
        gaugeOf();
        ledger();
        runner();
        count();
        sumsToldInTwoWays();
        untilRound();
        untilRoundEndsAt500();
        untilRoundGoesByTheLatestTelling();
        ifSent();
        ifSentWithOthersOnTheWay();
        ifAllCome();
        ifAllComeTipsCups();
        ifAllComeKeepsTheOrder();
        mostUntold();
        Due.end("NumbersTest");
    }

    private static void gaugeOf() {
        ToldDrops x = new ToldDrops();
        Due.due("9: -1", x.gaugeOf(-1, 0), NO_SUCH);
        Due.due("9: 6", x.gaugeOf(6, 9), NO_SUCH);
        Due.due("9: what -1", x.gaugeOf(0, -1), BAD_VALUE);
        Due.due("9: what 9", x.gaugeOf(5, 9), BAD_VALUE);
        x.gauge(4, 7, 6, 150, 8);
        x.rain(5, 3);
        int[] facts = {7, 6, 150, 8, 0, 26, 6, 156, 156};
        for (int what = 0; what < facts.length; what++) {
            Due.due("9: gaugeOf(4, " + what + ")", x.gaugeOf(4, what), facts[what]);
        }
        x.gauge(4, 7, 5, 100, 8);
        x.rain(1, 1);
        int[] later = {7, 5, 100, 8, 2, 27, 7, 163, 161};
        for (int what = 0; what < later.length; what++) {
            Due.due("9: later gaugeOf(4, " + what + ")", x.gaugeOf(4, what), later[what]);
        }
        Due.due("9: nothing changes", x.count(10), 4);
    }

    private static void ledger() {
        ToldDrops x = new ToldDrops();
        Due.due("10: -1", x.ledger(-1, 0), NO_SUCH);
        Due.due("10: 6", x.ledger(6, 8), NO_SUCH);
        Due.due("10: what -1", x.ledger(0, -1), BAD_VALUE);
        Due.due("10: what 8", x.ledger(5, 8), BAD_VALUE);
        x.rain(10, 4);
        x.send(1);
        x.send(1);
        x.rain(10, 1);
        x.send(2);
        x.lose(0);
        x.send(1);
        x.gauge(1, 3, 10, 100, 0);
        x.rain(10, 1);
        x.send(1);
        int[] page = {18, 6, 8, 0, 3, 0, 1, 0};
        for (int what = 0; what < page.length; what++) {
            Due.due("10: ledger(1, " + what + ")", x.ledger(1, what), page[what]);
        }
        int[] other = {0, 0, 0, 18, 0, 0, 0, 1};
        for (int what = 0; what < other.length; what++) {
            Due.due("10: ledger(2, " + what + ")", x.ledger(2, what), other[what]);
        }
    }

    private static void runner() {
        ToldDrops x = new ToldDrops();
        Due.due("11: nobody", x.runner(0, 0), NO_SUCH);
        Due.due("11: nobody first", x.runner(0, 4), NO_SUCH);
        x.rain(9, 9);
        x.send(4);
        x.rain(9, 1);
        x.send(3);
        int[][] carried = {{4, 4, 9, 3}, {3, 7, 10, 3}};
        for (int runner = 0; runner < 2; runner++) {
            for (int what = 0; what < 4; what++) {
                Due.due("11: runner(" + runner + ", " + what + ")", x.runner(runner, what), carried[runner][what]);
            }
        }
        Due.due("11: what -1", x.runner(0, -1), BAD_VALUE);
        Due.due("11: what 4", x.runner(1, 4), BAD_VALUE);
        Due.due("11: -1", x.runner(-1, 0), NO_SUCH);
        Due.due("11: 2", x.runner(2, 0), NO_SUCH);
    }

    private static void count() {
        ToldDrops x = new ToldDrops();
        Due.due("12: -1", x.count(-1), BAD_VALUE);
        Due.due("12: 11", x.count(11), BAD_VALUE);
        x.set(ToldDrops.WHEEL, 7);
        x.set(GUESS, 0);
        x.gauge(0, 1, 3, 100, 0);
        x.rain(5, 3);
        x.send(0);
        x.send(1);
        x.send(1);
        Due.write(x, "r1h");
        // the gauge 0 caught 15 and tipped 5 times, the others caught 45 and tipped 4 times
        int[] numbers = {7, 0, 3, 2, 240, 240, 25, 5, 5, 3, 6};
        for (int what = 0; what < numbers.length; what++) {
            Due.due("12: count(" + what + ")", x.count(what), numbers[what]);
        }
        x.rain(0, 1);
        Due.due("12: told of all", x.count(7), 9);
        Due.due("12: gaps", x.count(8), 4);
    }

    private static void sumsToldInTwoWays() {
        ToldDrops x = new ToldDrops();
        for (int step = 0; step < 40; step++) {
            x.gauge(step % 6, 1 + step % 9, 1 + step * 17 % 50, step * 13 % 201, 0);
            x.rain(step * 7 % 100, 1 + step % 24);
            Due.due("12: two ways", x.count(5), x.count(4));
        }
        int caught = 0;
        for (int gauge = 0; gauge < 6; gauge++) {
            caught += x.gaugeOf(gauge, 7);
        }
        Due.due("12: the sum", x.count(4), caught);
    }

    private static void untilRound() {
        ToldDrops x = new ToldDrops();
        Due.due("13: -1", x.untilRound(-1, 0), NO_SUCH);
        Due.due("13: 6", x.untilRound(6, 100), NO_SUCH);
        Due.due("13: amount -1", x.untilRound(0, -1), BAD_VALUE);
        Due.due("13: amount 100", x.untilRound(0, 100), BAD_VALUE);
        Due.due("13: dry", x.untilRound(0, 0), NONE);
        Due.due("13: 100 drops of 30", x.untilRound(0, 10), 4);
        Due.due("13: 100 drops of 297", x.untilRound(0, 99), 1);
        Due.due("13: 100 drops of 3", x.untilRound(0, 1), 34);
        Due.due("13: nothing changes", x.count(4) + x.count(2) + x.count(10), 0);
        x.rain(3, 3);
        Due.due("13: with what is in the cup", x.untilRound(3, 1), 25);
        x.gauge(3, 3, 2, 100, 3);
        Due.due("13: a smaller cup tips", x.untilRound(3, 1), 3);
        x.rain(10, 3);
        Due.due("13: it has", x.untilRound(2, 0), 0);
        x.gauge(5, 3, 1, 100, 5);
        x.set(ToldDrops.WHEEL, 18);
        Due.due("13: a dry hour tips 7 more than 11", x.untilRound(5, 0), 1);
        x.set(ToldDrops.WHEEL, 19);
        Due.due("13: and no more", x.untilRound(5, 0), NONE);
        x.rain(1, 1);
        Due.due("13: now it has", x.untilRound(5, 0), 0);
    }

    private static void untilRoundEndsAt500() {
        ToldDrops x = new ToldDrops();
        x.gauge(1, 1, 50, 100, 1);
        Due.due("13: 500 hours", x.untilRound(1, 1), 500);
        x.set(ToldDrops.WHEEL, 11);
        Due.due("13: 550 hours", x.untilRound(1, 1), NONE);
        x.gauge(2, 2, 50, 50, 1);
        x.set(ToldDrops.WHEEL, 10);
        Due.due("13: a half of 2", x.untilRound(2, 1), 500);
        x.gauge(2, 1, 50, 99, 1);
        Due.due("13: nothing of 1", x.untilRound(2, 1), NONE);
        x.rain(1, 24);
        x.rain(1, 24);
        x.set(ToldDrops.WHEEL, 11);
        Due.due("13: 502 hours", x.untilRound(1, 1), NONE);
        x.rain(1, 1);
        Due.due("13: 501 hours", x.untilRound(1, 1), NONE);
        x.rain(1, 1);
        Due.due("13: 500 hours again", x.untilRound(1, 1), 500);
    }

    private static void untilRoundGoesByTheLatestTelling() {
        ToldDrops x = new ToldDrops();
        x.rain(10, 3);
        x.send(1);
        x.rain(10, 1);
        Due.due("13: since the hour of the telling", x.untilRound(1, 10), 3);
        Due.due("13: not told", x.untilRound(2, 10), 0);
        x.send(1);
        Due.due("13: who is on the way tells nothing yet", x.untilRound(1, 10), 3);
    }

    private static void ifSent() {
        ToldDrops x = new ToldDrops();
        Due.due("14: -1", x.ifSent(-1), NO_SUCH);
        Due.due("14: 6", x.ifSent(6), NO_SUCH);
        Due.due("14: dry", x.ifSent(5), 0);
        x.rain(40, 5);
        Due.due("14: guessed", x.ifSent(5), 0);
        x.set(GUESS, 0);
        Due.due("14: not guessed", x.ifSent(5), 60);
        Due.due("14: nothing changes", x.ledger(5, 3), 60);
        Due.due("14: nobody is sent", x.count(3), 0);
        Due.due("14: no change", x.count(10), 2);
        Due.due("14: the way stays", x.gaugeOf(5, 3), 5);
        x.send(0);
        Due.due("14: told twice", x.ifSent(0), 60);
        Due.due("14: and the same in the ledger", x.ledger(0, 6), 0);
        x.gauge(0, 9, 50, 0, 0);
        x.set(GUESS, 1);
        x.rain(9, 1);
        x.gauge(1, 1, 50, 100, 1);
        // e is 600 * 1 / 9 / 50 = 1, the wheel stands at 2
        Due.due("14: by mouths and cups now", x.ifSent(1), 60);
    }

    private static void ifSentWithOthersOnTheWay() {
        ToldDrops x = new ToldDrops();
        x.set(GUESS, 0);
        x.rain(10, 3);
        x.send(1);
        x.rain(0, 1);
        x.send(5);
        x.rain(10, 3);
        for (int sent = 0; sent < 19; sent++) {
            x.send(5);
        }
        Due.due("14: 20 on the way", x.count(3), 20);
        Due.due("14: nobody ahead", x.ifSent(5), 10);
        Due.due("14: as the wheel went on", x.ifSent(1), 0);
        Due.due("14: they are still on the way", x.count(3), 20);
    }

    private static void ifAllCome() {
        ToldDrops x = new ToldDrops();
        Due.due("15: -1", x.ifAllCome(-1), NO_SUCH);
        Due.due("15: 6", x.ifAllCome(6), NO_SUCH);
        x.rain(10, 2);
        Due.due("15: nobody on the way", x.ifAllCome(4), 6);
        x.send(4);
        x.rain(10, 1);
        Due.due("15: the one of 4 comes", x.ifAllCome(4), 3);
        Due.due("15: of 3 nobody", x.ifAllCome(3), 9);
        x.send(4);
        Due.due("15: both come", x.ifAllCome(4), 0);
        Due.due("15: nothing changes", x.ledger(4, 3), 9);
        Due.due("15: nobody came", x.count(3), 2);
        Due.due("15: no hour passed", x.count(2), 3);
        Due.due("15: no change", x.count(10), 4);
    }

    private static void ifAllComeTipsCups() {
        ToldDrops x = new ToldDrops();
        x.rain(3, 1);
        x.gauge(2, 3, 4, 100, 2);
        Due.due("15: no hour, no tip", x.ifAllCome(2), 0);
        x.send(5);
        Due.due("15: a dry hour tips", x.ifAllCome(2), 2);
        Due.due("15: not so", x.gaugeOf(2, 5), 0);
        Due.due("14: no hour passes", x.ifSent(2), 0);
    }

    private static void ifAllComeKeepsTheOrder() {
        ToldDrops x = new ToldDrops();
        x.set(GUESS, 0);
        x.rain(10, 2);
        x.send(5);
        x.gauge(5, 3, 10, 100, 1);
        x.rain(10, 1);
        x.send(5);
        x.twice(0);
        x.twice(2);
        x.twice(3);
        // the younger one comes first with 9, the older ones are too late
        Due.due("15: the younger first", x.ifAllCome(5), 0);
        x.rain(0, 9);
        Due.due("15: and so it was", x.ledger(5, 3), 0);
        Due.due("15: four too late", x.ledger(5, 5), 4);
    }

    private static void mostUntold() {
        ToldDrops x = new ToldDrops();
        Due.due("16: dry", x.mostUntold(), NONE);
        x.rain(3, 1);
        Due.due("16: no tip", x.mostUntold(), NONE);
        x.gauge(3, 3, 5, 100, 3);
        x.rain(0, 1);
        Due.due("16: one tip", x.mostUntold(), 3);
        x.undo();
        x.undo();
        x.rain(10, 5);
        Due.due("16: the lowest of all", x.mostUntold(), 0);
        x.send(0);
        Due.due("16: the next", x.mostUntold(), 1);
        x.gauge(4, 4, 10, 100, 4);
        x.rain(10, 1);
        Due.due("16: the most", x.mostUntold(), 4);
        x.rain(0, 1);
        x.gauge(4, 4, 10, 100, 0);
        x.send(4);
        x.send(1);
        x.rain(10, 1);
        Due.due("16: tips, not left over", x.mostUntold(), 2);
        x = new ToldDrops();
        x.gauge(3, 3, 3, 100, 3);
        x.gauge(2, 9, 9, 100, 2);
        x.rain(9, 1);
        Due.due("16: of two the lower", x.mostUntold(), 2);
        x.set(GUESS, 0);
        x.gauge(3, 3, 1, 100, 0);
        x.rain(9, 1);
        x.send(3);
        Due.due("16: with a gap but told in this hour", x.mostUntold(), 2);
        for (int gauge = 0; gauge < 6; gauge++) {
            x.gauge(gauge, 3, 10, 100, 0);
            x.send(gauge);
        }
        Due.due("16: all told", x.mostUntold(), NONE);
    }
}
