/** The edges that the terms name of settings, gauges and runners; above each test the words that it holds to. */
public final class GaugeEdgesTest {
    private static final int WHEEL = ToldDrops.WHEEL, GUESS = ToldDrops.GUESS;

    public static void main(String[] args) {
        settingsAtTheirEdges();
        gaugesAtTheirEdges();
        catchesAtTheirEdges();
        catchesAreRoundedDown();
        tipsWhenThereIsAsMuchAsTheCup();
        tipsAsOftenAsThereIsACup();
        cupOf1KeepsNothing();
        cupOf50();
        wheelBeginsAgainAt0();
        wheelsOf4AndOf60();
        smallerCupWaitsForAnHour();
        cupMadeAsSmallAsItsDrops();
        cupMadeLargerAgainDoesNotTip();
        way0ComesAtOnce();
        way1To9ComesInThatHour();
        comesWithinALongRain();
        wayIsAsItWasAtTheSending();
        carriesTheWheelOfTheSending();
        upTo20();
        numbersBehindALostOne();
        numbersBehindOneWhoCame();
        lowerNumberIsTheOlder();
        lowerNumberIsTheYounger();
        callsUpTo512();
        Due.end("GaugeEdgesTest");
    }

    /** "(In parentheses: range; first value.) WHEEL (4 to 60; 10): tips. GUESS (0 or 1; 1)." */
    private static void settingsAtTheirEdges() {
        ToldDrops x = new ToldDrops();
        Due.due("first WHEEL", x.set(WHEEL, 4), 10);
        Due.due("the least WHEEL", x.set(WHEEL, 60), 4);
        Due.due("the most WHEEL", x.count(WHEEL), 60);
        Due.due("WHEEL 3", x.set(WHEEL, 3), ToldDrops.BAD_VALUE);
        Due.due("WHEEL 61", x.set(WHEEL, 61), ToldDrops.BAD_VALUE);
        Due.due("first GUESS", x.set(GUESS, 0), 1);
        Due.due("the least GUESS", x.set(GUESS, 1), 0);
        Due.due("the most GUESS", x.count(GUESS), 1);
        Due.due("GUESS -1", x.set(GUESS, -1), ToldDrops.BAD_VALUE);
        Due.due("GUESS 2", x.set(GUESS, 2), ToldDrops.BAD_VALUE);
    }

    /** "There are 6 gauges, 0 to 5 ... a mouth, 1 to 9, a cup, 1 to 50 drops, a share, 0 to 200 hundredths, and a way, 0 to 9 hours" */
    private static void gaugesAtTheirEdges() {
        int[][] edges = {{1, 1, 0, 0}, {9, 50, 200, 9}, {1, 50, 0, 9}, {9, 1, 200, 0}};
        for (int gauge = 0; gauge < 6; gauge++) {
            for (int[] edge : edges) {
                ToldDrops x = new ToldDrops();
                Due.due("a gauge at its edge", x.gauge(gauge, edge[0], edge[1], edge[2], edge[3]), 0);
                for (int what = 0; what < 4; what++) {
                    Due.due("gaugeOf(" + gauge + ", " + what + ")", x.gaugeOf(gauge, what), edge[what]);
                    Due.due("the one beside it stays", x.gaugeOf((gauge + 1) % 6, what), new int[] {3, 10, 100, (gauge + 1) % 6}[what]);
                }
            }
        }
    }

    /** "each gauge catches amount * mouth * share / 100 drops": the most, the least, and none by amount 0 or share 0 */
    private static void catchesAtTheirEdges() {
        ToldDrops x = new ToldDrops();
        x.gauge(1, 9, 50, 200, 1);
        x.gauge(2, 1, 1, 1, 2);
        x.gauge(3, 9, 1, 0, 3);
        x.rain(99, 1);
        int[] most = {32, 35, 5, 1782, 1750};
        for (int i = 0; i < most.length; i++) {
            Due.due("the most, what " + (i + 4), x.gaugeOf(1, i + 4), most[i]);
        }
        Due.due("99 hundredths of a drop are none", x.gaugeOf(2, 7), 0);
        Due.due("by the share 0 none", x.gaugeOf(3, 7), 0);
        Due.due("by the amount 0 no tip", x.rain(0, 24), 0);
        Due.due("and no drop", x.gaugeOf(1, 7), 1782);
    }

    /** "Divisions are rounded down", in each hour anew */
    private static void catchesAreRoundedDown() {
        ToldDrops x = new ToldDrops();
        x.gauge(1, 1, 50, 99, 1);
        x.gauge(2, 1, 50, 101, 2);
        x.rain(1, 3);
        Due.due("three times 0.99", x.gaugeOf(1, 4), 0);
        Due.due("three times 1.01", x.gaugeOf(2, 4), 3);
        x.rain(99, 1);
        Due.due("98.01", x.gaugeOf(1, 7), 98);
        Due.due("99.99 more", x.gaugeOf(2, 7), 102);
    }

    /** "as often as there are as many drops in it as the cup, or more, it tips": one less, as many, one more */
    private static void tipsWhenThereIsAsMuchAsTheCup() {
        int[][] rows = {{6, 0, 6}, {7, 1, 0}, {8, 1, 1}};
        for (int[] row : rows) {
            ToldDrops x = new ToldDrops();
            x.gauge(1, 1, 7, 100, 1);
            x.rain(row[0], 1);
            Due.due(row[0] + " drops, tips", x.gaugeOf(1, 5), row[1]);
            Due.due(row[0] + " drops, left", x.gaugeOf(1, 4), row[2]);
            Due.due(row[0] + " drops, poured", x.gaugeOf(1, 8), 7 * row[1]);
        }
    }

    private static void tipsAsOftenAsThereIsACup() {
        ToldDrops x = new ToldDrops();
        x.gauge(1, 1, 7, 100, 1);
        x.rain(13, 1);
        Due.due("13 are one cup of 7", x.gaugeOf(1, 5), 1);
        x.rain(1, 1);
        Due.due("14 are two", x.gaugeOf(1, 5), 2);
        Due.due("and none is left", x.gaugeOf(1, 4), 0);
        x.rain(98, 1);
        Due.due("98 are fourteen more", x.gaugeOf(1, 5), 16);
        Due.due("and none is left again", x.gaugeOf(1, 4), 0);
    }

    private static void cupOf1KeepsNothing() {
        ToldDrops x = new ToldDrops();
        x.gauge(1, 1, 1, 100, 1);
        x.rain(1, 24);
        Due.due("24 tips", x.gaugeOf(1, 5), 24);
        Due.due("an empty cup", x.gaugeOf(1, 4), 0);
        x.rain(99, 1);
        Due.due("99 tips in an hour", x.gaugeOf(1, 5), 123);
        Due.due("an empty cup again", x.gaugeOf(1, 4), 0);
    }

    private static void cupOf50() {
        ToldDrops x = new ToldDrops();
        x.gauge(1, 1, 50, 100, 1);
        x.rain(49, 1);
        Due.due("49 stay", x.gaugeOf(1, 4), 49);
        Due.due("as gauge() answers, too", x.gauge(1, 1, 50, 100, 1), 49);
        x.rain(1, 1);
        Due.due("50 tip", x.gaugeOf(1, 5), 1);
        Due.due("as gauge() answers then", x.gauge(1, 1, 50, 100, 1), 0);
    }

    /** "The wheel stands at the number of tips left over by WHEEL." */
    private static void wheelBeginsAgainAt0() {
        ToldDrops x = new ToldDrops();
        x.gauge(1, 1, 1, 100, 1);
        int[][] rows = {{9, 9, 9}, {1, 0, 10}, {1, 1, 11}, {99, 0, 110}, {19, 9, 129}, {11, 0, 140}, {20, 0, 160}};
        for (int[] row : rows) {
            x.rain(row[0], 1);
            Due.due("the wheel at " + row[2] + " tips", x.gaugeOf(1, 6), row[1]);
            Due.due("the tips go on", x.gaugeOf(1, 5), row[2]);
            Due.due("the runner carries it", x.send(1), row[1]);
        }
    }

    private static void wheelsOf4AndOf60() {
        int[][] rows = {{4, 3, 3}, {4, 4, 0}, {4, 5, 1}, {4, 99, 3}, {60, 59, 59}, {60, 60, 0}, {60, 61, 1}, {60, 99, 39}};
        for (int[] row : rows) {
            ToldDrops x = new ToldDrops();
            x.set(WHEEL, row[0]);
            x.gauge(1, 1, 1, 100, 1);
            x.rain(row[1], 1);
            Due.due("WHEEL " + row[0] + " at " + row[1] + " tips", x.gaugeOf(1, 6), row[2]);
        }
    }

    /** "A cup that is made smaller tips in the next hour only." */
    private static void smallerCupWaitsForAnHour() {
        ToldDrops x = new ToldDrops();
        x.rain(3, 1);
        Due.due("9 drops in the smaller cup", x.gauge(2, 3, 2, 100, 2), 9);
        Due.due("still 9", x.gaugeOf(2, 4), 9);
        Due.due("a runner carries 0", x.send(2), 0);
        Due.due("no tip", x.gaugeOf(2, 5) + x.count(6), 0);
        Due.due("nobody needs a runner", x.mostUntold(), ToldDrops.NONE);
        Due.due("four tips in a dry hour", x.rain(0, 1), 4);
        Due.due("1 is left", x.gaugeOf(2, 4), 1);
        Due.due("not again", x.rain(0, 1), 0);
    }

    private static void cupMadeAsSmallAsItsDrops() {
        ToldDrops x = new ToldDrops();
        x.rain(3, 1);
        x.gauge(2, 3, 9, 100, 2);
        x.gauge(3, 3, 10, 100, 3);
        x.gauge(4, 3, 8, 100, 4);
        Due.due("the cups of 9 and 8 tip", x.rain(0, 1), 2);
        Due.due("9 of 9", x.gaugeOf(2, 4), 0);
        Due.due("9 of 10", x.gaugeOf(3, 4), 9);
        Due.due("9 of 8", x.gaugeOf(4, 4), 1);
    }

    private static void cupMadeLargerAgainDoesNotTip() {
        ToldDrops x = new ToldDrops();
        x.rain(3, 1);
        x.gauge(2, 3, 1, 100, 2);
        x.gauge(2, 3, 10, 100, 2);
        x.gauge(3, 3, 50, 100, 3);
        Due.due("no tip", x.rain(0, 1), 0);
        Due.due("9 stay", x.gaugeOf(2, 4) + x.gaugeOf(3, 4), 18);
        x.rain(3, 1);
        Due.due("18 of 50", x.gaugeOf(3, 4), 18);
        Due.due("18 of 10", x.gaugeOf(2, 4), 8);
    }

    /** "comes to the village when as many hours have passed as the way of the gauge ...; with the way 0 at once" */
    private static void way0ComesAtOnce() {
        ToldDrops x = new ToldDrops();
        x.gauge(5, 3, 10, 100, 0);
        x.rain(10, 2);
        x.send(5);
        Due.due("nobody is on the way", x.count(3), 0);
        Due.due("taken at once", x.ledger(5, 4), 1);
        Due.due("the hour of the sending", x.ledger(5, 1), 2);
        Due.due("no hour passed", x.count(2), 2);
    }

    private static void way1To9ComesInThatHour() {
        for (int way = 1; way <= 9; way++) {
            ToldDrops x = new ToldDrops();
            x.gauge(3, 3, 10, 100, way);
            x.rain(10, 1);
            x.send(3);
            for (int passed = 0; passed < way; passed++) {
                Due.due("way " + way + ": not yet after " + passed, x.ledger(3, 4), 0);
                Due.due("way " + way + ": hours left", x.runner(0, 3), way - passed);
                x.rain(10, 1);
            }
            Due.due("way " + way + ": come", x.ledger(3, 4), 1);
            Due.due("way " + way + ": gone", x.count(3), 0);
            Due.due("way " + way + ": told as it was sent", x.ledger(3, 0), 3);
            Due.due("way " + way + ": the hour as it was sent", x.ledger(3, 1), 1);
        }
    }

    private static void comesWithinALongRain() {
        ToldDrops x = new ToldDrops();
        x.send(1);
        x.send(5);
        x.gauge(4, 3, 10, 100, 9);
        x.send(4);
        x.rain(5, 8);
        Due.due("one is left after 8 hours", x.count(3), 1);
        Due.due("with an hour to go", x.runner(0, 3), 1);
        x.rain(5, 24);
        Due.due("nobody is left", x.count(3), 0);
        Due.due("each was taken", x.ledger(1, 4) + x.ledger(4, 4) + x.ledger(5, 4), 3);
    }

    /** "the way of the gauge (as it was when the runner was sent)" */
    private static void wayIsAsItWasAtTheSending() {
        ToldDrops x = new ToldDrops();
        x.send(2);
        x.gauge(2, 3, 10, 100, 0);
        Due.due("a way of 0 does not bring who is on the way", x.count(3), 1);
        x.gauge(2, 3, 10, 100, 9);
        x.rain(0, 1);
        Due.due("a way of 9 does not hold back", x.runner(0, 3), 1);
        x.rain(0, 1);
        Due.due("come after 2 hours", x.ledger(2, 4), 1);
    }

    /** "carries where its wheel stands, and the hour" */
    private static void carriesTheWheelOfTheSending() {
        ToldDrops x = new ToldDrops();
        x.gauge(3, 1, 1, 100, 3);
        x.rain(19, 1);
        Due.due("9", x.send(3), 9);
        x.rain(1, 1);
        Due.due("the gauge goes on to 0", x.gaugeOf(3, 6), 0);
        Due.due("the runner carries 9", x.runner(0, 1), 9);
        Due.due("and the hour 1", x.runner(0, 2), 1);
        Due.due("0", x.send(3), 0);
        Due.due("the second carries 0", x.runner(1, 1), 0);
    }

    /** "Up to 20 runners are on the way" */
    private static void upTo20() {
        ToldDrops x = new ToldDrops();
        for (int sent = 1; sent <= 19; sent++) {
            x.send(5);
        }
        Due.due("twice fills the 20th place", x.twice(0), 20);
        Due.due("not a 21st", x.send(5), ToldDrops.TOO_MANY);
        Due.due("not a 21st who tells twice", x.twice(19), ToldDrops.TOO_MANY);
        Due.due("the last one is 19", x.runner(19, 3), 6);
        Due.due("there is no 20", x.runner(20, 3), ToldDrops.NO_SUCH);
        x.lose(0);
        Due.due("a place behind a lost one", x.send(5), 0);
        Due.due("full again", x.send(5), ToldDrops.TOO_MANY);
        x.rain(0, 5);
        Due.due("the one who tells twice is left", x.count(3), 1);
        Due.due("places behind those who came", x.send(5), 0);
    }

    /** "when one comes, or is lost, those behind get numbers that are 1 less" */
    private static void numbersBehindALostOne() {
        int[][] left = {{4, 5, 2}, {3, 5, 2}, {3, 4, 2}, {3, 4, 5}};
        for (int lost = 0; lost < 4; lost++) {
            ToldDrops x = new ToldDrops();
            x.send(3);
            x.send(4);
            x.send(5);
            x.send(2);
            Due.due("lose(" + lost + ")", x.lose(lost), new int[] {3, 4, 5, 2}[lost]);
            for (int runner = 0; runner < 3; runner++) {
                Due.due("without " + lost + " the " + runner, x.runner(runner, 0), left[lost][runner]);
            }
            Due.due("without " + lost + " no 3", x.runner(3, 0), ToldDrops.NO_SUCH);
        }
    }

    private static void numbersBehindOneWhoCame() {
        ToldDrops x = new ToldDrops();
        int[] sent = {1, 5, 1, 4, 1, 3, 1};
        for (int gauge : sent) {
            x.send(gauge);
        }
        x.rain(0, 1);
        int[] left = {5, 4, 3};
        for (int runner = 0; runner < 3; runner++) {
            Due.due("left is " + runner, x.runner(runner, 0), left[runner]);
            Due.due("hours left of " + runner, x.runner(runner, 3), left[runner] - 1);
        }
        Due.due("no 3", x.runner(3, 0), ToldDrops.NO_SUCH);
        Due.due("one was taken", x.ledger(1, 4), 1);
        Due.due("three told twice", x.ledger(1, 6), 3);
    }

    /** "Of those who come in the same hour the one with the lower number comes first." */
    private static void lowerNumberIsTheOlder() {
        ToldDrops x = new ToldDrops();
        x.send(2);
        x.twice(0);
        x.rain(5, 1);
        x.send(2);
        x.rain(0, 2);
        Due.due("the second telling of hour 0 is told twice", x.ledger(2, 6), 1);
        Due.due("not too late", x.ledger(2, 5), 0);
        Due.due("that of hour 1 is taken behind it", x.ledger(2, 1), 1);
        Due.due("two are taken", x.ledger(2, 4), 2);
    }

    private static void lowerNumberIsTheYounger() {
        ToldDrops x = new ToldDrops();
        x.send(2);
        x.rain(5, 1);
        x.send(2);
        x.twice(0);
        x.rain(0, 2);
        Due.due("the second telling of hour 0 is too late", x.ledger(2, 5), 1);
        Due.due("not told twice", x.ledger(2, 6), 0);
        Due.due("that of hour 1 was taken ahead of it", x.ledger(2, 1), 1);
        Due.due("two are taken", x.ledger(2, 4), 2);
    }

    /** "An object is used for at most 512 calls after it has been made" */
    private static void callsUpTo512() {
        ToldDrops x = new ToldDrops();
        for (int call = 1; call <= 510; call++) {
            Due.due("call " + call, x.send(0), 0);
        }
        Due.due("call 511", x.ledger(0, 6), 509);
        Due.due("call 512", x.undo(), 5);
    }
}
