/** The edges that promises 9 to 16 name; above each test the words that it holds to. */
public final class AnswerEdgesTest {
    private static final int NO_SUCH = ToldDrops.NO_SUCH, BAD_VALUE = ToldDrops.BAD_VALUE, NONE = ToldDrops.NONE;
    private static final int WHEEL = ToldDrops.WHEEL, GUESS = ToldDrops.GUESS;

    public static void main(String[] args) {
        whatOfGaugesFrom0To8();
        whatOfTheLedgerFrom0To7();
        whatOfRunnersFrom0To3();
        whatOfAllFrom0To10();
        sumsOfCupsThatAreTooSmall();
        gapsOnBothSidesOf0();
        historyAndPadAreCounted();
        roundIsThereExactly();
        roundIsPassedInOneHour();
        roundAfter500HoursAndNot501();
        roundByASmallerCup();
        roundSinceTheSendingOfTheLatest();
        roundIsNotMovedByWhatIsNotTaken();
        roundByTheWheelThatIsSet();
        roundOfDryGauges();
        ifSentOfTheFirstTelling();
        ifSentInTheSameHour();
        ifSentOverATurnOfTheWheel();
        ifSentBelow0();
        ifSentWithAnyWay();
        ifSentWithTwentyOnTheWay();
        ifSentLetsNoHourPass();
        ifAllComeWithNobody();
        ifAllComeOfTwenty();
        ifAllComeTooLateAndTwice();
        ifAllComeTipsAsLongAsHoursPass();
        mostUntoldOfOneTip();
        mostUntoldOfEqualOnes();
        mostUntoldCountsTipsNotWheels();
        Due.end("AnswerEdgesTest");
    }

    /** A gauge 1 that tips once a drop, with the way 0. */
    private static ToldDrops tipping() {
        ToldDrops x = new ToldDrops();
        x.gauge(1, 1, 1, 100, 0);
        return x;
    }

    /** "`what`: 0 its mouth ... 8 what it poured away" of the gauges 0 to 5 */
    private static void whatOfGaugesFrom0To8() {
        ToldDrops x = new ToldDrops();
        x.gauge(0, 1, 2, 3, 4);
        x.gauge(5, 9, 50, 200, 9);
        x.rain(99, 1);
        int[] first = {1, 2, 3, 4, 0, 1, 1, 2, 2}, last = {9, 50, 200, 9, 32, 35, 5, 1782, 1750};
        for (int what = 0; what <= 8; what++) {
            Due.due("gaugeOf(0, " + what + ")", x.gaugeOf(0, what), first[what]);
            Due.due("gaugeOf(5, " + what + ")", x.gaugeOf(5, what), last[what]);
        }
        Due.due("what -1", x.gaugeOf(0, -1), BAD_VALUE);
        Due.due("what 9", x.gaugeOf(0, 9), BAD_VALUE);
    }

    private static void whatOfTheLedgerFrom0To7() {
        ToldDrops x = new ToldDrops();
        x.gauge(5, 3, 10, 100, 3);
        x.rain(10, 3);
        x.send(5);
        x.send(5);
        x.lose(1);
        x.gauge(5, 3, 10, 100, 0);
        x.rain(10, 1);
        x.send(5);
        x.send(5);
        x.send(5);
        x.rain(10, 2);
        int[] page = {12, 4, 2, 6, 1, 1, 2, 1};
        for (int what = 0; what <= 7; what++) {
            Due.due("ledger(5, " + what + ")", x.ledger(5, what), page[what]);
        }
        Due.due("what -1", x.ledger(5, -1), BAD_VALUE);
        Due.due("what 8", x.ledger(5, 8), BAD_VALUE);
    }

    private static void whatOfRunnersFrom0To3() {
        ToldDrops x = Told.full();
        int[] first = {1, 4, 2, 1}, last = {5, 4, 2, 5};
        for (int what = 0; what <= 3; what++) {
            Due.due("runner(0, " + what + ")", x.runner(0, what), first[what]);
            Due.due("runner(19, " + what + ")", x.runner(19, what), last[what]);
        }
        Due.due("what -1", x.runner(19, -1), BAD_VALUE);
        Due.due("what 4", x.runner(19, 4), BAD_VALUE);
        Due.due("no 20", x.runner(20, 0), NO_SUCH);
        Due.due("no -1", x.runner(-1, 0), NO_SUCH);
    }

    private static void whatOfAllFrom0To10() {
        ToldDrops x = Told.full();
        Due.write(x, "s0;s1");
        int[] numbers = {10, 1, 2, 20, 252, 252, 24, 0, 6, 5, 6};
        for (int what = 0; what <= 10; what++) {
            Due.due("count(" + what + ")", x.count(what), numbers[what]);
        }
        Due.due("what -1", x.count(-1), BAD_VALUE);
        Due.due("what 11", x.count(11), BAD_VALUE);
    }

    /** "4 what all gauges caught so far, 5 the same, told by what was poured away and what is in the cups" */
    private static void sumsOfCupsThatAreTooSmall() {
        ToldDrops x = new ToldDrops();
        x.rain(3, 1);
        for (int gauge = 0; gauge < 6; gauge++) {
            x.gauge(gauge, 9, 1 + gauge, 199, 9);
            Due.due("before they tip", x.count(5), 54);
        }
        x.rain(0, 1);
        Due.due("when they have tipped", x.count(5), 54);
        Due.due("as was caught", x.count(4), 54);
        x.rain(99, 24);
        Due.due("54 and 6 * 24 * 1773", x.count(4), 54 + 6 * 24 * 1773);
        Due.due("told in the other way", x.count(5), 54 + 6 * 24 * 1773);
    }

    /** "8 gauges with a gap other than 0" */
    private static void gapsOnBothSidesOf0() {
        ToldDrops x = new ToldDrops();
        Due.due("no gap", x.count(8), 0);
        x.gauge(0, 1, 1, 100, 0);
        x.gauge(1, 1, 1, 0, 0);
        for (int gauge = 2; gauge < 6; gauge++) {
            x.gauge(gauge, 1, 50, 0, 1);
        }
        x.rain(20, 1);
        Due.due("the gauge 0 alone", x.count(8), 1);
        x.send(1);
        Due.due("and the gauge 1 below 0", x.count(8), 2);
        Due.due("told of all", x.count(7), 20);
        x.send(0);
        Due.due("the gauge 1 alone", x.count(8), 1);
        Due.due("told of both", x.count(7), 40);
    }

    /** "9 the length of the pad, 10 how many changes can be undone" */
    private static void historyAndPadAreCounted() {
        ToldDrops x = new ToldDrops();
        for (int change = 0; change <= 8; change++) {
            Due.due("changes", x.count(10), Math.min(change, 6));
            Due.due("characters", x.count(9), Math.min(8 * change, 56));
            x.set(GUESS, 0);
            x.put(Due.characters("rrrrrrrr"));
        }
        x.put(Due.characters("rrrr"));
        Due.due("60 characters", x.count(9), 60);
    }

    /** "has tipped WHEEL times or more ... Returns how many, 0 if it has" */
    private static void roundIsThereExactly() {
        ToldDrops x = tipping();
        x.rain(9, 1);
        Due.due("9 of 10, dry", x.untilRound(1, 0), NONE);
        Due.due("9 of 10", x.untilRound(1, 1), 1);
        x.rain(1, 1);
        Due.due("10 of 10, dry", x.untilRound(1, 0), 0);
        Due.due("10 of 10, in rain", x.untilRound(1, 99), 0);
        x.rain(1, 1);
        Due.due("11 of 10", x.untilRound(1, 0), 0);
    }

    private static void roundIsPassedInOneHour() {
        ToldDrops x = tipping();
        Due.due("99 tips in the first hour", x.untilRound(1, 99), 1);
        Due.due("10 tips in the first hour", x.untilRound(1, 10), 1);
        Due.due("9 tips in the first hour", x.untilRound(1, 9), 2);
        Due.due("5 tips an hour", x.untilRound(1, 5), 2);
        Due.due("4 tips an hour", x.untilRound(1, 4), 3);
    }

    /** "NONE if it has not in 500 hours" */
    private static void roundAfter500HoursAndNot501() {
        ToldDrops x = new ToldDrops();
        x.gauge(1, 1, 50, 100, 1);
        Due.due("10 cups of 50 in 500 hours", x.untilRound(1, 1), 500);
        x.rain(1, 1);
        Due.due("one drop ahead", x.untilRound(1, 1), 499);
        x.set(WHEEL, 11);
        x.rain(1, 24);
        x.rain(1, 23);
        Due.due("11 cups of 50 less 48 drops", x.untilRound(1, 1), NONE);
        x.rain(1, 1);
        Due.due("less 49 drops", x.untilRound(1, 1), NONE);
        x.rain(1, 1);
        Due.due("less 50 drops", x.untilRound(1, 1), 500);
    }

    /** "in how many hours of rain": a cup that is too small tips in the first of them, and not ahead of it */
    private static void roundByASmallerCup() {
        ToldDrops x = new ToldDrops();
        x.gauge(1, 1, 50, 100, 1);
        x.rain(40, 1);
        x.gauge(1, 1, 4, 100, 1);
        Due.due("40 drops are 10 cups of 4", x.untilRound(1, 0), 1);
        x.set(WHEEL, 11);
        Due.due("and not 11", x.untilRound(1, 0), NONE);
        Due.due("4 more are", x.untilRound(1, 4), 1);
        Due.due("3 more are in the second hour", x.untilRound(1, 3), 2);
    }

    /** "since the hour of the latest telling that was taken" */
    private static void roundSinceTheSendingOfTheLatest() {
        ToldDrops x = new ToldDrops();
        x.gauge(1, 1, 1, 100, 2);
        x.rain(10, 1);
        x.send(1);
        Due.due("on the way it tells nothing", x.untilRound(1, 0), 0);
        x.rain(4, 2);
        Due.due("8 since the sending, 2 more", x.untilRound(1, 1), 2);
        Due.due("8 are not 10", x.untilRound(1, 0), NONE);
    }

    private static void roundIsNotMovedByWhatIsNotTaken() {
        ToldDrops x = new ToldDrops();
        x.gauge(1, 1, 1, 100, 3);
        x.send(1);
        x.rain(5, 1);
        x.gauge(1, 1, 1, 100, 0);
        x.send(1);
        x.twice(0);
        x.rain(3, 3);
        Due.due("two too late", x.ledger(1, 5), 2);
        Due.due("9 since the hour 1", x.untilRound(1, 1), 1);
    }

    private static void roundByTheWheelThatIsSet() {
        ToldDrops x = tipping();
        x.rain(13, 1);
        x.send(1);
        x.rain(5, 1);
        x.set(WHEEL, 5);
        Due.due("5 of 5", x.untilRound(1, 0), 0);
        x.set(WHEEL, 6);
        Due.due("5 of 6", x.untilRound(1, 1), 1);
        x.set(WHEEL, 60);
        Due.due("5 of 60", x.untilRound(1, 1), 55);
    }

    private static void roundOfDryGauges() {
        ToldDrops x = new ToldDrops();
        x.gauge(1, 9, 1, 0, 1);
        x.gauge(2, 1, 1, 1, 2);
        x.gauge(3, 1, 50, 2, 3);
        Due.due("the share 0", x.untilRound(1, 99), NONE);
        Due.due("99 hundredths", x.untilRound(2, 99), NONE);
        Due.due("198 hundredths", x.untilRound(3, 99), 500);
    }

    /** "what the gap of a gauge would be, if a runner was sent now" */
    private static void ifSentOfTheFirstTelling() {
        ToldDrops x = new ToldDrops();
        Due.due("dry, at the hour 0", x.ifSent(0), 0);
        x.rain(30, 1);
        Due.due("9 tips by the wheel", x.ifSent(5), 0);
        Due.due("the gap stays", x.ledger(5, 3), 9);
    }

    private static void ifSentInTheSameHour() {
        ToldDrops x = new ToldDrops();
        x.set(GUESS, 0);
        x.rain(40, 1);
        x.send(0);
        Due.due("12 tips, 2 told", x.ledger(0, 3), 10);
        x.set(GUESS, 1);
        Due.due("told twice, whatever is guessed", x.ifSent(0), 10);
        x.rain(0, 1);
        Due.due("taken, but nothing fell", x.ifSent(0), 10);
        Due.due("none is told twice by that", x.ledger(0, 6), 0);
    }

    private static void ifSentOverATurnOfTheWheel() {
        ToldDrops x = tipping();
        x.set(GUESS, 0);
        x.rain(9, 1);
        x.send(1);
        x.rain(1, 1);
        Due.due("from 9 to 0", x.ifSent(1), 0);
        x.rain(8, 1);
        Due.due("from 9 to 8", x.ifSent(1), 0);
        x.rain(1, 1);
        Due.due("from 9 to 9", x.ifSent(1), 10);
    }

    private static void ifSentBelow0() {
        ToldDrops x = new ToldDrops();
        x.gauge(0, 1, 1, 100, 0);
        x.gauge(1, 1, 1, 0, 1);
        x.rain(5, 1);
        Due.due("5 are not guessed", x.ifSent(1), 0);
        x.rain(1, 1);
        Due.due("6 are guessed as 10", x.ifSent(1), -10);
        Due.due("the gap is still 0", x.ledger(1, 3), 0);
    }

    private static void ifSentWithAnyWay() {
        ToldDrops x = new ToldDrops();
        x.set(GUESS, 0);
        x.rain(40, 1);
        for (int way = 0; way <= 9; way++) {
            x.gauge(1, 3, 10, 100, way);
            Due.due("way " + way, x.ifSent(1), 10);
        }
    }

    /** "and nobody else came ahead of this one" */
    private static void ifSentWithTwentyOnTheWay() {
        ToldDrops x = Told.full();
        x.set(GUESS, 0);
        x.rain(8, 1);
        Due.due("20 less the 4 of the gauge 1", x.count(3), 16);
        for (int sent = 0; sent < 4; sent++) {
            x.send(5);
        }
        Due.due("20", x.count(3), 20);
        // 66 drops are 6 tips, and nobody has told of the gauge 5
        Due.due("as if all 6 were told", x.ifSent(5), 0);
        Due.due("of the gauge 1, too", x.ifSent(1), 0);
        Due.due("20 are still on the way", x.count(3), 20);
        Due.due("and nobody more can go", x.send(5), ToldDrops.TOO_MANY);
    }

    /** "and no rain fell"; that hours pass is said of ifAllCome alone */
    private static void ifSentLetsNoHourPass() {
        ToldDrops x = new ToldDrops();
        x.set(GUESS, 0);
        x.rain(3, 1);
        x.gauge(5, 3, 1, 100, 9);
        Due.due("9 drops in a cup of 1 stay", x.ifSent(5), 0);
        x.send(5);
        Due.due("they tip when the runner comes", x.ifAllCome(5), 9);
    }

    /** "what the gap of a gauge would be when all runners on the way have come, with dry hours until then" */
    private static void ifAllComeWithNobody() {
        ToldDrops x = new ToldDrops();
        x.rain(3, 1);
        x.gauge(5, 3, 1, 100, 5);
        Due.due("no hour passes", x.ifAllCome(5), 0);
        x.send(4);
        Due.due("asked while one is on the way", x.untilRound(5, 0), NONE);
        x.lose(0);
        Due.due("for a lost one neither", x.ifAllCome(5), 0);
        x.send(0);
        Due.due("nor for one who came", x.ifAllCome(5), 0);
        x.send(4);
        Due.due("for one on the way they do", x.ifAllCome(5), 9);
    }

    private static void ifAllComeOfTwenty() {
        ToldDrops x = Told.full();
        for (int gauge = 1; gauge < 6; gauge++) {
            Due.due("no gap of " + gauge, x.ifAllCome(gauge), 0);
            Due.due("but now", x.ledger(gauge, 3), 4);
        }
        Due.due("nobody comes of 0", x.ifAllCome(0), 4);
        Due.due("20 are on the way", x.count(3), 20);
    }

    private static void ifAllComeTooLateAndTwice() {
        ToldDrops x = new ToldDrops();
        x.set(GUESS, 0);
        x.gauge(1, 1, 1, 100, 9);
        x.rain(8, 1);
        x.send(1);
        x.twice(0);
        x.rain(4, 1);
        x.gauge(1, 1, 1, 100, 1);
        x.send(1);
        x.rain(0, 1);
        Due.due("12 by a wheel of 10", x.ledger(1, 3), 10);
        Due.due("too late ones tell nothing", x.ifAllCome(1), 10);
        x.undo();
        x.lose(2);
        Due.due("8 of 12 are told, once", x.ifAllCome(1), 4);
    }

    /** "(in which cups can tip, as in any hour)" */
    private static void ifAllComeTipsAsLongAsHoursPass() {
        ToldDrops x = new ToldDrops();
        x.set(GUESS, 0);
        x.rain(3, 1);
        x.gauge(1, 3, 2, 100, 1);
        Due.due("a runner ahead of the tips", x.send(1), 0);
        Due.due("9 drops in a cup of 2", x.ifAllCome(1), 4);
        Due.due("of the others none", x.ifAllCome(2), 0);
        x.rain(0, 1);
        Due.due("and so it was", x.ledger(1, 3), 4);
    }

    /** "the one whose wheel went on the most ...; of several the lowest", "NONE if none went on" */
    private static void mostUntoldOfOneTip() {
        for (int gauge = 0; gauge < 6; gauge++) {
            ToldDrops x = new ToldDrops();
            x.gauge(gauge, 3, 9, 100, 0);
            x.rain(3, 1);
            Due.due("one tip of " + gauge, x.mostUntold(), gauge);
            x.send(gauge);
            Due.due("told", x.mostUntold(), NONE);
        }
    }

    private static void mostUntoldOfEqualOnes() {
        ToldDrops x = new ToldDrops();
        x.rain(10, 2);
        for (int gauge = 0; gauge < 6; gauge++) {
            Due.due("the lowest", x.mostUntold(), gauge);
            x.gauge(gauge, 3, 10, 100, 0);
            x.send(gauge);
        }
        Due.due("all are told", x.mostUntold(), NONE);
        x.rain(10, 1);
        Due.due("the lowest again", x.mostUntold(), 0);
        x.gauge(5, 3, 9, 100, 0);
        x.rain(0, 1);
        Due.due("still the lowest", x.mostUntold(), 0);
        x.gauge(5, 4, 9, 100, 0);
        x.rain(9, 1);
        Due.due("one tip more of the last", x.mostUntold(), 5);
    }

    /** "(tips, not left over)" */
    private static void mostUntoldCountsTipsNotWheels() {
        ToldDrops x = tipping();
        x.gauge(2, 1, 1, 90, 2);
        x.rain(10, 1);
        Due.due("10 is more than 9, though the wheel is at 0", x.mostUntold(), 1);
        x.set(GUESS, 0);
        x.send(1);
        Due.due("told as 0, but of this hour", x.mostUntold(), 2);
        Due.due("with a gap of 10", x.ledger(1, 3), 10);
    }
}
