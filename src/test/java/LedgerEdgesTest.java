/** The edges that the terms name of the ledger; above each test the words that it holds to. */
public final class LedgerEdgesTest {
    private static final int WHEEL = ToldDrops.WHEEL, GUESS = ToldDrops.GUESS;

    public static void main(String[] args) {
        firstTellingOfTheHour0();
        firstTellingOfALaterHour();
        tellingOfTheSameHourIsNotTooLate();
        tellingAnHourBelowIsTooLate();
        tooLateComesBeforeToldTwice();
        sameWheelOfALaterHourIsTaken();
        tellingNotTakenLeavesTheLatest();
        tellingNotTakenLeavesWhatTheVillageCaught();
        wheelWentRoundOrNot();
        wholeRoundIsNotSeen();
        wholeRoundIsGuessed();
        guessBelowWhatWentTakesNothing();
        guessAsFarDoesNotAdd();
        guessNearerAddsOne();
        guessOfADryVillage();
        guessMultipliesAheadOfDividing();
        guessDividesDownTwice();
        guessGoesFromSendingToSending();
        guessGoesByMouthsAndCupsNow();
        guessOfTheVillageItself();
        guessOfManyRounds();
        gapBelow0();
        wheelSetWithNobodyOnTheWay();
        wheelSetWithTwentyOnTheWay();
        wheelSetTurnsGaugesAtOnce();
        wheelSetTurnsTheLatestAsItWasSent();
        wheelSetLeavesAnUntoldGauge();
        wheelRefusedLosesNobody();
        Due.end("LedgerEdgesTest");
    }

    /** A village and a gauge 1 whose e is what the village caught; the gauge 1 itself stays dry. */
    private static ToldDrops guessed() {
        ToldDrops x = new ToldDrops();
        x.gauge(0, 1, 1, 100, 0);
        x.gauge(1, 1, 1, 0, 0);
        return x;
    }

    /** A gauge 1 that tips once a drop, told by its wheel alone. */
    private static ToldDrops unguessed() {
        ToldDrops x = new ToldDrops();
        x.set(GUESS, 0);
        x.gauge(1, 1, 1, 100, 0);
        return x;
    }

    /** "(both 0 at first, as if it was told at the hour 0)" and "some telling of the gauge was taken already" */
    private static void firstTellingOfTheHour0() {
        ToldDrops x = new ToldDrops();
        x.gauge(5, 3, 10, 100, 0);
        x.send(5);
        int[] taken = {0, 0, 0, 0, 1, 0, 0, 0};
        for (int what = 0; what < taken.length; what++) {
            Due.due("the first of hour 0, what " + what, x.ledger(5, what), taken[what]);
        }
        x.send(5);
        Due.due("the second is told twice", x.ledger(5, 6), 1);
        Due.due("still one taken", x.ledger(5, 4), 1);
        Due.due("another gauge is not told by that", x.ledger(4, 4), 0);
        x.send(0);
        Due.due("and its own first one is taken", x.ledger(0, 4), 1);
    }

    private static void firstTellingOfALaterHour() {
        ToldDrops x = new ToldDrops();
        x.rain(0, 3);
        x.send(0);
        Due.due("taken with the wheel at 0", x.ledger(0, 4), 1);
        Due.due("its hour", x.ledger(0, 1), 3);
        Due.due("no tips", x.ledger(0, 0), 0);
    }

    /** "the telling is too late, and is not taken, if its hour is below that of the latest one taken" */
    private static void tellingOfTheSameHourIsNotTooLate() {
        ToldDrops x = new ToldDrops();
        x.rain(10, 2);
        x.send(0);
        x.send(0);
        Due.due("none too late", x.ledger(0, 5), 0);
        Due.due("told twice", x.ledger(0, 6), 1);
    }

    private static void tellingAnHourBelowIsTooLate() {
        ToldDrops x = new ToldDrops();
        x.gauge(1, 3, 10, 100, 9);
        x.rain(10, 1);
        x.send(1);
        x.gauge(1, 3, 10, 100, 0);
        x.rain(10, 1);
        x.send(1);
        x.rain(0, 8);
        int[] page = {6, 2, 6, 0, 1, 1, 0, 0};
        for (int what = 0; what < page.length; what++) {
            Due.due("an hour below, what " + what, x.ledger(1, what), page[what]);
        }
    }

    private static void tooLateComesBeforeToldTwice() {
        ToldDrops x = new ToldDrops();
        x.gauge(1, 3, 10, 100, 2);
        x.send(1);
        x.twice(0);
        x.rain(0, 1);
        x.gauge(1, 3, 10, 100, 0);
        x.send(1);
        x.rain(0, 2);
        Due.due("the same wheel, an hour below: too late", x.ledger(1, 5), 2);
        Due.due("and not told twice", x.ledger(1, 6), 0);
    }

    /** "it is told twice ... if it is the same hour, and the same wheel" */
    private static void sameWheelOfALaterHourIsTaken() {
        ToldDrops x = unguessed();
        x.rain(7, 1);
        x.send(1);
        x.rain(0, 1);
        x.send(1);
        Due.due("both are taken", x.ledger(1, 4), 2);
        Due.due("the later hour", x.ledger(1, 1), 2);
        Due.due("no tips more", x.ledger(1, 0), 7);
        Due.due("none told twice", x.ledger(1, 6), 0);
    }

    /** "is not taken" */
    private static void tellingNotTakenLeavesTheLatest() {
        ToldDrops x = unguessed();
        x.rain(7, 1);
        x.send(1);
        x.send(1);
        x.gauge(1, 1, 1, 100, 3);
        x.send(1);
        x.gauge(1, 1, 1, 100, 0);
        x.rain(5, 1);
        x.send(1);
        x.rain(0, 2);
        int[] page = {12, 2, 2, 0, 2, 1, 1, 0};
        for (int what = 0; what < page.length; what++) {
            Due.due("one twice, one too late, what " + what, x.ledger(1, what), page[what]);
        }
    }

    private static void tellingNotTakenLeavesWhatTheVillageCaught() {
        ToldDrops x = guessed();
        x.gauge(1, 1, 1, 0, 3);
        x.send(1);
        x.gauge(1, 1, 1, 0, 0);
        x.rain(10, 1);
        x.send(1);
        Due.due("10 guessed", x.ledger(1, 0), 10);
        x.rain(0, 2);
        Due.due("one too late", x.ledger(1, 5), 1);
        x.rain(10, 1);
        x.send(1);
        Due.due("10 more since the one that was taken", x.ledger(1, 0), 20);
    }

    /** "let went be (its wheel less the latest one), and WHEEL more if that is below 0" */
    private static void wheelWentRoundOrNot() {
        ToldDrops x = unguessed();
        int[][] rows = {{9, 9, 9}, {1, 0, 10}, {9, 9, 19}, {9, 8, 28}, {3, 1, 31}, {9, 0, 40}, {4, 4, 44}, {5, 9, 49}};
        for (int[] row : rows) {
            x.rain(row[0], 1);
            Due.due("the wheel", x.send(1), row[1]);
            Due.due("told behind " + row[0] + " more", x.ledger(1, 0), row[2]);
            Due.due("no gap", x.ledger(1, 3), 0);
        }
    }

    private static void wholeRoundIsNotSeen() {
        ToldDrops x = unguessed();
        x.rain(10, 1);
        x.send(1);
        Due.due("WHEEL tips are 0 without a guess", x.ledger(1, 0), 0);
        Due.due("and are the gap", x.ledger(1, 3), 10);
        x.rain(99, 1);
        x.send(1);
        Due.due("99 are 9", x.ledger(1, 0), 9);
        Due.due("the gap grows", x.ledger(1, 3), 100);
    }

    /** "WHEEL is added to went again and again, as long as it comes nearer to e by that" */
    private static void wholeRoundIsGuessed() {
        ToldDrops x = new ToldDrops();
        x.gauge(0, 1, 1, 100, 0);
        x.gauge(1, 1, 1, 100, 0);
        x.rain(10, 1);
        x.send(1);
        Due.due("WHEEL tips are guessed", x.ledger(1, 0), 10);
        x.rain(99, 1);
        x.send(1);
        Due.due("99 are guessed", x.ledger(1, 0), 109);
        Due.due("no gap", x.ledger(1, 3), 0);
    }

    private static void guessBelowWhatWentTakesNothing() {
        ToldDrops x = guessed();
        x.gauge(0, 1, 1, 10, 0);
        x.gauge(1, 1, 1, 100, 0);
        x.rain(19, 1);
        x.send(1);
        // e is 1, the wheel went 9
        Due.due("nothing is added, nothing taken away", x.ledger(1, 0), 9);
        x.gauge(1, 1, 1, 0, 0);
        x.rain(0, 1);
        x.send(1);
        Due.due("e and the wheel are 0", x.ledger(1, 0), 9);
    }

    private static void guessAsFarDoesNotAdd() {
        int[][] rows = {{4, 2, 0}, {4, 6, 4}, {5, 2, 0}, {5, 7, 5}, {10, 5, 0}, {10, 15, 10}, {10, 95, 90}, {60, 30, 0}, {60, 90, 60}};
        tellRows("as far", rows);
    }

    private static void guessNearerAddsOne() {
        int[][] rows = {{4, 3, 4}, {4, 7, 8}, {5, 3, 5}, {5, 8, 10}, {10, 6, 10}, {10, 16, 20}, {10, 96, 100}, {60, 31, 60}, {60, 91, 120}};
        tellRows("nearer", rows);
    }

    private static void tellRows(String name, int[][] rows) {
        for (int[] row : rows) {
            ToldDrops x = guessed();
            x.set(WHEEL, row[0]);
            x.rain(row[1], 1);
            x.send(1);
            Due.due(name + ": WHEEL " + row[0] + ", e " + row[1], x.ledger(1, 0), row[2]);
        }
    }

    private static void guessOfADryVillage() {
        ToldDrops x = new ToldDrops();
        x.gauge(0, 1, 1, 0, 0);
        x.gauge(1, 1, 1, 100, 0);
        x.rain(99, 24);
        x.send(1);
        Due.due("only the wheel is told", x.ledger(1, 0), 2376 % 10);
        Due.due("the gap", x.ledger(1, 3), 2370);
    }

    /** "what the gauge 0 caught ..., times the mouth of this gauge, / the mouth of the gauge 0, / the cup of this gauge" */
    private static void guessMultipliesAheadOfDividing() {
        ToldDrops x = new ToldDrops();
        x.gauge(0, 2, 1, 50, 0);
        x.gauge(1, 3, 1, 0, 0);
        x.set(WHEEL, 13);
        x.rain(5, 1);
        x.send(1);
        // 5 * 3 / 2 = 7 is nearer to 13; 5 / 2 * 3 = 6 would not be
        Due.due("7 of 13", x.ledger(1, 0), 13);
    }

    private static void guessDividesDownTwice() {
        ToldDrops x = new ToldDrops();
        x.gauge(0, 2, 1, 50, 0);
        x.gauge(1, 3, 2, 0, 0);
        x.set(WHEEL, 4);
        x.rain(3, 1);
        x.send(1);
        // 3 * 3 / 2 / 2 = 2, and 2 of 4 is as far
        Due.due("9 / 2 / 2 is 2", x.ledger(1, 0), 0);
        x.rain(4, 1);
        x.send(1);
        // 4 * 3 / 2 / 2 = 3
        Due.due("12 / 2 / 2 is 3", x.ledger(1, 0), 4);
    }

    /** "between the latest telling that was taken and this one (from the one sending to the other)" */
    private static void guessGoesFromSendingToSending() {
        ToldDrops x = guessed();
        x.gauge(1, 1, 1, 0, 2);
        x.rain(4, 1);
        x.send(1);
        x.rain(30, 2);
        Due.due("what fell behind the sending does not count", x.ledger(1, 0), 0);
        Due.due("it was taken", x.ledger(1, 4), 1);
        x.gauge(1, 1, 1, 0, 0);
        x.send(1);
        Due.due("it counts in the next telling", x.ledger(1, 0), 60);
    }

    /** "mouths and cup as they are now" */
    private static void guessGoesByMouthsAndCupsNow() {
        ToldDrops x = guessed();
        x.gauge(1, 1, 1, 0, 1);
        x.rain(40, 1);
        x.send(1);
        x.gauge(0, 2, 1, 100, 0);
        x.gauge(1, 9, 6, 0, 1);
        x.rain(0, 1);
        Due.due("40 * 9 / 2 / 6 = 30", x.ledger(1, 0), 30);
    }

    private static void guessOfTheVillageItself() {
        ToldDrops x = new ToldDrops();
        x.gauge(0, 7, 50, 100, 0);
        x.rain(99, 24);
        x.send(0);
        Due.due("all is told of the gauge 0", x.ledger(0, 0), 332);
        Due.due("no gap", x.ledger(0, 3), 0);
    }

    private static void guessOfManyRounds() {
        ToldDrops x = new ToldDrops();
        x.gauge(0, 9, 1, 200, 0);
        x.gauge(1, 9, 1, 0, 0);
        for (int call = 0; call < 416; call++) {
            x.rain(99, 24);
        }
        x.rain(99, 15);
        Due.due("all that can fall", x.gaugeOf(0, 7), 17818218);
        x.gauge(0, 1, 1, 200, 0);
        x.set(WHEEL, 4);
        // e is 17818218 * 9 = 160363962, as far from 160363960 as from 160363964
        Due.due("if one is sent", x.ifSent(1), -160363960);
        x.send(1);
        Due.due("as many rounds as can be", x.ledger(1, 0), 160363960);
    }

    /** "3 the gap: the tips so far less those told (it can be below 0)" */
    private static void gapBelow0() {
        ToldDrops x = guessed();
        x.rain(50, 1);
        x.send(1);
        Due.due("50 guessed of none", x.ledger(1, 3), -50);
        Due.due("one gap, and those that are not told", x.count(8), 6);
        x.gauge(1, 1, 1, 100, 0);
        x.rain(50, 1);
        Due.due("50 fell now", x.ledger(1, 3), 0);
        Due.due("a gap fewer", x.count(8), 5);
    }

    /** "When WHEEL is set ..., runners on the way are lost (and count as lost)": none, and 20 */
    private static void wheelSetWithNobodyOnTheWay() {
        ToldDrops x = new ToldDrops();
        x.set(WHEEL, 12);
        for (int gauge = 0; gauge < 6; gauge++) {
            Due.due("nobody lost of " + gauge, x.ledger(gauge, 7), 0);
        }
        x.send(5);
        x.lose(0);
        x.send(2);
        x.rain(0, 2);
        x.set(WHEEL, 12);
        Due.due("who was lost already counts once", x.ledger(5, 7), 1);
        Due.due("who came is not lost", x.ledger(2, 7), 0);
    }

    private static void wheelSetWithTwentyOnTheWay() {
        ToldDrops x = Told.full();
        x.set(WHEEL, 10);
        Due.due("nobody is on the way", x.count(3), 0);
        for (int gauge = 0; gauge < 6; gauge++) {
            Due.due("lost of " + gauge, x.ledger(gauge, 7), gauge == 0 ? 0 : 4);
        }
        x.rain(0, 9);
        Due.due("nobody comes", x.ledger(1, 4) + x.ledger(5, 4), 0);
        Due.due("20 can go again", x.send(5), 4);
    }

    /** "all wheels stand by it at once" */
    private static void wheelSetTurnsGaugesAtOnce() {
        ToldDrops x = unguessed();
        x.rain(60, 1);
        int[][] rows = {{60, 0}, {59, 1}, {4, 0}, {7, 4}, {10, 0}};
        for (int[] row : rows) {
            x.set(WHEEL, row[0]);
            Due.due("60 tips by " + row[0], x.gaugeOf(1, 6), row[1]);
            Due.due("tips stay", x.gaugeOf(1, 5), 60);
        }
    }

    /** "the latest tellings get the wheel that the gauge had when they were sent, by the new WHEEL" */
    private static void wheelSetTurnsTheLatestAsItWasSent() {
        ToldDrops x = unguessed();
        x.gauge(1, 1, 1, 100, 2);
        x.rain(13, 1);
        x.send(1);
        x.rain(5, 2);
        Due.due("3 by 10", x.ledger(1, 2), 3);
        x.set(WHEEL, 7);
        Due.due("13 by 7, not the 23 of now", x.ledger(1, 2), 6);
        Due.due("23 by 7", x.gaugeOf(1, 6), 2);
        x.set(WHEEL, 60);
        Due.due("13 by 60", x.ledger(1, 2), 13);
        Due.due("tips that are told stay", x.ledger(1, 0), 3);
        x.gauge(1, 1, 1, 100, 0);
        x.send(1);
        Due.due("from 13 to 23", x.ledger(1, 0), 13);
        x.undo();
        x.undo();
        x.undo();
        Due.due("undone: 13 by 7", x.ledger(1, 2), 6);
    }

    private static void wheelSetLeavesAnUntoldGauge() {
        ToldDrops x = unguessed();
        x.rain(13, 1);
        x.set(WHEEL, 5);
        Due.due("0 by any WHEEL", x.ledger(1, 2), 0);
        x.send(1);
        Due.due("from 0 to 3", x.ledger(1, 0), 3);
    }

    private static void wheelRefusedLosesNobody() {
        ToldDrops x = Told.full();
        Due.due("WHEEL 61", x.set(WHEEL, 61), ToldDrops.BAD_VALUE);
        Due.due("20 on the way", x.count(3), 20);
        Due.due("nobody lost", x.ledger(1, 7), 0);
        x.set(GUESS, 1);
        Due.due("GUESS loses nobody", x.count(3), 20);
    }
}
