/** Promises 1 to 7: a new object, set, gauge, rain, send, lose, twice. */
public final class ChangesTest {
    private static final int NO_SUCH = ToldDrops.NO_SUCH, BAD_VALUE = ToldDrops.BAD_VALUE, TOO_MANY = ToldDrops.TOO_MANY;
    private static final int WHEEL = ToldDrops.WHEEL, GUESS = ToldDrops.GUESS;

    public static void main(String[] args) {
        newObject();
        setAnswers();
        setWheelLosesRunners();
        setWheelTurnsLatestTellings();
        setGuess();
        gaugeAnswers();
        smallerCupTipsInTheNextHour();
        newWayHoldsForLaterRunnersOnly();
        rainAnswers();
        rainIsDividedDownInEachHour();
        hoursEndAt9999();
        runnersComeWhenTheirHoursHavePassed();
        lowerNumberComesFirst();
        sendAnswers();
        tellingsTooLateAndTwice();
        firstTellingAtTheHour0IsTaken();
        guessedRounds();
        guessGoesByMouthsAndCupsAsTheyAre();
        guessOfAHalfRoundIsNotNearer();
        guessDividesTwice();
        loseAnswers();
        twiceAnswers();
        Due.end("ChangesTest");
    }

    private static void newObject() {
        ToldDrops x = new ToldDrops();
        int[] whole = {10, 1, 0, 0, 0, 0, 0, 0, 0, 0, 0};
        for (int what = 0; what < whole.length; what++) {
            Due.due("1: count(" + what + ")", x.count(what), whole[what]);
        }
        for (int gauge = 0; gauge < 6; gauge++) {
            int[] facts = {3, 10, 100, gauge, 0, 0, 0, 0, 0};
            for (int what = 0; what < facts.length; what++) {
                Due.due("1: gaugeOf(" + gauge + ", " + what + ")", x.gaugeOf(gauge, what), facts[what]);
            }
            for (int what = 0; what < 8; what++) {
                Due.due("1: ledger(" + gauge + ", " + what + ")", x.ledger(gauge, what), 0);
            }
        }
        Due.due("1: restore(0)", x.restore(0), ToldDrops.NOT_POSSIBLE);
        Due.due("1: restore(1)", x.restore(1), ToldDrops.NOT_POSSIBLE);
        Due.due("1: undo", x.undo(), ToldDrops.NOT_POSSIBLE);
        Due.due("1: fault", x.fault(), 0);
        ToldDrops other = new ToldDrops();
        x.rain(9, 9);
        Due.due("1: another object stays dry", other.count(4), 0);
    }

    private static void setAnswers() {
        ToldDrops x = new ToldDrops();
        Due.due("2: no setting -1", x.set(-1, 10), BAD_VALUE);
        Due.due("2: no setting 2", x.set(2, 1), BAD_VALUE);
        Due.due("2: wheel 3", x.set(WHEEL, 3), BAD_VALUE);
        Due.due("2: wheel 61", x.set(WHEEL, 61), BAD_VALUE);
        Due.due("2: wheel least int", x.set(WHEEL, Integer.MIN_VALUE), BAD_VALUE);
        Due.due("2: guess -1", x.set(GUESS, -1), BAD_VALUE);
        Due.due("2: guess 2", x.set(GUESS, 2), BAD_VALUE);
        Due.due("2: errors are no changes", x.count(10), 0);
        Due.due("2: wheel 4", x.set(WHEEL, 4), 10);
        Due.due("2: wheel 60", x.set(WHEEL, 60), 4);
        Due.due("2: wheel 60 again", x.set(WHEEL, 60), 60);
        Due.due("2: the wheel is kept", x.count(0), 60);
        Due.due("2: guess 0", x.set(GUESS, 0), 1);
        Due.due("2: guess 1", x.set(GUESS, 1), 0);
        Due.due("2: changes", x.count(10), 5);
    }

    private static void setWheelLosesRunners() {
        ToldDrops x = new ToldDrops();
        x.send(3);
        x.send(4);
        x.send(3);
        Due.due("2: a wrong wheel loses nobody", x.set(WHEEL, 3), BAD_VALUE);
        Due.due("2: three on the way", x.count(3), 3);
        Due.due("2: guess loses nobody", x.set(GUESS, 1), 1);
        Due.due("2: still three", x.count(3), 3);
        Due.due("2: the wheel as it is", x.set(WHEEL, 10), 10);
        Due.due("2: none on the way", x.count(3), 0);
        Due.due("2: two lost of 3", x.ledger(3, 7), 2);
        Due.due("2: one lost of 4", x.ledger(4, 7), 1);
        Due.due("2: none lost of 5", x.ledger(5, 7), 0);
        x.rain(0, 9);
        Due.due("2: nobody comes", x.ledger(3, 4), 0);
        Due.due("2: runner of none", x.runner(0, 0), NO_SUCH);
    }

    private static void setWheelTurnsLatestTellings() {
        ToldDrops x = new ToldDrops();
        x.set(GUESS, 0);
        x.rain(9, 10);
        Due.due("2: 27 tips", x.gaugeOf(0, 5), 27);
        Due.due("2: sent with 7", x.send(0), 7);
        x.rain(9, 1);
        Due.due("2: latest 7", x.ledger(0, 2), 7);
        x.set(WHEEL, 4);
        Due.due("2: 27 by 4", x.ledger(0, 2), 3);
        Due.due("2: 29 by 4", x.gaugeOf(0, 6), 1);
        Due.due("2: told stays", x.ledger(0, 0), 7);
        x.send(0);
        Due.due("2: from 3 to 1", x.ledger(0, 0), 9);
        x.set(WHEEL, 60);
        Due.due("2: 29 by 60", x.ledger(0, 2), 29);
        x.set(WHEEL, 12);
        x.send(0);
        Due.due("2: same hour, same wheel by the new one", x.ledger(0, 6), 1);
    }

    private static void setGuess() {
        ToldDrops x = new ToldDrops();
        x.rain(30, 10);
        x.save(0);
        x.send(0);
        Due.due("2: with guess all is told", x.ledger(0, 3), 0);
        x.restore(0);
        x.set(GUESS, 0);
        x.send(0);
        Due.due("2: without guess 90 are not", x.ledger(0, 3), 90);
    }

    private static void gaugeAnswers() {
        ToldDrops x = new ToldDrops();
        int[][] wrong = {{0, 1, 0, 0}, {10, 1, 0, 0}, {1, 0, 0, 0}, {1, 51, 0, 0}, {1, 1, -1, 0}, {1, 1, 201, 0}, {1, 1, 0, -1}, {1, 1, 0, 10}};
        for (int[] w : wrong) {
            Due.due("3: wrong", x.gauge(1, w[0], w[1], w[2], w[3]), BAD_VALUE);
            Due.due("3: wrong of no gauge", x.gauge(6, w[0], w[1], w[2], w[3]), NO_SUCH);
        }
        Due.due("3: no gauge -1", x.gauge(-1, 1, 1, 0, 0), NO_SUCH);
        Due.due("3: errors are no changes", x.count(10), 0);
        Due.due("3: the mouth stays", x.gaugeOf(1, 0), 3);
        x.rain(1, 2);
        Due.due("3: least", x.gauge(1, 1, 1, 0, 0), 6);
        Due.due("3: most", x.gauge(5, 9, 50, 200, 9), 6);
        int[] facts = {9, 50, 200, 9, 6};
        for (int what = 0; what < facts.length; what++) {
            Due.due("3: gaugeOf(5, " + what + ")", x.gaugeOf(5, what), facts[what]);
        }
        int[] leastFacts = {1, 1, 0, 0, 6};
        for (int what = 0; what < leastFacts.length; what++) {
            Due.due("3: gaugeOf(1, " + what + ")", x.gaugeOf(1, what), leastFacts[what]);
        }
        Due.due("3: changes", x.count(10), 3);
    }

    private static void smallerCupTipsInTheNextHour() {
        ToldDrops x = new ToldDrops();
        x.rain(3, 1);
        Due.due("3: 9 in the cup", x.gauge(2, 3, 4, 100, 2), 9);
        Due.due("3: not yet", x.gaugeOf(2, 4), 9);
        Due.due("3: no tip yet", x.gaugeOf(2, 5), 0);
        Due.due("4: two tips in a dry hour", x.rain(0, 1), 2);
        Due.due("4: 1 left", x.gaugeOf(2, 4), 1);
        Due.due("4: 8 away", x.gaugeOf(2, 8), 8);
        Due.due("4: nothing more", x.rain(0, 24), 0);
    }

    private static void newWayHoldsForLaterRunnersOnly() {
        ToldDrops x = new ToldDrops();
        x.send(4);
        x.gauge(4, 3, 10, 100, 1);
        x.send(4);
        Due.due("5: the way as it was", x.runner(0, 3), 4);
        Due.due("5: the new way", x.runner(1, 3), 1);
    }

    private static void rainAnswers() {
        ToldDrops x = new ToldDrops();
        int[][] wrong = {{-1, 1}, {100, 1}, {0, 0}, {0, 25}, {0, -1}, {Integer.MAX_VALUE, 1}, {1, Integer.MAX_VALUE}};
        for (int[] w : wrong) {
            Due.due("4: wrong " + w[0] + " " + w[1], x.rain(w[0], w[1]), BAD_VALUE);
        }
        Due.due("4: errors are no changes", x.count(10) + x.count(2), 0);
        Due.due("4: dry", x.rain(0, 1), 0);
        Due.due("4: most", x.rain(99, 24), 6 * 712);
        Due.due("4: hours", x.count(2), 25);
        Due.due("4: tips of all", x.count(6), 6 * 712);
        Due.due("4: left in the cup", x.gaugeOf(0, 4), 8);
        Due.due("4: changes", x.count(10), 2);
    }

    private static void rainIsDividedDownInEachHour() {
        ToldDrops x = new ToldDrops();
        x.gauge(1, 1, 1, 50, 1);
        x.gauge(2, 1, 1, 199, 1);
        x.gauge(3, 3, 50, 33, 1);
        x.rain(1, 4);
        Due.due("4: half a drop is none", x.gaugeOf(1, 7), 0);
        Due.due("4: 199 hundredths are 1", x.gaugeOf(2, 7), 4);
        Due.due("4: 99 hundredths are none", x.gaugeOf(3, 7), 0);
        x.rain(3, 1);
        Due.due("4: 3 halves are 1", x.gaugeOf(1, 7), 1);
        Due.due("4: 597 hundredths are 5", x.gaugeOf(2, 7), 9);
        Due.due("4: 297 hundredths are 2", x.gaugeOf(3, 4), 2);
    }

    private static void hoursEndAt9999() {
        ToldDrops x = new ToldDrops();
        for (int call = 0; call < 416; call++) {
            x.rain(0, 24);
        }
        Due.due("4: 9984 hours", x.count(2), 9984);
        Due.due("4: 10000 are too many", x.rain(0, 16), TOO_MANY);
        Due.due("4: the wrong value first", x.rain(100, 16), BAD_VALUE);
        Due.due("4: nothing passes", x.count(2), 9984);
        Due.due("4: 9999", x.rain(0, 15), 0);
        Due.due("4: 10000", x.rain(0, 1), TOO_MANY);
        x.send(5);
        x.rain(0, 1);
        Due.due("4: no hour, no runner", x.runner(0, 3), 5);
        Due.due("15: what if goes beyond", x.ifAllCome(5), 0);
        Due.due("8: passed over", ordersDone(x, "r1h1;s0"), 1);
    }

    private static int ordersDone(ToldDrops x, String text) {
        Due.write(x, text);
        return x.run();
    }

    private static void runnersComeWhenTheirHoursHavePassed() {
        ToldDrops x = new ToldDrops();
        x.rain(4, 3);
        Due.due("5: 3 tips", x.send(2), 3);
        x.rain(4, 1);
        Due.due("4: not yet", x.ledger(2, 4), 0);
        Due.due("4: 1 hour left", x.runner(0, 3), 1);
        x.rain(4, 1);
        Due.due("4: come", x.ledger(2, 4), 1);
        Due.due("4: nobody left", x.count(3), 0);
        Due.due("4: told as it was sent", x.ledger(2, 0), 3);
        Due.due("4: its hour", x.ledger(2, 1), 3);
        Due.due("4: its gap", x.ledger(2, 3), 3);
    }

    private static void lowerNumberComesFirst() {
        ToldDrops x = new ToldDrops();
        x.set(GUESS, 0);
        x.send(2);
        x.rain(3, 1);
        x.gauge(2, 3, 10, 100, 1);
        x.send(2);
        x.send(5);
        x.rain(0, 1);
        Due.due("4: both of 2 are taken, the older first", x.ledger(2, 4), 2);
        Due.due("4: none too late", x.ledger(2, 5), 0);
        Due.due("4: the one behind is 0 now", x.runner(0, 0), 5);
        x.gauge(2, 3, 10, 100, 3);
        x.send(2);
        x.rain(0, 1);
        x.gauge(2, 3, 10, 100, 1);
        x.send(2);
        x.twice(1);
        Due.due("7: three and the one of 5", x.count(3), 4);
        x.rain(0, 1);
        Due.due("4: the younger overtakes", x.ledger(2, 1), 3);
        x.rain(0, 1);
        Due.due("4: the older is too late", x.ledger(2, 5), 1);
    }

    private static void sendAnswers() {
        ToldDrops x = new ToldDrops();
        Due.due("5: no gauge -1", x.send(-1), NO_SUCH);
        Due.due("5: no gauge 6", x.send(6), NO_SUCH);
        Due.due("5: no changes", x.count(10), 0);
        x.rain(5, 8);
        Due.due("5: 12 by 10", x.send(1), 2);
        Due.due("5: at once", x.send(0), 2);
        Due.due("5: the way 0 is not on the way", x.count(3), 1);
        Due.due("5: told", x.ledger(0, 0), 12);
        for (int more = 0; more < 19; more++) {
            Due.due("5: up to 20", x.send(5), 2);
        }
        Due.due("5: 20", x.count(3), 20);
        Due.due("5: no more", x.send(5), TOO_MANY);
        Due.due("5: not with the way 0 either", x.send(0), TOO_MANY);
        Due.due("5: no gauge comes first", x.send(6), NO_SUCH);
        Due.due("5: nobody told", x.ledger(0, 6), 0);
        x.lose(19);
        Due.due("5: room again", x.send(0), 2);
        Due.due("5: and told twice", x.ledger(0, 6), 1);
    }

    private static void tellingsTooLateAndTwice() {
        ToldDrops x = new ToldDrops();
        x.rain(2, 2);
        x.gauge(1, 3, 10, 100, 9);
        x.send(1);
        x.rain(2, 3);
        x.gauge(1, 3, 10, 100, 0);
        x.send(1);
        x.send(1);
        Due.due("5: same hour and wheel", x.ledger(1, 6), 1);
        Due.due("5: taken once", x.ledger(1, 4), 1);
        x.rain(0, 1);
        x.send(1);
        Due.due("5: same wheel, later hour", x.ledger(1, 4), 2);
        Due.due("5: its hour", x.ledger(1, 1), 6);
        x.rain(2, 9);
        Due.due("5: too late", x.ledger(1, 5), 1);
        Due.due("5: not taken", x.ledger(1, 4), 2);
        Due.due("5: the hour stays", x.ledger(1, 1), 6);
        Due.due("5: the told stay", x.ledger(1, 0), 3);
    }

    private static void firstTellingAtTheHour0IsTaken() {
        ToldDrops x = new ToldDrops();
        x.send(0);
        Due.due("5: the first is taken", x.ledger(0, 4), 1);
        x.send(0);
        Due.due("5: the second is told twice", x.ledger(0, 6), 1);
        Due.due("5: and not taken", x.ledger(0, 4), 1);
    }

    private static void guessedRounds() {
        ToldDrops x = new ToldDrops();
        x.gauge(1, 6, 4, 100, 0);
        x.rain(7, 10);
        // 420 drops make 105 tips; the village caught 210, and 210 * 6 / 3 / 4 = 105
        Due.due("5: wheel 5", x.send(1), 5);
        Due.due("5: ten rounds guessed", x.ledger(1, 0), 105);
        x.rain(7, 1);
        x.send(1);
        Due.due("5: from the latest telling on", x.ledger(1, 0), 115);
        x.gauge(1, 6, 4, 0, 0);
        x.rain(99, 1);
        x.send(1);
        // none went on, 297 * 6 / 3 / 4 = 148 are guessed: 150 is nearer than 140
        Due.due("5: guessed too much", x.ledger(1, 0), 265);
        Due.due("5: the gap below 0", x.ledger(1, 3), -150);
    }

    private static void guessGoesByMouthsAndCupsAsTheyAre() {
        ToldDrops x = new ToldDrops();
        x.rain(10, 10);
        x.send(1);
        x.gauge(0, 1, 10, 100, 0);
        x.gauge(1, 2, 3, 100, 1);
        x.rain(0, 1);
        // e is 300 * 2 / 1 / 3 = 200
        Due.due("4: by mouths and cups now", x.ledger(1, 0), 200);
        x.rain(10, 10);
        x.gauge(1, 9, 50, 100, 0);
        x.send(1);
        // the village caught 100 more: 100 * 9 / 1 / 50 = 18; the wheel went from 0 to 6, and 16 is the nearest
        Due.due("5: a second guess", x.ledger(1, 0), 216);
    }

    private static void guessOfAHalfRoundIsNotNearer() {
        ToldDrops x = new ToldDrops();
        x.gauge(0, 1, 1, 100, 0);
        x.gauge(1, 1, 1, 0, 0);
        x.rain(5, 1);
        x.send(1);
        Due.due("5: 5 of 10 is as far", x.ledger(1, 0), 0);
        x.rain(6, 1);
        x.send(1);
        Due.due("5: 6 of 10 is nearer", x.ledger(1, 0), 10);
        x.rain(15, 1);
        x.send(1);
        Due.due("5: 15: once", x.ledger(1, 0), 20);
        x.rain(16, 1);
        x.send(1);
        Due.due("5: 16: twice", x.ledger(1, 0), 40);
        x.set(WHEEL, 5);
        x.rain(2, 1);
        x.send(1);
        Due.due("5: 2 of 5", x.ledger(1, 0), 40);
        x.rain(3, 1);
        x.send(1);
        Due.due("5: 3 of 5", x.ledger(1, 0), 45);
    }

    private static void guessDividesTwice() {
        ToldDrops x = new ToldDrops();
        x.gauge(0, 9, 1, 100, 0);
        x.gauge(1, 7, 1, 0, 0);
        x.rain(1, 1);
        x.set(WHEEL, 13);
        x.send(1);
        // 9 * 7 / 9 / 1 = 7, more than a half of 13
        Due.due("5: 7 of 13", x.ledger(1, 0), 13);
        x.gauge(0, 4, 1, 25, 0);
        x.gauge(1, 1, 1, 0, 0);
        x.set(WHEEL, 4);
        x.rain(11, 1);
        x.send(1);
        // 11 * 1 / 4 / 1 = 2, not more than a half of 4
        Due.due("5: divided down", x.ledger(1, 0), 13);
    }

    private static void loseAnswers() {
        ToldDrops x = new ToldDrops();
        Due.due("6: nobody", x.lose(0), NO_SUCH);
        Due.due("6: no change", x.count(10), 0);
        x.send(3);
        x.send(4);
        x.send(5);
        Due.due("6: -1", x.lose(-1), NO_SUCH);
        Due.due("6: 3", x.lose(3), NO_SUCH);
        Due.due("6: the middle one", x.lose(1), 4);
        Due.due("6: those behind move up", x.runner(1, 0), 5);
        Due.due("6: those ahead stay", x.runner(0, 0), 3);
        Due.due("6: two are left", x.count(3), 2);
        Due.due("6: counted", x.ledger(4, 7), 1);
        Due.due("6: nobody else is", x.ledger(3, 7) + x.ledger(5, 7), 0);
        Due.due("6: a change", x.count(10), 4);
        x.rain(0, 9);
        Due.due("6: the lost one tells nothing", x.ledger(4, 4), 0);
        Due.due("6: the others do", x.ledger(3, 4) + x.ledger(5, 4), 2);
    }

    private static void twiceAnswers() {
        ToldDrops x = new ToldDrops();
        Due.due("7: nobody", x.twice(0), NO_SUCH);
        x.rain(5, 5);
        x.send(3);
        x.send(5);
        x.rain(5, 1);
        Due.due("7: 2", x.twice(2), NO_SUCH);
        Due.due("7: -1", x.twice(-1), NO_SUCH);
        Due.due("7: no change", x.count(10), 4);
        Due.due("7: three now", x.twice(0), 3);
        int[] carried = {3, 7, 5, 3};
        for (int what = 0; what < carried.length; what++) {
            Due.due("7: runner(2, " + what + ")", x.runner(2, what), carried[what]);
        }
        Due.due("7: twice of the second", x.twice(2), 4);
        Due.due("7: one hour more", x.runner(3, 3), 4);
        x.rain(5, 2);
        Due.due("7: the first came", x.ledger(3, 4), 1);
        x.rain(5, 2);
        Due.due("7: the others are told twice", x.ledger(3, 6), 2);
        x = new ToldDrops();
        for (int sent = 0; sent < 20; sent++) {
            x.send(5);
        }
        Due.due("7: full", x.twice(0), TOO_MANY);
        Due.due("7: full, and nobody", x.twice(20), NO_SUCH);
    }
}
