/** The edges that promises 1 to 8 name; above each test the words that it holds to. */
public final class CallEdgesTest {
    private static final int NO_SUCH = ToldDrops.NO_SUCH, BAD_TEXT = ToldDrops.BAD_TEXT, TOO_MANY = ToldDrops.TOO_MANY, NONE = ToldDrops.NONE;
    private static final int WHEEL = ToldDrops.WHEEL, GUESS = ToldDrops.GUESS;

    public static void main(String[] args) {
        newObjectIsDry();
        setToWhatItIs();
        gaugeToWhatItIs();
        gaugeAnswersWhatIsInTheCup();
        rainOfOneHourAndOf24();
        rainAnswersTipsOfAllGauges();
        rainUpTo9999Hours();
        rainRefusedDoesNotRainInPart();
        callsAtTheLastHour();
        sendOfTheTwentieth();
        loseTheOnlyOne();
        loseDoesNotTouchTheTwin();
        twiceOfOneWhoComesNext();
        twiceOfTheOneWhoTellsTwice();
        twiceCarriesTheSame();
        twiceOfTheTwentieth();
        runOfOneOrder();
        runOfTwentyOrders();
        runOfAFaultDoesNothing();
        runPassesOverWhatIsFull();
        runPassesOverWhatIsTooLong();
        runOfWhatCannotBeDone();
        runEmptiesThePad();
        Due.end("CallEdgesTest");
    }

    /** "Creates dry gauges, at the hour 0." */
    private static void newObjectIsDry() {
        ToldDrops x = new ToldDrops();
        for (int gauge = 0; gauge < 6; gauge++) {
            Due.due("no round in dry hours", x.untilRound(gauge, 0), NONE);
            Due.due("no gap if sent", x.ifSent(gauge), 0);
            Due.due("no gap if all come", x.ifAllCome(gauge), 0);
        }
        Due.due("none went on", x.mostUntold(), NONE);
        Due.due("nobody is on the way", x.runner(0, 0), NO_SUCH);
        Due.due("the pad is empty", x.wipe(), 0);
        Due.due("dry hours stay dry", x.rain(0, 24), 0);
    }

    /** "When WHEEL is set (also to what it is)", and "also if nothing is different then" */
    private static void setToWhatItIs() {
        ToldDrops x = new ToldDrops();
        x.send(5);
        Due.due("GUESS as it is", x.set(GUESS, 1), 1);
        Due.due("the runner goes on", x.count(3), 1);
        Due.due("WHEEL as it is", x.set(WHEEL, 10), 10);
        Due.due("the runner is lost", x.count(3), 0);
        Due.due("three changes", x.count(10), 3);
        Due.due("undone", x.undo(), 2);
        Due.due("the runner is back", x.runner(0, 0), 5);
        Due.due("and not lost", x.ledger(5, 7), 0);
    }

    private static void gaugeToWhatItIs() {
        ToldDrops x = new ToldDrops();
        Due.due("as it is", x.gauge(4, 3, 10, 100, 4), 0);
        Due.due("a change", x.count(10), 1);
        for (int what = 0; what < 4; what++) {
            Due.due("gaugeOf(4, " + what + ")", x.gaugeOf(4, what), new int[] {3, 10, 100, 4}[what]);
        }
    }

    /** "Returns the drops in its cup": none, the most, and more than the new cup */
    private static void gaugeAnswersWhatIsInTheCup() {
        ToldDrops x = new ToldDrops();
        Due.due("none", x.gauge(1, 1, 50, 100, 1), 0);
        x.rain(49, 1);
        Due.due("49 in a cup of 1", x.gauge(1, 1, 1, 100, 1), 49);
        Due.due("49 in a cup of 50 again", x.gauge(1, 1, 50, 100, 1), 49);
        x.gauge(1, 1, 1, 100, 1);
        x.rain(0, 1);
        Due.due("none again", x.gauge(1, 1, 50, 100, 1), 0);
    }

    /** "`hours`: 1 to 24", "`amount`: 0 to 99 (0: a dry hour)" */
    private static void rainOfOneHourAndOf24() {
        ToldDrops x = new ToldDrops(), y = new ToldDrops();
        x.send(4);
        y.send(4);
        int tips = 0;
        for (int hour = 0; hour < 24; hour++) {
            tips += x.rain(99, 1);
        }
        Due.due("24 hours at once", y.rain(99, 24), tips);
        Due.due("and all is the same", Told.valley(x).equals(Told.valley(y)) ? 1 : 0, 1);
        Due.due("24 hours", y.count(2), 24);
    }

    /** "Returns how many tips there are in all gauges in these hours" */
    private static void rainAnswersTipsOfAllGauges() {
        ToldDrops x = new ToldDrops();
        Due.due("9 drops in each", x.rain(3, 1), 0);
        Due.due("one tip in each", x.rain(1, 1), 6);
        x.rain(2, 1);
        for (int gauge = 1; gauge < 6; gauge++) {
            x.gauge(gauge, 1, gauge, 0, 9);
        }
        // 8 drops are in each cup
        Due.due("dry tips of five smaller cups", x.rain(0, 1), 8 + 4 + 2 + 2 + 1);
        Due.due("none in the next hours", x.rain(0, 24), 0);
    }

    /** "TOO_MANY if the hours would be above 9999" */
    private static void rainUpTo9999Hours() {
        ToldDrops x = Told.late();
        Due.due("10000", x.rain(0, 16), TOO_MANY);
        Due.due("9998", x.rain(0, 14), 0);
        Due.due("10000 by 2", x.rain(0, 2), TOO_MANY);
        Due.due("9999 by 1", x.rain(0, 1), 0);
        Due.due("the hours", x.count(2), 9999);
        Due.due("10000 by 1", x.rain(0, 1), TOO_MANY);
        Due.due("10023 by 24", x.rain(0, 24), TOO_MANY);
        Due.due("the hours stay", x.count(2), 9999);
        x.undo();
        Due.due("undone", x.count(2), 9998);
        Due.due("9999 again", x.rain(0, 1), 0);
    }

    private static void rainRefusedDoesNotRainInPart() {
        ToldDrops x = Told.late();
        int caught = x.count(4);
        Due.due("24 hours where 15 are left", x.rain(99, 24), TOO_MANY);
        Due.due("no drop", x.count(4), caught);
        Due.due("no hour", x.count(2), 9984);
        Due.due("no runner", x.runner(0, 3), 5);
    }

    private static void callsAtTheLastHour() {
        ToldDrops x = Told.late();
        x.rain(0, 15);
        Due.due("a runner with the way 0 tells", x.send(0), x.gaugeOf(0, 6));
        Due.due("at the hour 9999", x.ledger(0, 1), 9999);
        x.send(1);
        Due.due("another is sent", x.runner(0, 2), 9999);
        Due.due("and comes if hours pass", x.ifAllCome(1), x.ifSent(1));
        // 2 drops are in the cup, and 98 more are a round
        Due.due("a round beyond the last hour", x.untilRound(0, 1), 33);
        Due.due("the hours are saved", x.save(0), 9999);
    }

    /** "TOO_MANY if 20 are on the way (also with the way 0)" */
    private static void sendOfTheTwentieth() {
        ToldDrops x = new ToldDrops();
        for (int sent = 1; sent <= 19; sent++) {
            x.send(5);
        }
        Due.due("with 19 the way 0 tells", x.send(0), 0);
        Due.due("taken", x.ledger(0, 4), 1);
        Due.due("still 19", x.count(3), 19);
        Due.due("the 20th", x.send(5), 0);
        Due.due("20", x.count(3), 20);
        Due.due("the way 0 with 20", x.send(0), TOO_MANY);
        Due.due("another way with 20", x.send(3), TOO_MANY);
        Due.due("neither told twice", x.ledger(0, 6), 0);
    }

    /** "NO_SUCH if there is no such runner" */
    private static void loseTheOnlyOne() {
        ToldDrops x = new ToldDrops();
        x.send(3);
        Due.due("there is no 1", x.lose(1), NO_SUCH);
        Due.due("0 is of 3", x.lose(0), 3);
        Due.due("nobody is left", x.lose(0), NO_SUCH);
        Due.due("one lost", x.ledger(3, 7), 1);
        Due.due("nobody on the way to wait for", x.ifAllCome(3), 0);
        x.rain(3, 1);
        x.gauge(3, 3, 1, 100, 3);
        Due.due("and no hour to wait", x.ifAllCome(3), 0);
    }

    private static void loseDoesNotTouchTheTwin() {
        ToldDrops x = new ToldDrops();
        x.send(3);
        x.twice(0);
        x.lose(0);
        Due.due("the one who tells twice is 0", x.runner(0, 3), 4);
        x.rain(0, 4);
        Due.due("and is the one who is taken", x.ledger(3, 4), 1);
        Due.due("not told twice", x.ledger(3, 6), 0);
        Due.due("one lost", x.ledger(3, 7), 1);
    }

    /** "one more who carries the same, and comes 1 hour behind the runner, is on the way as the last one" */
    private static void twiceOfOneWhoComesNext() {
        ToldDrops x = new ToldDrops();
        x.send(2);
        x.rain(0, 1);
        Due.due("an hour left", x.runner(0, 3), 1);
        Due.due("two on the way", x.twice(0), 2);
        Due.due("two hours left", x.runner(1, 3), 2);
        x.rain(0, 1);
        Due.due("the first is taken", x.ledger(2, 4), 1);
        Due.due("an hour left now", x.runner(0, 3), 1);
        x.rain(0, 1);
        Due.due("the other told twice", x.ledger(2, 6), 1);
    }

    private static void twiceOfTheOneWhoTellsTwice() {
        ToldDrops x = new ToldDrops();
        x.send(1);
        for (int runner = 0; runner < 19; runner++) {
            Due.due("one more", x.twice(runner), runner + 2);
            Due.due("an hour more", x.runner(runner + 1, 3), runner + 2);
        }
        x.rain(0, 19);
        Due.due("one is left after 19 hours", x.count(3), 1);
        Due.due("18 told twice", x.ledger(1, 6), 18);
        x.rain(0, 1);
        Due.due("nobody is left after 20", x.count(3), 0);
    }

    private static void twiceCarriesTheSame() {
        ToldDrops x = new ToldDrops();
        x.gauge(0, 1, 1, 100, 0);
        x.gauge(1, 1, 1, 0, 1);
        x.rain(20, 1);
        x.send(1);
        x.gauge(1, 1, 1, 100, 5);
        x.twice(0);
        x.lose(0);
        Due.due("the wheel of the first", x.runner(0, 1), 0);
        Due.due("the hour of the first", x.runner(0, 2), 1);
        x.rain(50, 2);
        Due.due("what the village caught at the first", x.ledger(1, 0), 20);
        Due.due("the hour is told", x.ledger(1, 1), 1);
    }

    /** "TOO_MANY if 20 are on the way" */
    private static void twiceOfTheTwentieth() {
        ToldDrops x = Told.full();
        Due.due("20", x.twice(19), TOO_MANY);
        x.lose(10);
        Due.due("19", x.twice(18), 20);
        Due.due("20 again", x.twice(0), TOO_MANY);
    }

    /** "Does the orders of the pad, one after the other, and empties the pad" */
    private static void runOfOneOrder() {
        ToldDrops x = Told.withPad("r0h1");
        Due.due("one", x.run(), 1);
        Due.due("7 hours", x.count(2), 7);
        Due.due("the pad is empty", x.run(), BAD_TEXT);
        Due.write(x, "s0");
        Due.due("one again", x.run(), 1);
        Due.due("told", x.ledger(0, 4), 1);
    }

    private static void runOfTwentyOrders() {
        ToldDrops x = Told.withPad("s0;s0;s0;s0;s0;s0;s0;s0;s0;s0;s0;s0;s0;s0;s0;s0;s0;s0;s0;s0");
        Due.due("twenty", x.run(), 20);
        Due.due("19 told twice", x.ledger(0, 6), 19);
        x = Told.withPad("r99h24;r99h24;r99h24;r99h24;r99h24;r99h24;r99h24;r99h24;r1h1");
        Due.due("nine in 60 characters", x.run(), 9);
        Due.due("6 + 8 * 24 + 1 hours", x.count(2), 199);
        x = Told.withPad("r0h9;r0h9;r0h9;r0h9;r0h9;r0h9;r0h9;r0h9;r0h9;r0h9;r0h9;r0h10");
        Due.due("twelve in 60 characters", x.run(), 12);
        Due.due("6 + 11 * 9 + 10 hours", x.count(2), 115);
    }

    /** "BAD_TEXT if the pad has a fault" */
    private static void runOfAFaultDoesNothing() {
        String[] faults = {"", "s0;", "s0;r9h25", "s6", "r5h", ";"};
        for (String fault : faults) {
            ToldDrops x = Told.withPad(fault);
            Due.due("run of '" + fault + "'", x.run(), BAD_TEXT);
            Due.due("nobody told", x.ledger(0, 4), 0);
            Due.due("the pad stays", x.count(9), fault.length());
            Due.due("no change", x.count(10), 1);
        }
    }

    /** "one for which its method would return an error is passed over" */
    private static void runPassesOverWhatIsFull() {
        ToldDrops x = Told.full();
        x.lose(19);
        Due.write(x, "s0;s5;s5;s0;s1;r0h1;s1;s0");
        // the 20th goes, three are passed over, then the four of the gauge 1 come
        Due.due("five of eight", x.run(), 5);
        Due.due("told in the beginning and at the end", x.ledger(0, 4), 2);
        Due.due("none told twice", x.ledger(0, 6), 0);
        Due.due("20 less 4 and 1 more", x.count(3), 17);
    }

    private static void runPassesOverWhatIsTooLong() {
        ToldDrops x = Told.late();
        Due.write(x, "r1h16;r0h14;r1h2;s0;r0h1;r0h1;s0");
        Due.due("four of seven", x.run(), 4);
        Due.due("the last hour", x.count(2), 9999);
        Due.due("told at 9998 and 9999", x.ledger(0, 4), 2);
        Due.due("all in one change", x.undo(), 5);
        Due.due("undone", x.count(2), 9984);
    }

    private static void runOfWhatCannotBeDone() {
        ToldDrops x = Told.full();
        Due.write(x, "s0;s1");
        String before = Told.part(x, 2);
        Due.due("none is done", x.run(), 0);
        Due.due("the pad is empty all the same", x.count(9), 0);
        Due.due("nothing is different", Told.part(x, 2).equals(before) ? 1 : 0, 1);
        x.undo();
        Due.due("a change all the same: 20 are still on the way", x.count(3), 20);
        x.undo();
        Due.due("and behind that 19", x.count(3), 19);
    }

    /** "empties the pad", and undo does not bring it back */
    private static void runEmptiesThePad() {
        ToldDrops x = Told.withPad("s1");
        x.run();
        Due.due("empty", x.fault(), 0);
        x.undo();
        Due.due("empty behind undo", x.count(9), 0);
        Due.due("put starts anew", x.put('s'), 1);
        Due.due("nothing of the old text", x.fault(), 1);
    }
}
