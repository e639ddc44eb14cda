/** The edges that the texts and promises 17 to 22 name; above each test the words that it holds to. */
public final class KeptEdgesTest {
    private static final int BAD_VALUE = ToldDrops.BAD_VALUE, TOO_MANY = ToldDrops.TOO_MANY, NOT_POSSIBLE = ToldDrops.NOT_POSSIBLE, NONE = ToldDrops.NONE;
    private static final int GUESS = ToldDrops.GUESS;

    /** A text that is right so far, the characters that can stand behind it, and those with which it could end. */
    private static final String[][] PLACES = {
        {"", "rs", ""}, {"r", "0123456789", ""}, {"r0", "h", ""}, {"r1", "0123456789h", ""}, {"r9", "0123456789h", ""},
        {"r10", "h", ""}, {"r99", "h", ""}, {"r0h", "123456789", "123456789"}, {"r99h", "123456789", "123456789"},
        {"r5h1", "0123456789;", "0123456789"}, {"r5h2", "01234;", "01234"}, {"r5h3", ";", ""}, {"r5h9", ";", ""}, {"r5h10", ";", ""}, {"r5h24", ";", ""},
        {"s", "012345", "012345"}, {"s0", ";", ""}, {"s5", ";", ""}, {"s0;", "rs", ""}, {"r1h1;", "rs", ""}, {"s0;s", "012345", "012345"}};

    public static void main(String[] args) {
        charactersAtEachPlace();
        amountsAtTheirEdges();
        hoursAtTheirEdges();
        gaugesAtTheirEdges();
        textsThatEndTooEarly();
        textsOf60Characters();
        codesAtEachOfEightPlaces();
        putOf1To8();
        nothingAboveEmptyBits();
        putUpTo60();
        wipeOfNothingAndOf60();
        undoOfNothing();
        undoOfSixAndNotOfSeven();
        undoIsNoChange();
        undoAndNewChanges();
        undoLeavesThePadAsItIs();
        undoLeavesSlotsAsTheyAre();
        undoOfAFullWay();
        slotsFrom0To1();
        saveWritesOver();
        saveLeavesThePadOut();
        restoreOfNothing();
        restoreKeepsTheSlot();
        restoreIsAChange();
        restoreTakesRunnersAway();
        Due.end("KeptEdgesTest");
    }

    private static int faultOf(String text) {
        ToldDrops x = new ToldDrops();
        Due.write(x, text);
        return x.fault();
    }

    /** "the index of the first character that cannot stand at its place when the text is read from left to right" */
    private static void charactersAtEachPlace() {
        for (String[] place : PLACES) {
            int length = place[0].length();
            for (char sign = 33; sign <= 126; sign++) {
                boolean stands = place[1].indexOf(sign) >= 0, ends = place[2].indexOf(sign) >= 0;
                String text = place[0] + sign;
                Due.due("fault of " + text, faultOf(text), ends ? NONE : stands ? length + 1 : length);
                Due.due("fault of " + text + "?", faultOf(text + "?"), stands ? length + 1 : length);
            }
        }
    }

    /** "An amount is a number from 0 to 99 ... without leading zeros" */
    private static void amountsAtTheirEdges() {
        for (int amount = 0; amount <= 99; amount++) {
            Due.due("amount " + amount, faultOf("r" + amount + "h1"), NONE);
            Due.due("amount 0" + amount, faultOf("r0" + amount + "h1"), 2);
        }
        for (int amount = 100; amount <= 999; amount++) {
            Due.due("amount " + amount, faultOf("r" + amount + "h1"), 3);
        }
        ToldDrops x = new ToldDrops();
        Due.write(x, "r0h1;r99h1");
        x.run();
        Due.due("none and 99", x.gaugeOf(0, 7), 297);
    }

    /** "hours 1 to 24, both without leading zeros", "(also of a digit by which a number would be too great)" */
    private static void hoursAtTheirEdges() {
        for (int hours = 1; hours <= 99; hours++) {
            Due.due("hours " + hours, faultOf("r7h" + hours), hours <= 24 ? NONE : 4);
            Due.due("hours 0" + hours, faultOf("r7h0" + hours), 3);
        }
        Due.due("hours 0", faultOf("r7h0"), 3);
        Due.due("hours 100", faultOf("r7h100"), 5);
        Due.due("hours 240", faultOf("r7h240"), 5);
        ToldDrops x = new ToldDrops();
        Due.write(x, "r0h1;r0h24");
        x.run();
        Due.due("1 and 24", x.count(2), 25);
    }

    /** "a gauge a digit 0 to 5" */
    private static void gaugesAtTheirEdges() {
        for (int gauge = 0; gauge <= 99; gauge++) {
            int due = gauge <= 5 ? NONE : gauge <= 9 || gauge >= 60 ? 1 : 2;
            Due.due("gauge " + gauge, faultOf("s" + gauge), due);
            Due.due("gauge 0" + gauge, faultOf("s0" + gauge), 2);
        }
        ToldDrops x = new ToldDrops();
        Due.write(x, "s1;s2;s3;s4;s5");
        x.run();
        for (int runner = 0; runner < 5; runner++) {
            Due.due("sent from", x.runner(runner, 0), runner + 1);
        }
    }

    /** "if there is none and the text ends too early (also if it is empty), it is the length of the text" */
    private static void textsThatEndTooEarly() {
        String[] texts = {"", "r", "r0", "r9", "r99", "r99h", "s", "s0;", "s0;s", "r9h9;", "r9h9;r", "s5;r99h24;r0h"};
        for (String text : texts) {
            Due.due("fault of '" + text + "'", faultOf(text), text.length());
        }
    }

    /** "The pad is a text of at most 60 characters" */
    private static void textsOf60Characters() {
        String most = "r99h24;r99h24;r99h24;r99h24;r99h24;r99h24;r99h24;r99h24;";
        Due.due("60 that are right", faultOf(most + "r1h1"), NONE);
        Due.due("60 that end too early", faultOf(most + "r10h"), 60);
        Due.due("60 of which the last is wrong", faultOf(most + "r1h0"), 59);
        Due.due("60 that end with a semicolon", faultOf("s0;s1;s2;s3;s4;s5;s0;s1;s2;s3;s4;s5;s0;s1;s2;s3;s4;s5;s0;s1;"), 60);
    }

    /** "8 bits ... a code is not 33 to 126", at each of eight places */
    private static void codesAtEachOfEightPlaces() {
        for (int place = 0; place < 8; place++) {
            for (int code = 1; code <= 255; code++) {
                long others = 0x7373737373737373L & ~(255L << 8 * place);
                ToldDrops x = new ToldDrops();
                boolean stands = code >= 33 && code <= 126;
                Due.due("code " + code + " at " + place, x.put(others | (long) code << 8 * place), stands ? 8 : BAD_VALUE);
                Due.due("length behind code " + code, x.count(9), stands ? 8 : 0);
            }
        }
    }

    /** "its lowest 8 bits are the last character, the next 8 bits the one before", "1 to 8 characters" */
    private static void putOf1To8() {
        String text = "s1;s2;s5";
        for (int number = 1; number <= 8; number++) {
            ToldDrops x = new ToldDrops();
            Due.due(number + " characters", x.put(Due.characters(text.substring(0, number))), number);
            for (int from = number; from < 8; from++) {
                x.put(text.charAt(from));
            }
            Due.due("three orders", x.run(), 3);
            Due.due("the first", x.runner(0, 0), 1);
            Due.due("the last", x.runner(2, 0), 5);
        }
    }

    /** "8 bits that are 0 mean that there are no more characters, and everything above them has to be 0, too" */
    private static void nothingAboveEmptyBits() {
        for (int empty = 0; empty < 8; empty++) {
            long below = empty == 0 ? 0 : 0x7373737373737373L >>> 64 - 8 * empty;
            ToldDrops x = new ToldDrops();
            Due.due(empty + " characters, nothing above", x.put(below), empty == 0 ? BAD_VALUE : empty);
            for (int bit = 8 * empty + 8; bit < 64; bit++) {
                Due.due("bit " + bit + " above place " + empty, x.put(below | 1L << bit), BAD_VALUE);
            }
            Due.due("nothing more came", x.count(9), empty);
        }
    }

    /** "TOO_MANY if the pad would be longer than 60" */
    private static void putUpTo60() {
        for (int number = 1; number <= 8; number++) {
            ToldDrops x = new ToldDrops();
            long characters = Due.characters("ssssssss".substring(0, number));
            for (int free = 60; free > number; free--) {
                x.put('s');
            }
            Due.due("60 by " + number, x.put(characters), 60);
            Due.due("61 by 1", x.put('s'), TOO_MANY);
            Due.due("more by " + number, x.put(characters), TOO_MANY);
            x.wipe();
            for (int free = 60; free >= number; free--) {
                x.put('s');
            }
            Due.due("61 by " + number, x.put(characters), TOO_MANY);
            Due.due("nothing came", x.count(9), 61 - number);
        }
    }

    /** "Empties the pad, and returns the length that it had." */
    private static void wipeOfNothingAndOf60() {
        ToldDrops x = new ToldDrops();
        Due.due("nothing", x.wipe(), 0);
        for (int number = 1; number <= 60; number++) {
            x.put('s');
        }
        Due.due("60", x.wipe(), 60);
        Due.due("nothing again", x.wipe(), 0);
        Due.due("the length", x.count(9), 0);
        Due.due("room again", x.put(Due.characters("s0;r1h1")), 7);
        Due.due("no change", x.count(10), 0);
        Due.due("the new text alone", x.fault(), NONE);
    }

    /** "NOT_POSSIBLE if there is none." */
    private static void undoOfNothing() {
        ToldDrops x = new ToldDrops();
        Due.due("of a new object", x.undo(), NOT_POSSIBLE);
        x.rain(1, 1);
        Due.due("of one change", x.undo(), 0);
        Due.due("of no more", x.undo(), NOT_POSSIBLE);
        Due.due("and again", x.undo(), NOT_POSSIBLE);
        Due.due("the hour 0", x.count(2), 0);
    }

    /** "A history of at most 6 states is kept ... when one more is recorded, the oldest one is dropped" */
    private static void undoOfSixAndNotOfSeven() {
        for (int changes = 5; changes <= 14; changes++) {
            ToldDrops x = new ToldDrops();
            for (int hour = 0; hour < changes; hour++) {
                x.rain(1, 1);
            }
            int kept = Math.min(changes, 6);
            for (int left = kept - 1; left >= 0; left--) {
                Due.due("undone of " + changes, x.undo(), left);
                Due.due("hours of " + changes, x.count(2), changes - kept + left);
            }
            Due.due("no more of " + changes, x.undo(), NOT_POSSIBLE);
        }
    }

    private static void undoIsNoChange() {
        ToldDrops x = new ToldDrops();
        x.rain(1, 1);
        x.rain(1, 2);
        Due.due("one is left", x.undo(), 1);
        Due.due("as counted", x.count(10), 1);
        Due.due("undo undoes no undo", x.undo(), 0);
        Due.due("the hour 0", x.count(2), 0);
    }

    private static void undoAndNewChanges() {
        ToldDrops x = new ToldDrops();
        for (int hour = 1; hour <= 8; hour++) {
            x.rain(0, 1);
        }
        x.undo();
        x.undo();
        x.rain(0, 24);
        Due.due("6 less 2 and 1 more", x.count(10), 5);
        Due.due("6 and 24 hours", x.count(2), 30);
        Due.due("the new one is undone", x.undo(), 4);
        Due.due("6 hours", x.count(2), 6);
        Due.due("an older one is undone", x.undo(), 3);
        Due.due("5 hours", x.count(2), 5);
    }

    /** "everything except the pad, the slots and the history is as it was before it" */
    private static void undoLeavesThePadAsItIs() {
        ToldDrops x = new ToldDrops();
        Due.write(x, "s1");
        x.rain(1, 1);
        Due.write(x, ";s2");
        x.undo();
        Due.due("what was put behind the change stays", x.count(9), 5);
        Due.due("and is run", x.run(), 2);
        x.undo();
        Due.due("what was run is not put again", x.count(9), 0);
    }

    private static void undoLeavesSlotsAsTheyAre() {
        ToldDrops x = new ToldDrops();
        x.rain(1, 7);
        x.save(1);
        x.undo();
        Due.due("saved behind the change", x.restore(1), 7);
        x.undo();
        Due.due("the hour 0", x.count(2), 0);
        Due.due("saved still", x.restore(1), 7);
        Due.due("the other is empty", x.restore(0), NOT_POSSIBLE);
    }

    private static void undoOfAFullWay() {
        ToldDrops x = Told.full();
        Due.due("the wheel is set", x.set(ToldDrops.WHEEL, 4), 10);
        x.undo();
        Due.due("20 are back", x.count(3), 20);
        Due.due("the last, too", x.runner(19, 0), 5);
        Due.due("its wheel, too", x.runner(19, 1), 4);
        x.rain(0, 5);
        Due.due("they come", x.count(3), 0);
        x.undo();
        Due.due("and are back", x.runner(19, 3), 5);
        Due.due("nobody is lost", x.ledger(5, 7), 0);
        Due.due("nobody has told", x.ledger(1, 4), 0);
    }

    /** "`slot`: 0 or 1" */
    private static void slotsFrom0To1() {
        ToldDrops x = new ToldDrops();
        Due.due("save(-1)", x.save(-1), BAD_VALUE);
        Due.due("save(2)", x.save(2), BAD_VALUE);
        Due.due("save(0)", x.save(0), 0);
        Due.due("1 is empty", x.restore(1), NOT_POSSIBLE);
        x.rain(0, 3);
        Due.due("save(1)", x.save(1), 3);
        Due.due("restore(-1)", x.restore(-1), BAD_VALUE);
        Due.due("restore(2)", x.restore(2), BAD_VALUE);
        Due.due("restore(0)", x.restore(0), 0);
        Due.due("restore(1)", x.restore(1), 3);
    }

    /** "and overwrites what was saved there" */
    private static void saveWritesOver() {
        ToldDrops x = Told.full();
        x.save(0);
        x.rain(0, 9);
        x.set(GUESS, 0);
        x.save(0);
        x.undo();
        x.undo();
        Due.due("20 are on the way", x.count(3), 20);
        Due.due("the later one", x.restore(0), 11);
        Due.due("nobody is on the way in it", x.count(3), 0);
        Due.due("GUESS is 0 in it", x.count(1), 0);
    }

    /** "Saves everything except the pad, the history and the slots" */
    private static void saveLeavesThePadOut() {
        ToldDrops x = new ToldDrops();
        Due.write(x, "s0");
        x.save(0);
        x.wipe();
        x.restore(0);
        Due.due("the pad stays empty", x.count(9), 0);
        Due.write(x, "s0;s1");
        x.restore(0);
        Due.due("the pad stays as it is", x.count(9), 5);
        x.rain(1, 1);
        x.save(1);
        Due.due("the other slot is not in it", x.restore(0), 0);
        Due.due("and stays", x.restore(1), 1);
        Due.due("nor the history", x.count(10), 5);
    }

    /** "NOT_POSSIBLE if nothing was saved in it." */
    private static void restoreOfNothing() {
        ToldDrops x = new ToldDrops();
        Due.due("0", x.restore(0), NOT_POSSIBLE);
        Due.due("1", x.restore(1), NOT_POSSIBLE);
        x.save(1);
        Due.due("0 still", x.restore(0), NOT_POSSIBLE);
        Due.due("1 now, though all is dry", x.restore(1), 0);
        Due.due("one change", x.count(10), 1);
    }

    /** "Restores what was saved last in a slot, which keeps it." */
    private static void restoreKeepsTheSlot() {
        ToldDrops x = new ToldDrops();
        x.gauge(5, 3, 10, 100, 2);
        x.rain(5, 5);
        x.send(5);
        x.save(0);
        for (int times = 0; times < 3; times++) {
            x.lose(0);
            x.gauge(5, 9, 9, 9, 9);
            x.set(ToldDrops.WHEEL, 4 + times);
            x.rain(99, 24);
            x.send(0);
            Due.due("the hours", x.restore(0), 5);
            Due.due("the runner", x.runner(0, 3), 2);
            Due.due("nobody lost", x.ledger(5, 7), 0);
            Due.due("WHEEL", x.count(0), 10);
            Due.due("the mouth", x.gaugeOf(5, 0), 3);
            Due.due("what was caught", x.count(4), 450);
            Due.due("nothing told", x.ledger(0, 4), 0);
        }
    }

    /** "This is a change." */
    private static void restoreIsAChange() {
        ToldDrops x = new ToldDrops();
        x.save(0);
        for (int times = 1; times <= 7; times++) {
            x.rain(1, 1);
            x.restore(0);
        }
        Due.due("six are kept", x.count(10), 6);
        Due.due("a restore is undone", x.undo(), 5);
        Due.due("an hour", x.count(2), 1);
        Due.due("a rain is undone", x.undo(), 4);
        Due.due("no hour", x.count(2), 0);
        Due.due("a restore is undone again", x.undo(), 3);
        Due.due("an hour again", x.count(2), 1);
    }

    private static void restoreTakesRunnersAway() {
        ToldDrops x = new ToldDrops();
        x.save(0);
        for (int sent = 0; sent < 20; sent++) {
            x.send(5);
        }
        x.save(1);
        x.restore(0);
        Due.due("nobody is on the way", x.count(3), 0);
        Due.due("and nobody is lost", x.ledger(5, 7), 0);
        Due.due("one can go", x.send(4), 0);
        x.restore(1);
        Due.due("20 are on the way", x.count(3), 20);
        Due.due("the first is of 5", x.runner(0, 0), 5);
        Due.due("nobody can go", x.send(4), TOO_MANY);
    }
}
