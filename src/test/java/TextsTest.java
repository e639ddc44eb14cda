/** Promises 8 and 17 to 19: run, put, wipe, fault. */
public final class TextsTest {
    private static final int BAD_VALUE = ToldDrops.BAD_VALUE, BAD_TEXT = ToldDrops.BAD_TEXT, TOO_MANY = ToldDrops.TOO_MANY, NONE = ToldDrops.NONE;

    public static void main(String[] args) {
        putAnswers();
        putEndsAt60();
        wipeAnswers();
        faults();
        runAnswers();
        runDoesAllInOrder();
        runPassesOver();
        textsAreNoChanges();
        Due.end("TextsTest");
    }

    private static void putAnswers() {
        ToldDrops x = new ToldDrops();
        Due.due("17: none", x.put(0), BAD_VALUE);
        Due.due("17: 32", x.put(32), BAD_VALUE);
        Due.due("17: 127", x.put(127), BAD_VALUE);
        Due.due("17: 255", x.put(255), BAD_VALUE);
        Due.due("17: -1", x.put(-1L), BAD_VALUE);
        Due.due("17: least long", x.put(Long.MIN_VALUE), BAD_VALUE);
        Due.due("17: a bad code behind", x.put(0x7220L), BAD_VALUE);
        Due.due("17: a bad code ahead", x.put(0x2072L), BAD_VALUE);
        Due.due("17: the first of eight is bad", x.put(0x8072727272727272L), BAD_VALUE);
        Due.due("17: a gap", x.put(0x720072L), BAD_VALUE);
        Due.due("17: 0 last", x.put(0x7200L), BAD_VALUE);
        Due.due("17: a bit high above", x.put(0x0100000000000072L), BAD_VALUE);
        Due.due("17: the sign bit above", x.put(Long.MIN_VALUE | 0x72), BAD_VALUE);
        Due.due("17: nothing came", x.count(9), 0);
        Due.due("17: 33", x.put(33), 1);
        Due.due("17: 126", x.put(126), 2);
        Due.due("17: eight", x.put(0x7E21727272727272L), 10);
        x.wipe();
        x.put(Due.characters("s"));
        x.put(Due.characters("5;r9"));
        x.put(Due.characters("h1"));
        Due.due("17: the first ahead", x.fault(), NONE);
        Due.due("17: both orders", x.run(), 2);
        Due.due("17: sent from 5", x.runner(0, 0), 5);
        Due.due("17: 27 drops", x.gaugeOf(0, 7), 27);
    }

    private static void putEndsAt60() {
        ToldDrops x = new ToldDrops();
        for (int call = 1; call <= 7; call++) {
            Due.due("17: eight more", x.put(Due.characters("s0;s0;s0")), 8 * call);
        }
        Due.due("17: 61", x.put(Due.characters("s0;s0")), TOO_MANY);
        Due.due("17: the wrong value first", x.put(0x2073303B7330L), BAD_VALUE);
        Due.due("17: nothing came", x.count(9), 56);
        Due.due("17: 60", x.put(Due.characters("s0;s")), 60);
        Due.due("17: no more", x.put(Due.characters("s")), TOO_MANY);
        Due.due("18: 60", x.wipe(), 60);
    }

    private static void wipeAnswers() {
        ToldDrops x = new ToldDrops();
        Due.due("18: empty", x.wipe(), 0);
        Due.write(x, "r1h1");
        Due.due("18: 4", x.wipe(), 4);
        Due.due("18: empty again", x.count(9), 0);
        Due.due("18: and read as empty", x.fault(), 0);
        Due.write(x, "s");
        Due.due("18: nothing of it is left", x.fault(), 1);
    }

    private static void faults() {
        fault("", 0);
        fault("x", 0);
        fault("R1h1", 0);
        fault(";", 0);
        fault("0", 0);
        fault("r", 1);
        fault("rh", 1);
        fault("rr", 1);
        fault("r0", 2);
        fault("r00h1", 2);
        fault("r01h1", 2);
        fault("r9", 2);
        fault("r99", 3);
        fault("r100h1", 3);
        fault("r99h", 4);
        fault("r99H1", 3);
        fault("r0h1", NONE);
        fault("r99h24", NONE);
        fault("r10h9", NONE);
        fault("r5h0", 3);
        fault("r5h01", 3);
        fault("r5h10", NONE);
        fault("r5h19", NONE);
        fault("r5h20", NONE);
        fault("r5h25", 4);
        fault("r5h29", 4);
        fault("r5h30", 4);
        fault("r5h240", 5);
        fault("r5h1h", 4);
        fault("r5h;", 3);
        fault("r-1h1", 1);
        fault("s", 1);
        fault("s0", NONE);
        fault("s5", NONE);
        fault("s6", 1);
        fault("s9", 1);
        fault("s00", 2);
        fault("s10", 2);
        fault("s1s1", 2);
        fault("s;", 1);
        fault("sr", 1);
        fault("s0;", 3);
        fault("s0;;", 3);
        fault("s0;s0", NONE);
        fault("s0,s0", 2);
        fault("s0;r24h24;s5", NONE);
        fault("s0;r24h24;s6", 11);
        fault("s0:r24", 2);
        fault("s/", 1);
        fault("s:", 1);
        fault("r/h1", 1);
        fault("r1:h1", 2);
        fault("s0;s0;s0;s0;s0;s0;s0;s0;s0;s0;s0;s0;s0;s0;s0;s0;s0;s0;s0;s0", NONE);
        fault("s0;s0;s0;s0;s0;s0;s0;s0;s0;s0;s0;s0;s0;s0;s0;s0;s0;s0;s0;s0;", 60);
        fault("r99h24;r99h24;r99h24;r99h24;r99h24;r99h24;r99h24;r99h24;r0h1", NONE);
        fault("r99h24;r99h24;r99h24;r99h24;r99h24;r99h24;r99h24;r99h24;r00h", 58);
    }

    private static void fault(String text, int due) {
        ToldDrops x = new ToldDrops();
        Due.write(x, text);
        Due.due("19: fault of " + text, x.fault(), due);
        Due.due("19: the pad is kept", x.count(9), Math.min(text.length(), 60));
        if (due != NONE) {
            Due.due("8: run of " + text, x.run(), BAD_TEXT);
            Due.due("8: the pad is kept", x.count(9), text.length());
            Due.due("8: no change", x.count(10), 0);
        }
    }

    private static void runAnswers() {
        ToldDrops x = new ToldDrops();
        Due.due("8: empty", x.run(), BAD_TEXT);
        Due.write(x, "s0;s1;r7h3");
        Due.due("8: three", x.run(), 3);
        Due.due("8: the pad is empty", x.count(9), 0);
        Due.due("8: one change", x.count(10), 1);
        Due.due("8: hours", x.count(2), 3);
        Due.due("8: taken", x.ledger(0, 4) + x.ledger(1, 4), 2);
        Due.write(x, "s2;");
        Due.due("8: ends too early", x.run(), BAD_TEXT);
        Due.due("8: nothing is done", x.count(3), 0);
        Due.write(x, "s2");
        Due.due("8: two of 2", x.run(), 2);
        Due.due("20: undo of one run", x.undo(), 1);
        Due.due("20: nobody on the way", x.count(3), 0);
        Due.due("20: the pad stays empty", x.count(9), 0);
        Due.due("20: undo of the other", x.undo(), 0);
        Due.due("20: dry", x.count(4) + x.count(2), 0);
    }

    private static void runDoesAllInOrder() {
        ToldDrops x = new ToldDrops();
        Due.write(x, "r10h5;s0;r10h1;s0;s4;r0h4;s1");
        Due.due("8: seven", x.run(), 7);
        Due.due("8: 10 hours", x.count(2), 10);
        Due.due("8: the latest of 0", x.ledger(0, 1), 6);
        Due.due("8: taken of 0", x.ledger(0, 4), 2);
        Due.due("8: 4 came", x.ledger(4, 1), 6);
        Due.due("8: 1 is on the way", x.runner(0, 0), 1);
        Due.due("8: 18 tips", x.gaugeOf(5, 5), 18);
    }

    private static void runPassesOver() {
        ToldDrops x = new ToldDrops();
        Due.write(x, "s5;s5;s5;s5;s5;s5;s5;s5;s5;s5;s5;s5;s5;s5;s5;s5;s5;s5;s5;s5");
        Due.due("8: twenty", x.run(), 20);
        Due.write(x, "s0;s5;r1h1;s3");
        Due.due("8: one of four", x.run(), 1);
        Due.due("8: the pad is empty", x.count(9), 0);
        Due.due("8: nobody told", x.ledger(0, 4), 0);
        Due.write(x, "s1");
        Due.due("8: none", x.run(), 0);
        Due.due("8: a change all the same", x.count(10), 3);
    }

    private static void textsAreNoChanges() {
        ToldDrops x = new ToldDrops();
        Due.write(x, "s0");
        x.fault();
        x.wipe();
        Due.due("17 to 19: no changes", x.count(10), 0);
    }
}
