/**
 * "A call that returns an error changes nothing", and "nothing changes" by the
 * questions: of two valleys made by the same calls one is called once more, and
 * both have to tell the same, also when changes are undone, slots restored or
 * the pad is run behind it.
 */
public final class RefusedTest {
    private static final int NO_SUCH = ToldDrops.NO_SUCH, BAD_VALUE = ToldDrops.BAD_VALUE, BAD_TEXT = ToldDrops.BAD_TEXT,
            TOO_MANY = ToldDrops.TOO_MANY, NOT_POSSIBLE = ToldDrops.NOT_POSSIBLE, NONE = ToldDrops.NONE;
    private static final int MIN = Integer.MIN_VALUE, MAX = Integer.MAX_VALUE;
    private static final int MOST_UNDONE = 6, VIEWS = MOST_UNDONE + 4;

    private interface Maker {
        ToldDrops make();
    }

    private interface Call {
        int on(ToldDrops x);
    }

    public static void main(String[] args) {
        settings();
        gauges();
        rain();
        runners();
        run();
        questions();
        whatIfs();
        pad();
        undoAndSlots();
        questionsChangeNothing();
        firstErrorComesFirst();
        noneOnlyIfNoErrorApplies();
        Due.end("RefusedTest");
    }

    private static void refused(String name, Maker maker, Call call, int code) {
        for (int view = 0; view < VIEWS; view++) {
            for (int part = 0; part < Told.PARTS; part++) {
                ToldDrops x = maker.make();
                Due.due(name, call.on(x), code);
                same(name, x, maker.make(), view, part);
            }
        }
    }

    private static void same(String name, ToldDrops x, ToldDrops twin, int view, int part) {
        Due.due(name + ", then view " + view, look(x, view), look(twin, view));
        Due.due(name + " changes nothing, view " + view + ", part " + part, Told.part(x, part).equals(Told.part(twin, part)) ? 1 : 0, 1);
    }

    /** Brings to light what is kept: what undo, the slots and the pad give. */
    private static int look(ToldDrops x, int view) {
        int answers = 0;
        for (int undone = 0; undone < view && undone < MOST_UNDONE; undone++) {
            answers = 31 * answers + x.undo();
        }
        switch (view - MOST_UNDONE) {
            case 1: return x.restore(0);
            case 2: return x.restore(1);
            case 3: return x.run();
            default: return answers;
        }
    }

    private static void settings() {
        int[][] wrong = {{-1, 10}, {2, 1}, {MIN, 10}, {MAX, 1}, {0, 3}, {0, 61}, {0, 0}, {0, MIN}, {0, MAX}, {1, -1}, {1, 2}, {1, MIN}, {1, MAX}};
        for (int[] w : wrong) {
            refused("2: set(" + w[0] + ", " + w[1] + ")", Told::busy, x -> x.set(w[0], w[1]), BAD_VALUE);
        }
    }

    private static void gauges() {
        for (int gauge : new int[] {-1, 6, MIN, MAX}) {
            refused("3: gauge " + gauge, Told::busy, x -> x.gauge(gauge, 1, 1, 1, 1), NO_SUCH);
        }
        int[][] wrong = {{0, 1, 1, 1}, {10, 1, 1, 1}, {1, 0, 1, 1}, {1, 51, 1, 1}, {1, 1, -1, 1}, {1, 1, 201, 1}, {1, 1, 1, -1}, {1, 1, 1, 10},
            {MIN, 1, 1, 1}, {MAX, 1, 1, 1}, {1, MIN, 1, 1}, {1, MAX, 1, 1}, {1, 1, MIN, 1}, {1, 1, MAX, 1}, {1, 1, 1, MIN}, {1, 1, 1, MAX}};
        for (int[] w : wrong) {
            refused("3: gauge(2, " + w[0] + ", " + w[1] + ", " + w[2] + ", " + w[3] + ")", Told::busy, x -> x.gauge(2, w[0], w[1], w[2], w[3]), BAD_VALUE);
        }
    }

    private static void rain() {
        int[][] wrong = {{-1, 1}, {100, 1}, {MIN, 1}, {MAX, 1}, {1, 0}, {1, -1}, {1, 25}, {1, MIN}, {1, MAX}};
        for (int[] w : wrong) {
            refused("4: rain(" + w[0] + ", " + w[1] + ")", Told::busy, x -> x.rain(w[0], w[1]), BAD_VALUE);
        }
        refused("4: 10000 hours", Told::late, x -> x.rain(9, 16), TOO_MANY);
        refused("4: 10008 hours", Told::late, x -> x.rain(0, 24), TOO_MANY);
    }

    private static void runners() {
        for (int none : new int[] {-1, 6, MIN, MAX}) {
            refused("5: send(" + none + ")", Told::busy, x -> x.send(none), NO_SUCH);
        }
        refused("5: send of the 21st", Told::full, x -> x.send(5), TOO_MANY);
        refused("5: send of the 21st with the way 0", Told::full, x -> x.send(0), TOO_MANY);
        for (int none : new int[] {-1, 3, MIN, MAX}) {
            refused("6: lose(" + none + ")", Told::busy, x -> x.lose(none), NO_SUCH);
            refused("7: twice(" + none + ")", Told::busy, x -> x.twice(none), NO_SUCH);
        }
        refused("6: lose(0) of nobody", ToldDrops::new, x -> x.lose(0), NO_SUCH);
        refused("7: twice(0) of nobody", ToldDrops::new, x -> x.twice(0), NO_SUCH);
        refused("6: lose(20) of 20", Told::full, x -> x.lose(20), NO_SUCH);
        refused("7: twice(0) of 20", Told::full, x -> x.twice(0), TOO_MANY);
        refused("7: twice(19) of 20", Told::full, x -> x.twice(19), TOO_MANY);
    }

    private static void run() {
        refused("8: run of nothing", ToldDrops::new, ToldDrops::run, BAD_TEXT);
        for (String text : new String[] {"s0;r5h5;s6", "s0;", "r5h", "x"}) {
            refused("8: run of " + text, () -> Told.withPad(text), ToldDrops::run, BAD_TEXT);
        }
    }

    private static void questions() {
        for (int none : new int[] {-1, 6, MIN, MAX}) {
            refused("9: gaugeOf(" + none + ")", Told::busy, x -> x.gaugeOf(none, 0), NO_SUCH);
            refused("10: ledger(" + none + ")", Told::busy, x -> x.ledger(none, 0), NO_SUCH);
        }
        for (int none : new int[] {-1, 3, 20, MIN, MAX}) {
            refused("11: runner(" + none + ")", Told::busy, x -> x.runner(none, 0), NO_SUCH);
        }
        for (int what : new int[] {-1, MIN, MAX}) {
            whatIsWrong(what, what, what, what);
        }
        whatIsWrong(9, 8, 4, 11);
    }

    private static void whatIsWrong(int ofGauge, int ofLedger, int ofRunner, int ofAll) {
        refused("9: what " + ofGauge, Told::busy, x -> x.gaugeOf(5, ofGauge), BAD_VALUE);
        refused("10: what " + ofLedger, Told::busy, x -> x.ledger(5, ofLedger), BAD_VALUE);
        refused("11: what " + ofRunner, Told::busy, x -> x.runner(2, ofRunner), BAD_VALUE);
        refused("12: what " + ofAll, Told::busy, x -> x.count(ofAll), BAD_VALUE);
    }

    private static void whatIfs() {
        for (int none : new int[] {-1, 6, MIN, MAX}) {
            refused("13: untilRound(" + none + ")", Told::busy, x -> x.untilRound(none, 5), NO_SUCH);
            refused("14: ifSent(" + none + ")", Told::busy, x -> x.ifSent(none), NO_SUCH);
            refused("15: ifAllCome(" + none + ")", Told::busy, x -> x.ifAllCome(none), NO_SUCH);
        }
        for (int amount : new int[] {-1, 100, MIN, MAX}) {
            refused("13: amount " + amount, Told::busy, x -> x.untilRound(0, amount), BAD_VALUE);
        }
    }

    private static void pad() {
        long[] wrong = {0, 32, 127, 255, -1L, Long.MIN_VALUE, Long.MAX_VALUE, 0x7300L, 0x730073L, 0x7320L, 0x2073L, 0x0100000000000073L, 1L << 63 | 0x73};
        for (long characters : wrong) {
            refused("17: put(" + Long.toHexString(characters) + ")", Told::busy, x -> x.put(characters), BAD_VALUE);
        }
        String sixty = "s0;s1;s2;s3;s4;s5;s0;s1;s2;s3;s4;s5;s0;s1;s2;s3;s4;s5;s0;s00";
        refused("17: the 61st", () -> Told.withPad(sixty), x -> x.put('s'), TOO_MANY);
        refused("17: eight of which seven fit", () -> Told.withPad(sixty.substring(7)), x -> x.put(Due.characters("s0;s0;s0")), TOO_MANY);
    }

    private static void undoAndSlots() {
        refused("20: undo of nothing", ToldDrops::new, ToldDrops::undo, NOT_POSSIBLE);
        for (int none : new int[] {-1, 2, MIN, MAX}) {
            refused("21: save(" + none + ")", Told::busy, x -> x.save(none), BAD_VALUE);
            refused("22: restore(" + none + ")", Told::busy, x -> x.restore(none), BAD_VALUE);
        }
        refused("22: nothing in 0", Told::full, x -> x.restore(0), NOT_POSSIBLE);
        refused("22: nothing in 1", Told::full, x -> x.restore(1), NOT_POSSIBLE);
    }

    private static void questionsChangeNothing() {
        for (int gauge = 0; gauge < 6; gauge++) {
            int asked = gauge;
            unchanged("gaugeOf " + gauge, x -> x.gaugeOf(asked, 4));
            unchanged("ledger " + gauge, x -> x.ledger(asked, 3));
            unchanged("untilRound " + gauge, x -> x.untilRound(asked, 99));
            unchanged("ifSent " + gauge, x -> x.ifSent(asked));
            unchanged("ifAllCome " + gauge, x -> x.ifAllCome(asked));
        }
        unchanged("runner", x -> x.runner(0, 3));
        unchanged("count", x -> x.count(5));
        unchanged("mostUntold", ToldDrops::mostUntold);
        unchanged("fault", ToldDrops::fault);
    }

    private static void unchanged(String name, Call call) {
        for (int view = 0; view < VIEWS; view++) {
            for (int part = 0; part < Told.PARTS; part++) {
                ToldDrops x = Told.busy();
                int answer = call.on(x);
                Due.due(name + " is no error", answer > -1000000 || answer == NONE ? 1 : 0, 1);
                same(name, x, Told.busy(), view, part);
            }
        }
    }

    /** "it names its errors in the order in which they are checked, and the first one that applies is returned" */
    private static void firstErrorComesFirst() {
        ToldDrops x = Told.full();
        Due.due("3: no gauge, and no mouth 0", x.gauge(6, 0, 51, 201, 10), NO_SUCH);
        Due.due("5: no gauge, and 20 on the way", x.send(6), NO_SUCH);
        Due.due("7: nobody, and 20 on the way", x.twice(20), NO_SUCH);
        Due.due("9: no gauge, no what", x.gaugeOf(6, 9), NO_SUCH);
        Due.due("10: no gauge, no what", x.ledger(6, 8), NO_SUCH);
        Due.due("11: nobody, no what", x.runner(20, 4), NO_SUCH);
        Due.due("13: no gauge, no amount", x.untilRound(6, 100), NO_SUCH);
        Due.due("22: no slot, nothing saved", x.restore(2), BAD_VALUE);
        Due.write(x, "s0;s0;s0;s0;s0;s0;s0;s0;s0;s0;s0;s0;s0;s0;s0;s0;s0;s0;s0;s0");
        Due.due("17: a bad code, and no room", x.put(0x2073L), BAD_VALUE);
        Due.due("17: no character, and no room", x.put(0), BAD_VALUE);
        ToldDrops late = Told.late();
        Due.due("4: no amount, and too many hours", late.rain(100, 24), BAD_VALUE);
        Due.due("4: no such hours, and too many", late.rain(0, 25), BAD_VALUE);
    }

    /** "NONE (-1000006) is not an error; it is returned only if no error applies." */
    private static void noneOnlyIfNoErrorApplies() {
        ToldDrops x = new ToldDrops();
        Due.due("13: dry, and no gauge", x.untilRound(6, 0), NO_SUCH);
        Due.due("13: dry, and no amount", x.untilRound(5, -1), BAD_VALUE);
        Due.due("13: dry", x.untilRound(5, 0), NONE);
        Due.due("16: dry", x.mostUntold(), NONE);
    }
}
