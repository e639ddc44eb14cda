/** All promises: long runs of calls on the class and on WordsModel, whose answers have to be the same. */
public final class ModelTest {
    /** An object answers 512 calls; a step makes up to 12, and asking for all about 200. */
    private static final int RUNS = 16000, CALLS = 512, CALLS_OF_A_STEP = 12, CALLS_FOR_ALL = 200, CALLS_OF_LONG_RAIN = 413;
    private static final String[] TEXTS = {"r9h3", "s0;s1;s2;s3;s4;s5", "r0h1;s0", "r99h24;s1;r1h2", "r7h25", "s6", "r1h1;", "s0s1",
        "s5;s5;s5;s5;s5;s5;s5;s5;s5;s5;s5;s5;s5;s5;s5;s5;s5;s5;s5;s5", "r12h;", "r2h2;s4;r2h2;s4;r2h2", "r00", ";", "r10h24;r10h24;r10h24"};

    private final Numbers numbers;
    private final ToldDrops x = new ToldDrops();
    private final WordsModel model = new WordsModel();
    private final int run;
    private final int moods;
    private int calls;

    private ModelTest(int run) {
        this.run = run;
        this.numbers = new Numbers(run);
        this.moods = numbers.below(4);
    }

    public static void main(String[] args) {
        for (int run = 0; run < RUNS; run++) {
            new ModelTest(run).go();
        }
        Due.end("ModelTest");
    }

    private void go() {
        if (run % 16 == 1) {
            rainLong();
        }
        boolean asksAll = run % 16 < 1 || run % 16 > 8;
        int last = CALLS - CALLS_OF_A_STEP - (asksAll ? CALLS_FOR_ALL : 0);
        while (calls <= last) {
            change(calls);
            ask(calls);
        }
        if (asksAll) {
            askAll(calls);
        }
        Due.due("run " + run + ": no more than 512 calls", calls <= CALLS ? 1 : 0, 1);
    }

    /** So many hours that the last ones of the 9999 are reached. */
    private void rainLong() {
        for (int call = 0; call < CALLS_OF_LONG_RAIN; call++) {
            int amount = numbers.below(100);
            due(call, "rain " + amount + " 24", x.rain(amount, 24), model.rain(amount, 24));
        }
    }

    /** Each answer is that of one call. */
    private void due(int call, String name, int got, int want) {
        calls++;
        Due.due("run " + run + ", call " + call + ": " + name, got, want);
    }

    /** Mostly a number of the range, at times one beside it or far away. */
    private int near(int least, int most) {
        switch (numbers.below(40)) {
            case 0: return least - 1;
            case 1: return most + 1;
            case 2: return numbers.below(2) == 0 ? Integer.MIN_VALUE : Integer.MAX_VALUE;
            case 3: return least;
            case 4: return most;
            default: return least + numbers.below(most - least + 1);
        }
    }

    private void change(int call) {
        int kind = numbers.below(32);
        if (kind < 2) {
            int setting = near(0, 1), value = setting == 0 ? near(4, 60) : near(0, 1);
            due(call, "set " + setting + " " + value, x.set(setting, value), model.set(setting, value));
        } else if (kind < 6) {
            int g = near(0, 5), mouth = near(1, 9), cup = near(1, 50), share = near(0, 200), way = near(0, 9);
            due(call, "gauge " + g, x.gauge(g, mouth, cup, share, way), model.gauge(g, mouth, cup, share, way));
        } else if (kind < 12) {
            int amount = moods == 0 ? near(0, 99) : near(0, 6), hours = moods == 1 ? near(24, 24) : near(1, 1 + 23 / (1 + moods));
            due(call, "rain " + amount + " " + hours, x.rain(amount, hours), model.rain(amount, hours));
        } else if (kind < 20) {
            int g = near(0, 5);
            due(call, "send " + g, x.send(g), model.send(g));
        } else if (kind < 22) {
            int r = near(0, Math.max(0, model.count(3) - 1));
            due(call, "lose " + r, x.lose(r), model.lose(r));
        } else if (kind < 25) {
            int r = near(0, Math.max(0, model.count(3) - 1));
            due(call, "twice " + r, x.twice(r), model.twice(r));
        } else if (kind < 27) {
            writeText(call);
        } else if (kind < 29) {
            due(call, "run", x.run(), model.run());
        } else if (kind == 29) {
            due(call, "undo", x.undo(), model.undo());
        } else {
            saveOrRestore(call);
        }
    }

    private void saveOrRestore(int call) {
        int slot = near(0, 1);
        switch (numbers.below(4)) {
            case 0: due(call, "undo", x.undo(), model.undo()); break;
            case 1: due(call, "restore " + slot, x.restore(slot), model.restore(slot)); break;
            default: due(call, "save " + slot, x.save(slot), model.save(slot)); break;
        }
    }

    private void writeText(int call) {
        if (numbers.below(3) == 0) {
            due(call, "wipe", x.wipe(), model.wipe());
        }
        if (numbers.below(6) == 0) {
            long any = numbers.next() >>> numbers.below(64);
            due(call, "put " + any, x.put(any), model.put(any));
        }
        String signs = "rh;s0123456789";
        String text = numbers.below(3) > 0 ? TEXTS[numbers.below(TEXTS.length)] : "";
        for (int more = numbers.below(4); text.isEmpty() || more > 0; more--) {
            text += signs.charAt(numbers.below(signs.length()));
        }
        for (int from = 0; from < text.length(); from += 8) {
            long characters = Due.characters(text.substring(from, Math.min(from + 8, text.length())));
            due(call, "put " + characters, x.put(characters), model.put(characters));
        }
    }

    private void ask(int call) {
        int g = near(0, 5), amount = numbers.below(2) == 0 ? near(0, 99) : near(0, 3), what = near(0, 8), r = near(0, 19), carried = near(0, 3);
        switch (numbers.below(10)) {
            case 0: due(call, "fault", x.fault(), model.fault()); break;
            case 1: due(call, "mostUntold", x.mostUntold(), model.mostUntold()); break;
            case 2: due(call, "gaugeOf " + g + " " + what, x.gaugeOf(g, what), model.gaugeOf(g, what)); break;
            case 3: due(call, "ledger " + g + " " + what, x.ledger(g, what), model.ledger(g, what)); break;
            case 4: due(call, "runner " + r + " " + carried, x.runner(r, carried), model.runner(r, carried)); break;
            case 5: due(call, "count " + (what + 2), x.count(what + 2), model.count(what + 2)); break;
            case 6: due(call, "untilRound " + g + " " + amount, x.untilRound(g, amount), model.untilRound(g, amount)); break;
            case 7: due(call, "ifSent " + g, x.ifSent(g), model.ifSent(g)); break;
            case 8: due(call, "ifAllCome " + g, x.ifAllCome(g), model.ifAllCome(g)); break;
            default: due(call, "ledger " + g + " 3", x.ledger(g, 3), model.ledger(g, 3)); break;
        }
    }

    private void askAll(int call) {
        for (int what = 0; what <= 10; what++) {
            due(call, "count " + what, x.count(what), model.count(what));
        }
        for (int g = 0; g < 6; g++) {
            for (int what = 0; what <= 8; what++) {
                due(call, "gaugeOf " + g + " " + what, x.gaugeOf(g, what), model.gaugeOf(g, what));
                due(call, "ledger " + g + " " + what, x.ledger(g, what), model.ledger(g, what));
            }
        }
        for (int r = 0; r < 20; r++) {
            for (int what = 0; what < 4; what++) {
                due(call, "runner " + r + " " + what, x.runner(r, what), model.runner(r, what));
            }
        }
    }

    /** Numbers that are the same in every run of the test. */
    private static final class Numbers {
        private long state;

        Numbers(int seed) {
            state = 0x9E3779B97F4A7C15L * (seed + 1);
        }

        long next() {
            state ^= state << 13;
            state ^= state >>> 7;
            state ^= state << 17;
            return state;
        }

        int below(int bound) {
            return (int) Long.remainderUnsigned(next() >>> 8, bound);
        }
    }
}
