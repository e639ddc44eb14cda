/** What a valley tells of itself, as texts that can be compared, and valleys with something in them. */
final class Told {
    /** Parts of all that can be asked: so a valley that had many calls already stays within its 512. */
    static final int PARTS = 4;

    private Told() {
    }

    /** All that can be asked of a valley but pad and history. */
    static String valley(ToldDrops x) {
        return numbers(x) + gauges(x) + ledger(x) + runners(x) + whatIfs(x);
    }

    static String part(ToldDrops x, int part) {
        switch (part) {
            case 0: return numbers(x) + x.count(9) + ' ' + x.count(10) + ' ' + x.fault() + ' ' + runners(x);
            case 1: return gauges(x);
            case 2: return ledger(x);
            default: return whatIfs(x);
        }
    }

    private static String numbers(ToldDrops x) {
        StringBuilder text = new StringBuilder();
        for (int what = 0; what <= 8; what++) {
            text.append(x.count(what)).append(' ');
        }
        return text.toString();
    }

    private static String gauges(ToldDrops x) {
        StringBuilder text = new StringBuilder();
        for (int gauge = 0; gauge < 6; gauge++) {
            for (int what = 0; what <= 8; what++) {
                text.append(x.gaugeOf(gauge, what)).append(' ');
            }
        }
        return text.toString();
    }

    private static String ledger(ToldDrops x) {
        StringBuilder text = new StringBuilder();
        for (int gauge = 0; gauge < 6; gauge++) {
            for (int what = 0; what <= 7; what++) {
                text.append(x.ledger(gauge, what)).append(' ');
            }
        }
        return text.toString();
    }

    private static String runners(ToldDrops x) {
        StringBuilder text = new StringBuilder();
        int onTheWay = x.count(3);
        for (int runner = 0; runner < onTheWay; runner++) {
            for (int what = 0; what <= 3; what++) {
                text.append(x.runner(runner, what)).append(' ');
            }
        }
        return text.toString();
    }

    private static String whatIfs(ToldDrops x) {
        StringBuilder text = new StringBuilder();
        for (int gauge = 0; gauge < 6; gauge++) {
            text.append(x.untilRound(gauge, 3)).append(' ').append(x.ifSent(gauge)).append(' ').append(x.ifAllCome(gauge)).append(' ');
        }
        return text.append(x.mostUntold()).append(' ').toString();
    }

    /** A valley that has something of everything: runners, tellings, two slots, six states, a pad. */
    static ToldDrops busy() {
        ToldDrops x = new ToldDrops();
        x.gauge(1, 5, 8, 120, 4);
        x.rain(9, 5);
        x.send(1);
        x.send(0);
        x.save(0);
        x.set(ToldDrops.WHEEL, 7);
        x.rain(20, 3);
        x.send(0);
        x.send(2);
        x.send(5);
        x.save(1);
        x.rain(4, 1);
        x.twice(0);
        x.gauge(3, 3, 4, 100, 0);
        Due.write(x, "r3h2;s4;s1");
        return x;
    }

    /** A valley with 20 runners on the way. */
    static ToldDrops full() {
        ToldDrops x = new ToldDrops();
        x.rain(7, 2);
        for (int sent = 0; sent < 20; sent++) {
            x.send(1 + sent % 5);
        }
        return x;
    }

    /** A valley at the hour 9984, after 417 calls. */
    static ToldDrops late() {
        ToldDrops x = new ToldDrops();
        for (int call = 0; call < 416; call++) {
            x.rain(1, 24);
        }
        x.send(5);
        return x;
    }

    static ToldDrops withPad(String text) {
        ToldDrops x = new ToldDrops();
        x.rain(6, 6);
        Due.write(x, text);
        return x;
    }
}
