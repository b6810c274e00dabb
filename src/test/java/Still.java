import java.util.function.LongSupplier;

/**
 * What a house tells of itself and what it does next, as text: where a refused call changed something, the texts of a
 * house with and of one without it differ. What it is and what it does next are told by two houses, made alike, so
 * that none is called more often than the document allows.
 */
final class Still {
    private static final int[] CODES = {123456, 100000, 999999};
    private static final int[] LANDS = {0, 3, 15};
    private static final int[] DAYS = {0, 5, 10000};

    private final StringBuilder text = new StringBuilder();
    private final PortHouse x;

    private Still(PortHouse x) {
        this.x = x;
    }

    /** By calls that change nothing. */
    static String told(PortHouse x) {
        Still s = new Still(x);
        s.tellCounts();
        s.tellBays();
        s.tellYard();
        s.tellBoxes();
        s.tellLists();
        s.tellRates();
        s.tellQuotas();
        s.tellSecurities();
        s.tellLedger();
        s.tellDeclarations();
        return s.text.toString();
    }

    /** By calls that show what the others hide: needs, rights, papers, the tape, entries that wait, moves kept. */
    static String next(PortHouse x) {
        Still s = new Still(x);
        s.nextOfTape();
        s.nextOfBays();
        s.nextOfGate();
        s.nextOfMeasures();
        s.nextOfQuotas();
        s.nextOfLedger();
        s.nextOfYard();
        return s.text.toString();
    }

    private boolean tell(String what, LongSupplier call) {
        text.append(what).append(" = ");
        try {
            text.append(call.getAsLong()).append('\n');
            return true;
        } catch (RuntimeException e) {
            text.append(e.getClass().getSimpleName()).append('\n');
            return false;
        }
    }

    private static long number(boolean answer) {
        return answer ? 1 : 0;
    }

    private void tellCounts() {
        for (int what = 0; what <= 40; what++) {
            int w = what;
            tell("count " + w, () -> x.count(w));
        }
        for (int group = 616; group <= 623; group++) {
            int g = group;
            tell("count " + g, () -> x.count(g));
        }
    }

    private void tellBays() {
        boolean is = true;
        for (int bay = 0; bay < 12 && is; bay++) {
            int b = bay;
            is = tell("least " + b, () -> x.least(b));
            tell("count " + (100 + b), () -> x.count(100 + b));
            tellMoves(b);
        }
    }

    private void tellMoves(int bay) {
        boolean is = true;
        for (int i = 0; i < 20 && is; i++) {
            for (int what = 0; what < 4 && is; what++) {
                int n = i;
                int w = what;
                is = tell("move " + bay + " " + n + " " + w, () -> x.move(bay, n, w));
            }
        }
    }

    private void tellYard() {
        for (int row = 0; row < 20 && x.count(200 + row) >= 0; row++) {
            int r = row;
            for (int of = 200; of <= 500; of += 100) {
                int w = of + r;
                tell("count " + w, () -> x.count(w));
            }
            for (int tier = 0; tier < x.count(200 + r); tier++) {
                int t = tier;
                tell("at " + r + " " + t, () -> x.at(r, t));
            }
        }
    }

    private void tellBoxes() {
        for (int box = 0; box < Math.min(8, x.count(0)); box++) {
            int b = box;
            for (int what = 0; what <= 3; what++) {
                int w = what;
                tell("aboard " + b + " " + w, () -> x.aboard(b, w));
            }
            for (int what = 0; what <= 3; what++) {
                int w = what;
                tell("where " + b + " " + w, () -> x.where(b, w));
            }
            for (int what = 0; what <= 5; what++) {
                int w = what;
                tell("look " + b + " " + w, () -> x.look(b, w));
            }
            for (int i = 0; x.bars(b, i) != PortHouse.NONE; i++) {
                int n = i;
                tell("bars " + b + " " + n, () -> x.bars(b, n));
            }
        }
    }

    private void tellLists() {
        for (int i = 0; x.notice(i) != PortHouse.NONE; i++) {
            int n = i;
            tell("notice " + n, () -> x.notice(n));
        }
        for (int i = 0; x.listed(i) != PortHouse.NONE && i < 20; i++) {
            int n = i;
            tell("listed " + n, () -> x.listed(n));
        }
        for (int i = 0; i < Math.min(40, x.count(18)); i++) {
            int n = i;
            tell("printed " + n, () -> x.printed(n));
        }
    }

    private void tellRates() {
        for (int row = 1; row <= Math.min(4, x.count(15)); row++) {
            int r = row;
            boolean is = true;
            for (int i = 0; i < 8 && is; i++) {
                for (int what = 0; what <= 5 && is; what++) {
                    int n = i;
                    int w = what;
                    is = tell("node " + r + " " + n + " " + w, () -> x.node(r, n, w));
                }
            }
        }
    }

    private void tellQuotas() {
        for (int order = 0; order < Math.min(4, x.count(19)); order++) {
            int o = order;
            for (int what = 0; what <= 4; what++) {
                int w = what;
                tell("quota " + o + " " + w, () -> x.quota(o, w));
            }
            boolean is = true;
            for (long day = x.quota(o, 1), n = 0; n < 8 && is; day--, n++) {
                int d = (int) day;
                is = tell("balance " + o + " " + d, () -> x.balance(o, d));
            }
        }
    }

    private void tellSecurities() {
        for (int guarantee = 1; guarantee <= Math.min(6, x.count(20)); guarantee++) {
            int g = guarantee;
            for (int what = 0; what <= 8; what++) {
                int w = what;
                tell("security " + g + " " + w, () -> x.security(g, w));
            }
            tell("interest " + g, () -> x.interest(g));
        }
        for (int holder = 0; holder < 8; holder++) {
            int h = holder;
            tell("free " + h, () -> x.free(h));
            for (int i = 0; x.list(h, i) != PortHouse.NONE && i < 6; i++) {
                int n = i;
                tell("list " + h + " " + n, () -> x.list(h, n));
            }
        }
        for (int reservation = 1; reservation <= Math.min(4, x.count(21)); reservation++) {
            int r = reservation;
            for (int what = 0; what <= 11; what++) {
                int w = what;
                tell("reservation " + r + " " + w, () -> x.reservation(r, w));
            }
        }
    }

    private void tellLedger() {
        for (int batch = 0; batch < Math.min(5, x.count(28)); batch++) {
            int b = batch;
            for (int what = 0; what <= 6; what++) {
                int w = what;
                tell("batchOf " + b + " " + w, () -> x.batchOf(b, w));
            }
        }
        for (int i = 0; i < Math.min(12, x.count(29)); i++) {
            int n = i;
            for (int what = 0; what <= 4; what++) {
                int w = what;
                tell("read " + n + " " + w, () -> x.read(n, w));
            }
        }
    }

    private void tellDeclarations() {
        for (int declaration = 0; declaration < Math.min(6, x.count(35)); declaration++) {
            int d = declaration;
            for (int what = 0; what <= 22; what++) {
                int w = what;
                tell("declared " + d + " " + w, () -> x.declared(d, w));
            }
            tell("duty " + d, () -> x.duty(d, 10000));
        }
    }

    private void nextOfTape() {
        tell("row", () -> x.row(77, PortHouse.ALL, 0, PortHouse.OPEN, 7, 9, 0));
        tell("rate", () -> x.rate(x.count(15)));
        for (int row = 1; row <= Math.min(4, x.count(15)); row++) {
            int r = row;
            if (tell("print " + r, () -> x.print(r))) {
                for (int i = 0; i < Math.min(20, x.count(18)); i++) {
                    int n = i;
                    tell("printed " + n, () -> x.printed(n));
                }
            }
        }
    }

    private void nextOfBays() {
        int boxes = Math.min(5, x.count(0));
        for (int box = 0; box < boxes; box++) {
            for (int other = 0; other < boxes; other++) {
                int b = box;
                int o = other;
                tell("swap " + b + " " + o, () -> x.swap(b, o));
                tell("before " + b + " " + o, () -> number(x.before(b, o)));
            }
        }
        for (int bay = 0; bay < 2; bay++) {
            int b = bay;
            tell("plan " + b, () -> x.plan(b));
            tellMoves(b);
        }
    }

    private void nextOfGate() {
        for (int box = 0; box < Math.min(5, x.count(0)); box++) {
            int b = box;
            tell("release " + b, () -> x.release(b));
            for (int right = 0; right <= 15; right += 5) {
                int bit = 1 << right;
                tell("lift " + b + " " + bit, () -> x.lift(0, b, 0, bit));
            }
        }
        for (int what = 11; what <= 14; what++) {
            int w = what;
            tell("count " + w, () -> x.count(w));
        }
    }

    private void nextOfMeasures() {
        for (int code : CODES) {
            for (int land : LANDS) {
                for (int day : DAYS) {
                    tell("apply " + code + " " + land + " " + day, () -> x.apply(code, land, day, 10000));
                }
            }
        }
        for (int row = 1; row <= Math.min(2, x.count(15)); row++) {
            int r = row;
            for (int n = 0; n <= 15; n++) {
                int bit = n;
                tell("exclude " + r + " " + bit, () -> number(x.exclude(r, bit)));
                tell("condition " + r + " " + bit, () -> number(x.condition(r, bit)));
            }
            tell("end " + r, () -> x.end(r, PortHouse.OPEN, 10000));
        }
        for (int land = 0; land <= 3; land++) {
            int l = land;
            tell("member 16 " + l, () -> number(x.member(16, l)));
        }
    }

    private void nextOfQuotas() {
        for (int desk = 0; desk < 4; desk++) {
            int d = desk;
            tell("fails " + d, () -> number(x.fails(d, true)));
        }
        for (int order = 0; order < Math.min(2, x.count(19)); order++) {
            int o = order;
            for (int day = 0; day <= 12; day++) {
                int d = day;
                tell("block " + o + " " + d, () -> number(x.block(o, d, true)));
            }
            tell("run " + o, () -> x.run(o, 400));
            tell("quota " + o, () -> x.quota(o, 3));
        }
    }

    private void nextOfLedger() {
        for (int batch = 0; batch < Math.min(5, x.count(28)); batch++) {
            int b = batch;
            tell("post " + b, () -> x.post(b));
            tell("post again " + b, () -> x.post(b));
            tell("count 33", () -> x.count(33));
        }
        tell("batch", () -> x.batch(0, 100000));
        int latest = x.count(28) - 1;
        tell("entry 0", () -> number(x.entry(latest, 0, 1234567)));
        tell("entry 8", () -> number(x.entry(latest, 8, 1234567)));
        tell("entry 9", () -> number(x.entry(latest, 9, 1234567)));
        tell("entry 10", () -> number(x.entry(latest, 10, -3703701)));
        tell("post", () -> x.post(latest));
        for (int kind = 0; kind < 3; kind++) {
            for (int what = 0; what <= 6; what++) {
                int k = kind;
                int w = what;
                tell("passed " + k + " " + w, () -> x.passed(k, w, 100000));
            }
        }
        for (int i = 0; i < Math.min(12, x.count(29)); i++) {
            int n = i;
            tell("read " + n, () -> x.read(n, 2));
        }
    }

    private void nextOfYard() {
        tell("night", () -> x.night(1));
        int box = 0;
        for (int i = 0; i < 101 && box >= 0; i++) {
            box = x.undo();
            text.append("undo = ").append(box).append('\n');
        }
        for (int b = 0; b < Math.min(8, x.count(0)); b++) {
            int n = b;
            tell("where " + n, () -> x.where(n, 0));
        }
    }
}
