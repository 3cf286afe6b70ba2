import java.util.ArrayList;
import java.util.List;
import java.util.Random;
import java.util.function.LongSupplier;

/** Random runs of up to 512 calls, each answer compared with the one of Model; the seeds are fixed. */
final class RandomRunsTest {
    private static final int RUNS = 400;
    private static final int CALLS = 512;

    private static final Due due = new Due("RandomRunsTest");

    private final Random random;
    private final LineLeases x = new LineLeases();
    private final Model model = new Model();
    private final List<String> told = new ArrayList<>();
    private int calls;

    private RandomRunsTest(long seed) {
        random = new Random(seed);
    }

    public static void main(String[] args) {
        for (int seed = 0; seed < RUNS; seed++) {
            RandomRunsTest run = new RandomRunsTest(seed);
            if (!run.agrees()) {
                due.holds("run " + seed + " agrees; its calls: " + run.told, false);
                break;
            }
        }
        due.end();
    }

    private boolean agrees() {
        while (calls < CALLS) {
            if (!step()) {
                return false;
            }
        }
        return true;
    }

    private static String outcome(LongSupplier call) {
        try {
            return String.valueOf(call.getAsLong());
        } catch (RuntimeException e) {
            return "throws." + e.getClass().getSimpleName();
        }
    }

    private boolean same(String call, LongSupplier mine, LongSupplier due) {
        calls++;
        String got = outcome(mine);
        String want = outcome(due);
        told.add(call + " = " + got);
        if (got.equals(want)) {
            RandomRunsTest.due.holds(call, true);
            return true;
        }
        told.add("due is " + want);
        return false;
    }

    private int upTo(int bound) {
        return random.nextInt(bound + 1);
    }

    /** Mostly an index that there is, sometimes one at or beyond the edge. */
    private int index(int count) {
        return random.nextInt(30) == 0 || count == 0 ? upTo(count + 2) - 1 : random.nextInt(count);
    }

    private boolean step() {
        int handler = index(model.state(1));
        int line = index(model.state(2));
        int request = index(model.state(3));
        int kind = calls == 0 ? 0 : random.nextInt(120);
        if (kind < 2) {
            return loadText();
        } else if (kind < 25) {
            int ticks = random.nextInt(20) == 0 ? upTo(203) - 1 : 1 + random.nextInt(random.nextBoolean() ? 3 : 15);
            return changed("pass(" + ticks + ")", () -> x.pass(ticks), () -> model.pass(ticks));
        } else if (kind < 40) {
            int work = random.nextInt(20) == 0 ? upTo(101) : 1 + upTo(40);
            return changed("raise(" + line + "," + work + ")",
                    () -> x.raise(line, work), () -> model.raise(line, work));
        } else if (kind < 52) {
            return changed("lease(" + handler + "," + line + ")",
                    () -> x.lease(handler, line), () -> model.lease(handler, line));
        } else if (kind < 58) {
            return changed("release(" + handler + "," + line + ")",
                    () -> x.release(handler, line), () -> model.release(handler, line));
        } else if (kind < 64) {
            int coins = random.nextInt(10) == 0 ? upTo(10001) - 1 : 1 + upTo(60);
            return changed("fund(" + handler + "," + coins + ")",
                    () -> x.fund(handler, coins), () -> model.fund(handler, coins));
        } else if (kind < 76) {
            return changed("undo()", x::undo, model::undo);
        }
        return ask(kind, handler, line, request);
    }

    private boolean ask(int kind, int handler, int line, int request) {
        int what = upTo(11) - 1;
        if (kind < 82) {
            return same("state(" + what + ")", () -> x.state(what), () -> model.state(what));
        } else if (kind < 88) {
            return same("handler(" + handler + "," + what + ")",
                    () -> x.handler(handler, what), () -> model.handler(handler, what));
        } else if (kind < 92) {
            return same("line(" + line + "," + what + ")", () -> x.line(line, what), () -> model.line(line, what));
        } else if (kind < 95) {
            int place = upTo(4) - 1;
            return same("tenant(" + line + "," + place + ")",
                    () -> x.tenant(line, place), () -> model.tenant(line, place));
        } else if (kind < 103) {
            return same("request(" + request + "," + what + ")",
                    () -> x.request(request, what), () -> model.request(request, what));
        } else if (kind < 106) {
            return same("calm(" + line + ")", () -> x.calm(line), () -> model.calm(line));
        } else if (kind < 110) {
            return same("endsAt(" + request + ")", () -> x.endsAt(request), () -> model.endsAt(request));
        } else if (kind < 113) {
            return same("bankruptIn(" + handler + ")", () -> x.bankruptIn(handler), () -> model.bankruptIn(handler));
        } else if (kind < 116) {
            int ticks = random.nextInt(10) == 0 ? upTo(1103) - 1 : upTo(150);
            return same("finesIn(" + ticks + ")", () -> x.finesIn(ticks), () -> model.finesIn(ticks));
        }
        return same("advise(" + line + ")", () -> x.advise(line), () -> model.advise(line));
    }

    private boolean changed(String call, LongSupplier mine, LongSupplier due) {
        return same(call, mine, due) && same("checksum()", x::checksum, model::checksum);
    }

    private boolean loadText() {
        String text = new RandomText(random).text();
        told.add(text);
        boolean good = true;
        for (int start = 0; start < text.length(); start += 20) {
            int[] w = words(text, start);
            good &= same("append", () -> x.append(w[0], w[1], w[2], w[3], w[4]), () -> model.append(w));
        }
        int length = random.nextInt(40) == 0 ? upTo(720) - 5 : Math.min(text.length(), 700);
        return good && changed("load(" + length + ")", () -> x.load(length), () -> model.load(length))
                && same("errorOffset()", x::errorOffset, model::errorOffset);
    }

    private static int[] words(String text, int start) {
        int[] words = new int[5];
        for (int i = 0; i < 20; i++) {
            words[i / 4] = words[i / 4] << 8 | (start + i < text.length() ? text.charAt(start + i) : ' ');
        }
        return words;
    }
}
