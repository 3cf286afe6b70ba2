import java.util.ArrayDeque;
import java.util.ArrayList;
import java.util.Deque;
import java.util.HashSet;
import java.util.List;
import java.util.NoSuchElementException;
import java.util.Set;
import java.util.function.ToIntFunction;
import java.util.regex.Matcher;
import java.util.regex.Pattern;
import java.util.stream.IntStream;

/** A second reading of the document, written for plainness alone; the random runs compare LineLeases with it. */
final class Model {
    static final class Bad extends RuntimeException {
        private static final long serialVersionUID = 1;
        final int code;
        final int offset;

        Bad(int code, int offset) {
            this.code = code;
            this.offset = offset;
        }
    }

    record Facts(int line, int left, int held, int waited) {
    }

    static final class Tenantry {
        int rent;
        int limit;
        int purse;
        List<Integer> tenants = new ArrayList<>();
    }

    static final class Worker {
        int purse;
        int speed;
        boolean bankrupt;
        int fines;
        int rents;
        int wages;
    }

    static final class Call {
        int line;
        int time;
        int work;
        String state = "to come";
        int holder = -1;
        int left;
        int progress;
        int ended = -1;
    }

    static final class Data {
        List<Worker> workers = new ArrayList<>();
        List<Tenantry> lines = new ArrayList<>();
        List<Call> calls = new ArrayList<>();
        int time;
        int bank;
        int patience = 5;
        int window = 10;
        int storm = 10;
        int period = 10;
        int wage = 1;
        ToIntFunction<Facts> fine = Facts::left;

        Data copy() {
            Data d = new Data();
            for (Worker w : workers) {
                Worker c = new Worker();
                c.purse = w.purse;
                c.speed = w.speed;
                c.bankrupt = w.bankrupt;
                c.fines = w.fines;
                c.rents = w.rents;
                c.wages = w.wages;
                d.workers.add(c);
            }
            for (Tenantry l : lines) {
                Tenantry c = new Tenantry();
                c.rent = l.rent;
                c.limit = l.limit;
                c.purse = l.purse;
                c.tenants = new ArrayList<>(l.tenants);
                d.lines.add(c);
            }
            for (Call r : calls) {
                Call c = new Call();
                c.line = r.line;
                c.time = r.time;
                c.work = r.work;
                c.state = r.state;
                c.holder = r.holder;
                c.left = r.left;
                c.progress = r.progress;
                c.ended = r.ended;
                d.calls.add(c);
            }
            d.time = time;
            d.bank = bank;
            d.patience = patience;
            d.window = window;
            d.storm = storm;
            d.period = period;
            d.wage = wage;
            d.fine = fine;
            return d;
        }

        long held(int handler) {
            return calls.stream().filter(c -> c.state.equals("open") && c.holder == handler).count();
        }

        void assign(Call c) {
            int chosen = -1;
            long fewest = Long.MAX_VALUE;
            for (int t : lines.get(c.line).tenants) {
                if (held(t) < fewest) {
                    fewest = held(t);
                    chosen = t;
                }
            }
            c.holder = chosen;
            c.progress = time;
        }

        long inWindow(int line) {
            return calls.stream()
                    .filter(c -> c.line == line && !c.state.equals("to come") && c.time > time - window).count();
        }

        void raise(Call c) {
            c.state = "raised";
            Tenantry line = lines.get(c.line);
            if (inWindow(c.line) > line.limit) {
                c.state = "refused";
                c.ended = time;
                int coins = Math.min(storm, line.purse);
                line.purse -= coins;
                bank += coins;
            } else {
                c.state = "open";
                c.left = c.work;
                assign(c);
            }
        }

        int mustPay(int handler, int amount) {
            Worker w = workers.get(handler);
            int paid = Math.min(amount, w.purse);
            w.purse -= paid;
            if (amount > paid) {
                w.bankrupt = true;
                lines.forEach(l -> l.tenants.remove(Integer.valueOf(handler)));
                calls.stream().filter(c -> c.state.equals("open") && c.holder == handler).toList()
                        .forEach(this::assign);
            }
            return paid;
        }

        void tick() {
            calls.stream().filter(c -> c.state.equals("to come") && c.time == time).forEach(this::raise);
            for (int h = 0; h < workers.size(); h++) {
                Worker w = workers.get(h);
                int units = w.bankrupt ? 0 : w.speed;
                for (Call c : calls) {
                    if (units > 0 && c.state.equals("open") && c.holder == h) {
                        int did = Math.min(units, c.left);
                        units -= did;
                        c.left -= did;
                        c.progress = time;
                        if (c.left == 0) {
                            c.state = "answered";
                            c.ended = time;
                            c.holder = -1;
                            int coins = Math.min(lines.get(c.line).purse, wage * c.work);
                            lines.get(c.line).purse -= coins;
                            w.purse += coins;
                            w.wages += coins;
                        }
                    }
                }
            }
            for (Call c : calls) {
                if (c.state.equals("open") && c.holder >= 0 && time - c.progress >= patience) {
                    int who = c.holder;
                    int value = fine.applyAsInt(new Facts(c.line, c.left, (int) held(who), time - c.progress));
                    int paid = mustPay(who, Math.max(0, Math.min(9999, value)));
                    workers.get(who).fines += paid;
                    lines.get(c.line).purse += paid;
                    c.progress = time;
                }
            }
            if ((time + 1) % period == 0) {
                for (Tenantry l : lines) {
                    List<Integer> payers = List.copyOf(l.tenants);
                    for (int i = 0; i < payers.size(); i++) {
                        if (l.tenants.contains(payers.get(i))) {
                            int amount = l.rent / payers.size() + (i < l.rent % payers.size() ? 1 : 0);
                            int paid = mustPay(payers.get(i), amount);
                            workers.get(payers.get(i)).rents += paid;
                            bank += paid;
                        }
                    }
                }
            }
            time++;
        }

        int finesIn(int ticks) {
            Data d = copy();
            int before = d.workers.stream().mapToInt(w -> w.fines).sum();
            for (int i = 0; i < ticks; i++) {
                d.tick();
            }
            return d.workers.stream().mapToInt(w -> w.fines).sum() - before;
        }

        boolean mayLease(int handler, int line) {
            List<Integer> tenants = lines.get(line).tenants;
            return !workers.get(handler).bankrupt && !tenants.contains(handler) && tenants.size() < 3;
        }

        int lease(int handler, int line) {
            if (!mayLease(handler, line)) {
                return -1;
            }
            lines.get(line).tenants.add(handler);
            List<Call> free = calls.stream()
                    .filter(c -> c.line == line && c.state.equals("open") && c.holder < 0).toList();
            free.forEach(this::assign);
            return free.size();
        }

        int release(int handler, int line) {
            if (!lines.get(line).tenants.remove(Integer.valueOf(handler))) {
                return -1;
            }
            List<Call> its = calls.stream()
                    .filter(c -> c.line == line && c.state.equals("open") && c.holder == handler).toList();
            its.forEach(this::assign);
            return its.size();
        }
    }

    private final StringBuilder buffer = new StringBuilder();
    private int errorOffset = -1;
    private Data data = new Data();
    private final Deque<Data> past = new ArrayDeque<>();

    // The setup text.

    private static final Pattern TOKEN = Pattern.compile(" *([a-z]+|[0-9]+|[^ ]|$)", Pattern.DOTALL);

    private static final class Reader {
        final String text;
        final Data data = new Data();
        final Set<String> once = new HashSet<>();
        int end;
        String token;
        int offset;

        Reader(String text) {
            this.text = text;
            step();
        }

        void step() {
            Matcher m = TOKEN.matcher(text);
            if (!m.find(end)) {
                throw new AssertionError();
            }
            token = m.group(1);
            offset = m.start(1);
            end = m.end(1);
        }

        Bad bad(int code) {
            return new Bad(code, offset);
        }

        void take(String wanted) {
            if (!token.equals(wanted)) {
                throw bad(-2);
            }
            step();
        }

        boolean atNumber() {
            return token.matches("[0-9]+");
        }

        int peekNumber(int least, int most) {
            if (!atNumber()) {
                throw bad(-2);
            }
            String digits = token.replaceFirst("^0+(?=.)", "");
            if (digits.length() > 5 || Integer.parseInt(digits) < least || Integer.parseInt(digits) > most) {
                throw bad(-3);
            }
            return Integer.parseInt(digits);
        }

        int number(int least, int most) {
            int n = peekNumber(least, most);
            step();
            return n;
        }

        Data read() {
            take("lines");
            take(";");
            while (!token.isEmpty()) {
                statement();
                take(";");
            }
            return data;
        }

        void statement() {
            if (Set.of("patience", "window", "storm", "period", "wage", "fine").contains(token)
                    && !once.add(token)) {
                throw bad(-2);
            }
            if (token.equals("handler") && data.workers.size() == 6
                    || token.equals("line") && data.lines.size() == 8
                    || token.equals("raise") && data.calls.size() == 60) {
                throw bad(-5);
            }
            String word = token;
            if (!Set.of("handler", "line", "raise", "patience", "window", "storm", "period", "wage", "fine")
                    .contains(word)) {
                throw bad(-2);
            }
            step();
            switch (word) {
                case "handler" -> {
                    Worker w = new Worker();
                    w.purse = number(0, 9999);
                    w.speed = number(1, 20);
                    data.workers.add(w);
                }
                case "line" -> {
                    Tenantry l = new Tenantry();
                    l.rent = number(0, 99);
                    l.limit = number(1, 20);
                    l.purse = number(0, 9999);
                    while (atNumber()) {
                        int t = peekNumber(0, data.workers.size() - 1);
                        if (l.tenants.contains(t)) {
                            throw bad(-4);
                        }
                        if (l.tenants.size() == 3) {
                            throw bad(-5);
                        }
                        l.tenants.add(t);
                        step();
                    }
                    data.lines.add(l);
                }
                case "raise" -> {
                    Call c = new Call();
                    c.line = number(0, data.lines.size() - 1);
                    c.time = number(0, 999);
                    c.work = number(1, 99);
                    data.calls.add(c);
                }
                case "patience" -> data.patience = number(1, 99);
                case "window" -> data.window = number(1, 99);
                case "storm" -> data.storm = number(0, 999);
                case "period" -> data.period = number(1, 99);
                case "wage" -> data.wage = number(0, 99);
                default -> data.fine = sum(0);
            }
        }

        static int limited(long n) {
            return (int) Math.max(-1000000, Math.min(1000000, n));
        }

        ToIntFunction<Facts> sum(int depth) {
            ToIntFunction<Facts> value = term(depth);
            while (token.equals("+") || token.equals("-")) {
                int sign = token.equals("+") ? 1 : -1;
                step();
                ToIntFunction<Facts> a = value;
                ToIntFunction<Facts> b = term(depth);
                value = f -> limited(a.applyAsInt(f) + (long) sign * b.applyAsInt(f));
            }
            return value;
        }

        ToIntFunction<Facts> term(int depth) {
            ToIntFunction<Facts> value = factor(depth);
            while (token.equals("*") || token.equals("/")) {
                boolean times = token.equals("*");
                step();
                ToIntFunction<Facts> a = value;
                ToIntFunction<Facts> b = factor(depth);
                value = times
                        ? f -> limited((long) a.applyAsInt(f) * b.applyAsInt(f))
                        : f -> b.applyAsInt(f) == 0 ? 0 : a.applyAsInt(f) / b.applyAsInt(f);
            }
            return value;
        }

        ToIntFunction<Facts> factor(int depth) {
            if (atNumber()) {
                int n = number(0, 9999);
                return f -> n;
            }
            String word = token;
            if (word.equals("(")) {
                if (depth == 4) {
                    throw bad(-6);
                }
                step();
                ToIntFunction<Facts> inner = sum(depth + 1);
                take(")");
                return inner;
            }
            ToIntFunction<Facts> fact = switch (word) {
                case "line" -> Facts::line;
                case "left" -> Facts::left;
                case "held" -> Facts::held;
                case "waited" -> Facts::waited;
                default -> throw bad(-2);
            };
            step();
            return fact;
        }
    }

    // The face.

    int append(int[] words) {
        if (buffer.length() + 20 > 700) {
            return -1;
        }
        for (int w : words) {
            for (int shift = 24; shift >= 0; shift -= 8) {
                buffer.append((char) (w >>> shift & 255));
            }
        }
        return buffer.length();
    }

    int load(int length) {
        if (length < 0 || length > buffer.length()) {
            throw new IllegalArgumentException();
        }
        String text = buffer.substring(0, length);
        buffer.setLength(0);
        try {
            Data read = new Reader(text).read();
            errorOffset = -1;
            change();
            data = read;
            return data.calls.size();
        } catch (Bad e) {
            errorOffset = e.offset;
            return e.code;
        }
    }

    int errorOffset() {
        return errorOffset;
    }

    private int count(String state) {
        return (int) data.calls.stream().filter(c -> c.state.equals(state)).count();
    }

    int state(int what) {
        return switch (what) {
            case 0 -> data.time;
            case 1 -> data.workers.size();
            case 2 -> data.lines.size();
            case 3 -> data.calls.size();
            case 4 -> data.bank;
            case 5 -> count("open");
            case 6 -> count("answered");
            case 7 -> count("refused");
            case 8 -> (int) data.workers.stream().filter(w -> w.bankrupt).count();
            case 9 -> data.bank + data.workers.stream().mapToInt(w -> w.purse).sum()
                    + data.lines.stream().mapToInt(l -> l.purse).sum();
            default -> throw new IllegalArgumentException();
        };
    }

    private static void check(int index, List<?> list) {
        if (index < 0 || index >= list.size()) {
            throw new IndexOutOfBoundsException();
        }
    }

    int handler(int handler, int what) {
        check(handler, data.workers);
        Worker w = data.workers.get(handler);
        return switch (what) {
            case 0 -> w.purse;
            case 1 -> w.speed;
            case 2 -> w.bankrupt ? 1 : 0;
            case 3 -> (int) data.held(handler);
            case 4 -> (int) data.lines.stream().filter(l -> l.tenants.contains(handler)).count();
            case 5 -> w.fines;
            case 6 -> w.rents;
            case 7 -> w.wages;
            default -> throw new IllegalArgumentException();
        };
    }

    int line(int line, int what) {
        check(line, data.lines);
        Tenantry l = data.lines.get(line);
        return switch (what) {
            case 0 -> l.rent;
            case 1 -> l.limit;
            case 2 -> l.purse;
            case 3 -> l.tenants.size();
            case 4 -> (int) data.calls.stream()
                    .filter(c -> c.line == line && c.state.equals("open") && c.holder < 0).count();
            default -> throw new IllegalArgumentException();
        };
    }

    int tenant(int line, int place) {
        check(line, data.lines);
        List<Integer> tenants = data.lines.get(line).tenants;
        if (place < 0 || place >= tenants.size()) {
            throw new NoSuchElementException();
        }
        return tenants.get(place);
    }

    int request(int request, int what) {
        check(request, data.calls);
        Call c = data.calls.get(request);
        return switch (what) {
            case 0 -> c.line;
            case 1 -> c.time;
            case 2 -> c.work;
            case 3 -> List.of("to come", "open", "answered", "refused").indexOf(c.state);
            case 4 -> c.state.equals("open") ? c.holder : -1;
            case 5 -> c.state.equals("open") ? c.left : 0;
            case 6 -> c.state.equals("answered") || c.state.equals("refused") ? c.ended : -1;
            default -> throw new IllegalArgumentException();
        };
    }

    int calm(int line) {
        check(line, data.lines);
        Data d = data.copy();
        for (int more = 0;; more++) {
            Call c = new Call();
            c.line = line;
            c.time = d.time;
            c.work = 1;
            d.calls.add(c);
            d.raise(c);
            if (c.state.equals("refused")) {
                return more;
            }
        }
    }

    int endsAt(int request) {
        check(request, data.calls);
        Data d = data.copy();
        for (int i = 0; i < 1100; i++) {
            d.tick();
        }
        return d.calls.get(request).ended;
    }

    int bankruptIn(int handler) {
        check(handler, data.workers);
        Data d = data.copy();
        for (int i = 0; i <= 1100; i++) {
            if (d.workers.get(handler).bankrupt) {
                return i;
            }
            d.tick();
        }
        return -1;
    }

    int finesIn(int ticks) {
        if (ticks < 0 || ticks > 1100) {
            throw new IllegalArgumentException();
        }
        return data.finesIn(ticks);
    }

    int advise(int line) {
        check(line, data.lines);
        int without = data.finesIn(100);
        int[] with = IntStream.range(0, data.workers.size()).map(h -> {
            Data d = data.copy();
            return d.lease(h, line) < 0 ? Integer.MAX_VALUE : d.finesIn(100);
        }).toArray();
        int least = IntStream.of(with).min().orElse(Integer.MAX_VALUE);
        return least < without ? IntStream.range(0, with.length).filter(h -> with[h] == least).min().getAsInt() : -1;
    }

    private void change() {
        past.addLast(data.copy());
        if (past.size() > 8) {
            past.removeFirst();
        }
    }

    int pass(int ticks) {
        if (ticks < 1 || ticks > 200 || data.time + ticks > 9999) {
            throw new IllegalArgumentException();
        }
        change();
        int before = count("answered");
        for (int i = 0; i < ticks; i++) {
            data.tick();
        }
        return count("answered") - before;
    }

    int raise(int line, int work) {
        check(line, data.lines);
        if (work < 1 || work > 99) {
            throw new IllegalArgumentException();
        }
        if (data.calls.size() == 60) {
            throw new IllegalStateException();
        }
        change();
        Call c = new Call();
        c.line = line;
        c.time = data.time;
        c.work = work;
        data.calls.add(c);
        data.raise(c);
        return data.calls.size() - 1;
    }

    int lease(int handler, int line) {
        check(handler, data.workers);
        check(line, data.lines);
        change();
        return data.lease(handler, line);
    }

    int release(int handler, int line) {
        check(handler, data.workers);
        check(line, data.lines);
        change();
        return data.release(handler, line);
    }

    int fund(int handler, int coins) {
        check(handler, data.workers);
        if (coins < 1 || coins > 9999) {
            throw new IllegalArgumentException();
        }
        change();
        Worker w = data.workers.get(handler);
        w.bankrupt = false;
        return w.purse += coins;
    }

    int undo() {
        if (past.isEmpty()) {
            return -1;
        }
        data = past.removeLast();
        return past.size();
    }

    long checksum() {
        List<Long> all = new ArrayList<>();
        IntStream.range(0, 10).forEach(w -> all.add((long) state(w)));
        for (int h = 0; h < data.workers.size(); h++) {
            for (int w = 0; w < 8; w++) {
                all.add((long) handler(h, w));
            }
        }
        for (int l = 0; l < data.lines.size(); l++) {
            for (int w = 0; w < 5; w++) {
                all.add((long) line(l, w));
            }
            data.lines.get(l).tenants.forEach(t -> all.add((long) t));
        }
        for (int r = 0; r < data.calls.size(); r++) {
            for (int w = 0; w < 7; w++) {
                all.add((long) request(r, w));
            }
        }
        return all.stream().reduce(0L, (a, b) -> 31 * a + b);
    }
}
