import java.util.NoSuchElementException;

/** Interrupt lines that are leased to handlers; ../shared/DOC.md tells what each call promises. */
public final class LineLeases {
    public static final int SYNTAX_ERROR = -2;
    public static final int OUT_OF_RANGE = -3;
    public static final int REPEATED = -4;
    public static final int TOO_MANY = -5;
    public static final int TOO_DEEP = -6;

    private static final int MOST_BYTES = 700;
    private static final int BYTES_OF_APPEND = 20;
    private static final int MOST_HANDLERS = 6;
    private static final int MOST_LINES = 8;
    private static final int MOST_TENANTS = 3;
    private static final int MOST_REQUESTS = 60;
    private static final int MOST_COINS = 9999;
    private static final int MOST_SPEED = 20;
    private static final int MOST_RENT = 99;
    private static final int MOST_LIMIT = 20;
    private static final int MOST_WORK = 99;
    private static final int LATEST_TOLD_TIME = 999;
    private static final int MOST_CHANGES = 8;
    private static final int MOST_PASSED = 200;
    private static final int LATEST_TIME = 9999;
    private static final int FORESIGHT = 1100;
    private static final int ADVICE_TICKS = 100;

    private static final int STATE_NUMBERS = 10;
    private static final int HANDLER_NUMBERS = 8;
    private static final int LINE_NUMBERS = 5;
    private static final int REQUEST_NUMBERS = 7;

    // The states of a request, as request(int, int) tells them.
    private static final int TO_COME = 0;
    private static final int OPEN = 1;
    private static final int ANSWERED = 2;
    private static final int REFUSED = 3;

    // The kinds of tokens; those of operators and of the fine's words are also steps of a fine.
    private static final int END_OF_TEXT = 0;
    private static final int BAD_BYTE = 1;
    private static final int NUMBER = 2;
    private static final int SEMICOLON = 3;
    private static final int OPENING = 4;
    private static final int CLOSING = 5;
    private static final int PLUS = 6;
    private static final int MINUS = 7;
    private static final int TIMES = 8;
    private static final int OVER = 9;
    private static final int WORD_LINES = 10;
    private static final int WORD_HANDLER = 11;
    private static final int WORD_LINE = 12;
    private static final int WORD_RAISE = 13;
    private static final int WORD_PATIENCE = 14;
    private static final int WORD_WINDOW = 15;
    private static final int WORD_STORM = 16;
    private static final int WORD_PERIOD = 17;
    private static final int WORD_WAGE = 18;
    private static final int WORD_FINE = 19;
    private static final int WORD_LEFT = 20;
    private static final int WORD_HELD = 21;
    private static final int WORD_WAITED = 22;
    private static final int UNKNOWN_WORD = 23;

    private final byte[] buffer;
    private int bufferLength;
    private int errorAt;
    private final Tokens tokens;
    private final SetupReader reader;
    private final World present;
    // What predictions and a setup text that may be wrong are worked out in.
    private final World trial;
    // A ring of the worlds before the changes that can be undone.
    private final World[] past;
    private int pastCount;
    private int pastNext;

    public LineLeases() {
        buffer = new byte[MOST_BYTES];
        bufferLength = 0;
        errorAt = -1;
        tokens = new Tokens();
        reader = new SetupReader();
        present = new World();
        trial = new World();
        past = new World[MOST_CHANGES];
        for (int i = 0; i < past.length; i++) {
            past[i] = new World();
        }
        pastCount = 0;
        pastNext = 0;
    }

    public int append(int w0, int w1, int w2, int w3, int w4) {
        if (bufferLength > MOST_BYTES - BYTES_OF_APPEND) {
            return -1;
        }
        putBytes(w0);
        putBytes(w1);
        putBytes(w2);
        putBytes(w3);
        putBytes(w4);
        return bufferLength;
    }

    private void putBytes(int word) {
        for (int shift = 24; shift >= 0 && bufferLength < buffer.length; shift -= 8) {
            buffer[bufferLength] = (byte) (word >>> shift);
            bufferLength++;
        }
    }

    public int load(int length) throws IllegalArgumentException {
        if (length < 0 || length > bufferLength) {
            throw new IllegalArgumentException("no such length of the buffer");
        }
        bufferLength = 0;
        tokens.split(buffer, length);
        if (!reader.reads(tokens, trial)) {
            errorAt = reader.errorAt;
            return reader.error;
        }
        errorAt = -1;
        keepPresent();
        present.copyOf(trial);
        return present.requestCount;
    }

    public int errorOffset() {
        return errorAt;
    }

    public int state(int what) throws IllegalArgumentException {
        switch (what) {
            case 0:
                return present.time;
            case 1:
                return present.handlerCount;
            case 2:
                return present.lineCount;
            case 3:
                return present.requestCount;
            case 4:
                return present.bank;
            case 5:
                return present.requestsIn(OPEN);
            case 6:
                return present.requestsIn(ANSWERED);
            case 7:
                return present.requestsIn(REFUSED);
            case 8:
                return present.bankruptHandlers();
            case 9:
                return present.allCoins();
            default:
                throw new IllegalArgumentException("no such number of the state");
        }
    }

    public int handler(int handler, int what) throws IndexOutOfBoundsException, IllegalArgumentException {
        if (!present.hasHandler(handler)) {
            throw new IndexOutOfBoundsException("no such handler");
        }
        Handler row = present.handlers[handler];
        switch (what) {
            case 0:
                return row.purse;
            case 1:
                return row.speed;
            case 2:
                return row.bankrupt ? 1 : 0;
            case 3:
                return row.held;
            case 4:
                return present.linesOf(handler);
            case 5:
                return row.fines;
            case 6:
                return row.rents;
            case 7:
                return row.wages;
            default:
                throw new IllegalArgumentException("no such number of a handler");
        }
    }

    public int line(int line, int what) throws IndexOutOfBoundsException, IllegalArgumentException {
        if (!present.hasLine(line)) {
            throw new IndexOutOfBoundsException("no such line");
        }
        Line row = present.lines[line];
        switch (what) {
            case 0:
                return row.rent;
            case 1:
                return row.limit;
            case 2:
                return row.purse;
            case 3:
                return row.tenantCount;
            case 4:
                return present.openOf(line, -1);
            default:
                throw new IllegalArgumentException("no such number of a line");
        }
    }

    public int tenant(int line, int place) throws IndexOutOfBoundsException, NoSuchElementException {
        if (!present.hasLine(line)) {
            throw new IndexOutOfBoundsException("no such line");
        }
        Line row = present.lines[line];
        if (place < 0 || place >= row.tenantCount) {
            throw new NoSuchElementException("no such place");
        }
        return row.tenants[place];
    }

    public int request(int request, int what) throws IndexOutOfBoundsException, IllegalArgumentException {
        if (!present.hasRequest(request)) {
            throw new IndexOutOfBoundsException("no such request");
        }
        Request row = present.requests[request];
        switch (what) {
            case 0:
                return row.line;
            case 1:
                return row.time;
            case 2:
                return row.work;
            case 3:
                return row.state;
            case 4:
                return row.holder;
            case 5:
                return row.left;
            case 6:
                return row.ended;
            default:
                throw new IllegalArgumentException("no such number of a request");
        }
    }

    public int calm(int line) throws IndexOutOfBoundsException {
        if (!present.hasLine(line)) {
            throw new IndexOutOfBoundsException("no such line");
        }
        int free = present.lines[line].limit - present.raisedInWindow(line);
        return free < 0 ? 0 : free;
    }

    public int endsAt(int request) throws IndexOutOfBoundsException {
        if (!present.hasRequest(request)) {
            throw new IndexOutOfBoundsException("no such request");
        }
        trial.copyOf(present);
        Request row = trial.requests[request];
        for (int tick = 0; tick < FORESIGHT && row.ended < 0; tick++) {
            trial.passTick();
        }
        return row.ended;
    }

    public int bankruptIn(int handler) throws IndexOutOfBoundsException {
        if (!present.hasHandler(handler)) {
            throw new IndexOutOfBoundsException("no such handler");
        }
        trial.copyOf(present);
        Handler row = trial.handlers[handler];
        int ticks = 0;
        while (ticks < FORESIGHT && !row.bankrupt) {
            trial.passTick();
            ticks++;
        }
        return row.bankrupt ? ticks : -1;
    }

    public int finesIn(int ticks) throws IllegalArgumentException {
        if (ticks < 0 || ticks > FORESIGHT) {
            throw new IllegalArgumentException("no such number of ticks");
        }
        trial.copyOf(present);
        return trial.finesWithin(ticks);
    }

    public int advise(int line) throws IndexOutOfBoundsException {
        if (!present.hasLine(line)) {
            throw new IndexOutOfBoundsException("no such line");
        }
        trial.copyOf(present);
        int least = trial.finesWithin(ADVICE_TICKS);
        int best = -1;
        for (int handler = 0; handler < present.handlerCount; handler++) {
            if (present.mayLease(handler, line)) {
                trial.copyOf(present);
                trial.letLease(handler, line);
                int fines = trial.finesWithin(ADVICE_TICKS);
                if (fines < least) {
                    least = fines;
                    best = handler;
                }
            }
        }
        return best;
    }

    public int pass(int ticks) throws IllegalArgumentException {
        if (ticks < 1 || ticks > MOST_PASSED || present.time + ticks > LATEST_TIME) {
            throw new IllegalArgumentException("no such number of ticks");
        }
        keepPresent();
        int before = present.requestsIn(ANSWERED);
        for (int tick = 0; tick < ticks; tick++) {
            present.passTick();
        }
        return present.requestsIn(ANSWERED) - before;
    }

    public int raise(int line, int work)
            throws IndexOutOfBoundsException, IllegalArgumentException, IllegalStateException {
        if (!present.hasLine(line)) {
            throw new IndexOutOfBoundsException("no such line");
        }
        if (work < 1 || work > MOST_WORK) {
            throw new IllegalArgumentException("no such work");
        }
        if (present.requestCount >= MOST_REQUESTS) {
            throw new IllegalStateException("there are 60 requests");
        }
        keepPresent();
        int index = present.requestCount;
        present.addRequest(line, present.time, work);
        present.openOrRefuse(present.requests[index]);
        return index;
    }

    public int lease(int handler, int line) throws IndexOutOfBoundsException {
        if (!present.hasHandler(handler) || !present.hasLine(line)) {
            throw new IndexOutOfBoundsException("no such handler or line");
        }
        keepPresent();
        return present.mayLease(handler, line) ? present.letLease(handler, line) : -1;
    }

    public int release(int handler, int line) throws IndexOutOfBoundsException {
        if (!present.hasHandler(handler) || !present.hasLine(line)) {
            throw new IndexOutOfBoundsException("no such handler or line");
        }
        keepPresent();
        return present.lines[line].placeOf(handler) >= 0 ? present.letRelease(handler, line) : -1;
    }

    public int fund(int handler, int coins) throws IndexOutOfBoundsException, IllegalArgumentException {
        if (!present.hasHandler(handler)) {
            throw new IndexOutOfBoundsException("no such handler");
        }
        if (coins < 1 || coins > MOST_COINS) {
            throw new IllegalArgumentException("no such number of coins");
        }
        keepPresent();
        Handler row = present.handlers[handler];
        row.purse += coins;
        row.bankrupt = false;
        return row.purse;
    }

    public int undo() {
        if (pastCount == 0) {
            return -1;
        }
        pastNext = pastNext > 0 ? pastNext - 1 : past.length - 1;
        pastCount--;
        present.copyOf(past[pastNext]);
        return pastCount;
    }

    /** Keeps the present world for undo; when all rows of the ring are used, the oldest change becomes final. */
    private void keepPresent() {
        past[pastNext].copyOf(present);
        pastNext = pastNext + 1 < past.length ? pastNext + 1 : 0;
        if (pastCount < past.length) {
            pastCount++;
        }
    }

    public long checksum() {
        long sum = 0;
        for (int what = 0; what < STATE_NUMBERS; what++) {
            sum = 31 * sum + state(what);
        }
        for (int i = 0; i < present.handlerCount; i++) {
            for (int what = 0; what < HANDLER_NUMBERS; what++) {
                sum = 31 * sum + handler(i, what);
            }
        }
        for (int i = 0; i < present.lineCount; i++) {
            for (int what = 0; what < LINE_NUMBERS; what++) {
                sum = 31 * sum + line(i, what);
            }
            for (int place = 0; place < present.lines[i].tenantCount; place++) {
                sum = 31 * sum + tenant(i, place);
            }
        }
        for (int i = 0; i < present.requestCount; i++) {
            for (int what = 0; what < REQUEST_NUMBERS; what++) {
                sum = 31 * sum + request(i, what);
            }
        }
        return sum;
    }

    private static final class Handler {
        int purse;
        int speed;
        boolean bankrupt;
        int held;
        int fines;
        int rents;
        int wages;

        void begin(int firstPurse, int itsSpeed) {
            purse = firstPurse;
            speed = itsSpeed;
            bankrupt = false;
            held = 0;
            fines = 0;
            rents = 0;
            wages = 0;
        }

        void copyOf(Handler other) {
            purse = other.purse;
            speed = other.speed;
            bankrupt = other.bankrupt;
            held = other.held;
            fines = other.fines;
            rents = other.rents;
            wages = other.wages;
        }
    }

    private static final class Line {
        int rent;
        int limit;
        int purse;
        final int[] tenants = new int[MOST_TENANTS];
        int tenantCount;

        void begin(int itsRent, int itsLimit, int firstPurse) {
            rent = itsRent;
            limit = itsLimit;
            purse = firstPurse;
            tenantCount = 0;
        }

        void copyOf(Line other) {
            rent = other.rent;
            limit = other.limit;
            purse = other.purse;
            tenantCount = other.tenantCount;
            for (int place = 0; place < tenants.length; place++) {
                tenants[place] = other.tenants[place];
            }
        }

        /** The place of this handler among the tenants, or -1. */
        int placeOf(int handler) {
            for (int place = 0; place < tenantCount; place++) {
                if (tenants[place] == handler) {
                    return place;
                }
            }
            return -1;
        }

        void addTenant(int handler) {
            if (tenantCount < tenants.length) {
                tenants[tenantCount] = handler;
                tenantCount++;
            }
        }

        void removeTenant(int handler) {
            int kept = 0;
            for (int place = 0; place < tenantCount; place++) {
                if (tenants[place] != handler) {
                    tenants[kept] = tenants[place];
                    kept++;
                }
            }
            tenantCount = kept;
        }

        /** Takes this amount out of the device purse, or all that is in it; tells what was taken. */
        int payAtMost(int amount) {
            int paid = amount < purse ? amount : purse;
            purse -= paid;
            return paid;
        }
    }

    private static final class Request {
        int line;
        int time;
        int work;
        int state;
        // -1 unless it is open and has a holder.
        int holder;
        // 0 unless it is open.
        int left;
        int progress;
        // -1 unless it is answered or refused.
        int ended;

        void begin(int itsLine, int itsTime, int itsWork) {
            line = itsLine;
            time = itsTime;
            work = itsWork;
            state = TO_COME;
            holder = -1;
            left = 0;
            progress = 0;
            ended = -1;
        }

        void copyOf(Request other) {
            line = other.line;
            time = other.time;
            work = other.work;
            state = other.state;
            holder = other.holder;
            left = other.left;
            progress = other.progress;
            ended = other.ended;
        }
    }

    /** The fine expression, as steps for a stack: operands first, then their operator. */
    private static final class FineExpression {
        private static final int BOUND = 1000000;
        private static final int MOST_FINE = 9999;
        // 4 parentheses deep, 2 operands wait at each level, and 3 stand at the innermost one.
        private static final int STACK_SIZE = 16;

        // A step is a number from 0, or a token kind of a word or an operator with a minus sign.
        final int[] steps = new int[MOST_BYTES];
        int count;
        final int[] stack = new int[STACK_SIZE];

        void copyOf(FineExpression other) {
            count = other.count;
            for (int i = 0; i < count; i++) {
                steps[i] = other.steps[i];
            }
        }

        void addStep(int step) {
            if (count < steps.length) {
                steps[count] = step;
                count++;
            }
        }

        int value(int line, int left, int held, int waited) {
            int size = 0;
            for (int i = 0; i < count; i++) {
                int step = steps[i];
                if (step <= -PLUS && step >= -OVER) {
                    if (size >= 2 && size <= stack.length) {
                        stack[size - 2] = result(-step, stack[size - 2], stack[size - 1]);
                        size--;
                    }
                } else if (size < stack.length) {
                    stack[size] = step >= 0 ? step
                            : step == -WORD_LINE ? line
                            : step == -WORD_LEFT ? left
                            : step == -WORD_HELD ? held
                            : waited;
                    size++;
                }
            }
            // Only a missing fine statement leaves no steps.
            int value = count == 0 ? left : stack[0];
            return value < 0 ? 0 : value > MOST_FINE ? MOST_FINE : value;
        }

        private static int result(int operator, int a, int b) {
            long exact;
            if (operator == PLUS) {
                exact = (long) a + b;
            } else if (operator == MINUS) {
                exact = (long) a - b;
            } else if (operator == TIMES) {
                exact = (long) a * b;
            } else {
                exact = b == 0 ? 0 : a / b;
            }
            return (int) (exact < -BOUND ? -BOUND : exact > BOUND ? BOUND : exact);
        }
    }

    /**
     * All data that a change changes: handlers, lines, requests, the rules' numbers, the bank and the time.
     * Indexes that it keeps (a request's line and holder, tenants) were tested before they were kept, and are tested
     * once more before they are used: so each use shows by itself that the machine does not throw.
     */
    private static final class World {
        final Handler[] handlers = new Handler[MOST_HANDLERS];
        int handlerCount;
        final Line[] lines = new Line[MOST_LINES];
        int lineCount;
        final Request[] requests = new Request[MOST_REQUESTS];
        int requestCount;
        int time;
        int bank;
        int patience;
        int window;
        int storm;
        int period;
        int wage;
        final FineExpression fine = new FineExpression();
        // The tenants that are due to pay a rent while some of them may leave.
        final int[] payers = new int[MOST_TENANTS];

        World() {
            for (int i = 0; i < handlers.length; i++) {
                handlers[i] = new Handler();
            }
            for (int i = 0; i < lines.length; i++) {
                lines[i] = new Line();
            }
            for (int i = 0; i < requests.length; i++) {
                requests[i] = new Request();
            }
            begin();
        }

        /** Makes it the world of a setup text without statements. */
        void begin() {
            handlerCount = 0;
            lineCount = 0;
            requestCount = 0;
            time = 0;
            bank = 0;
            patience = 5;
            window = 10;
            storm = 10;
            period = 10;
            wage = 1;
            fine.count = 0;
        }

        void copyOf(World other) {
            handlerCount = other.handlerCount;
            for (int i = 0; i < handlerCount; i++) {
                handlers[i].copyOf(other.handlers[i]);
            }
            lineCount = other.lineCount;
            for (int i = 0; i < lineCount; i++) {
                lines[i].copyOf(other.lines[i]);
            }
            requestCount = other.requestCount;
            for (int i = 0; i < requestCount; i++) {
                requests[i].copyOf(other.requests[i]);
            }
            time = other.time;
            bank = other.bank;
            patience = other.patience;
            window = other.window;
            storm = other.storm;
            period = other.period;
            wage = other.wage;
            fine.copyOf(other.fine);
        }

        boolean hasHandler(int index) {
            return index >= 0 && index < handlerCount;
        }

        boolean hasLine(int index) {
            return index >= 0 && index < lineCount;
        }

        boolean hasRequest(int index) {
            return index >= 0 && index < requestCount;
        }

        void addHandler(int purse, int speed) {
            if (handlerCount < handlers.length) {
                handlers[handlerCount].begin(purse, speed);
                handlerCount++;
            }
        }

        void addLine(int rent, int limit, int purse) {
            if (lineCount < lines.length) {
                lines[lineCount].begin(rent, limit, purse);
                lineCount++;
            }
        }

        void addRequest(int line, int itsTime, int work) {
            if (requestCount < requests.length) {
                requests[requestCount].begin(line, itsTime, work);
                requestCount++;
            }
        }

        int requestsIn(int state) {
            int count = 0;
            for (int i = 0; i < requestCount; i++) {
                if (requests[i].state == state) {
                    count++;
                }
            }
            return count;
        }

        int bankruptHandlers() {
            int count = 0;
            for (int i = 0; i < handlerCount; i++) {
                if (handlers[i].bankrupt) {
                    count++;
                }
            }
            return count;
        }

        int allCoins() {
            int coins = bank;
            for (int i = 0; i < handlerCount; i++) {
                coins += handlers[i].purse;
            }
            for (int i = 0; i < lineCount; i++) {
                coins += lines[i].purse;
            }
            return coins;
        }

        int allFines() {
            int coins = 0;
            for (int i = 0; i < handlerCount; i++) {
                coins += handlers[i].fines;
            }
            return coins;
        }

        /** The number of lines of which this handler is a tenant. */
        int linesOf(int handler) {
            int count = 0;
            for (int i = 0; i < lineCount; i++) {
                if (lines[i].placeOf(handler) >= 0) {
                    count++;
                }
            }
            return count;
        }

        /** The number of open requests of this line with this holder; -1 stands for none. */
        int openOf(int line, int holder) {
            int count = 0;
            for (int i = 0; i < requestCount; i++) {
                Request request = requests[i];
                if (request.state == OPEN && request.line == line && request.holder == holder) {
                    count++;
                }
            }
            return count;
        }

        /** The number of requests of this line that count for the next one's storm. */
        int raisedInWindow(int line) {
            int count = 0;
            for (int i = 0; i < requestCount; i++) {
                Request request = requests[i];
                if (request.line == line && request.state != TO_COME && request.time > time - window) {
                    count++;
                }
            }
            return count;
        }

        /** Raises a request that is still to come. */
        void openOrRefuse(Request request) {
            if (!hasLine(request.line)) {
                return;
            }
            Line line = lines[request.line];
            if (raisedInWindow(request.line) + 1 > line.limit) {
                request.state = REFUSED;
                request.ended = time;
                bank += line.payAtMost(storm);
            } else {
                request.state = OPEN;
                request.left = request.work;
                assign(request);
            }
        }

        /** Assigns an open request; its holder before, if any, is no tenant of its line. */
        private void assign(Request request) {
            if (!hasLine(request.line)) {
                return;
            }
            Line line = lines[request.line];
            int best = -1;
            for (int place = 0; place < line.tenantCount; place++) {
                int tenant = line.tenants[place];
                if (hasHandler(tenant) && (best < 0 || handlers[tenant].held < handlers[best].held)) {
                    best = tenant;
                }
            }
            if (hasHandler(request.holder)) {
                handlers[request.holder].held--;
            }
            if (best >= 0) {
                handlers[best].held++;
            }
            request.holder = best;
            request.progress = time;
        }

        /** Assigns anew the open requests of this line that have this holder (-1: none), and counts them. */
        private int assignThoseOf(int line, int holder) {
            int count = 0;
            for (int i = 0; i < requestCount; i++) {
                Request request = requests[i];
                if (request.state == OPEN && request.line == line && request.holder == holder) {
                    assign(request);
                    count++;
                }
            }
            return count;
        }

        boolean mayLease(int handler, int line) {
            return !handlers[handler].bankrupt
                    && lines[line].placeOf(handler) < 0
                    && lines[line].tenantCount < MOST_TENANTS;
        }

        int letLease(int handler, int line) {
            lines[line].addTenant(handler);
            return assignThoseOf(line, -1);
        }

        int letRelease(int handler, int line) {
            lines[line].removeTenant(handler);
            return assignThoseOf(line, handler);
        }

        /** Lets ticks pass and tells the fines that were paid in them. */
        int finesWithin(int ticks) {
            int before = allFines();
            for (int tick = 0; tick < ticks; tick++) {
                passTick();
            }
            return allFines() - before;
        }

        void passTick() {
            for (int i = 0; i < requestCount; i++) {
                if (requests[i].state == TO_COME && requests[i].time == time) {
                    openOrRefuse(requests[i]);
                }
            }
            for (int i = 0; i < handlerCount; i++) {
                if (!handlers[i].bankrupt && handlers[i].held > 0) {
                    doWork(i);
                }
            }
            for (int i = 0; i < requestCount; i++) {
                Request request = requests[i];
                if (request.state == OPEN && request.holder >= 0 && time - request.progress >= patience) {
                    chargeFine(request);
                }
            }
            if (period > 0 && (time + 1) % period == 0) {
                for (int i = 0; i < lineCount; i++) {
                    chargeRent(lines[i]);
                }
            }
            time++;
        }

        private void doWork(int handler) {
            int units = handlers[handler].speed;
            for (int i = 0; i < requestCount && units > 0; i++) {
                Request request = requests[i];
                if (request.state == OPEN && request.holder == handler) {
                    int done = request.left < units ? request.left : units;
                    units -= done;
                    request.left -= done;
                    request.progress = time;
                    if (request.left == 0) {
                        answer(request);
                    }
                }
            }
        }

        private void answer(Request request) {
            if (!hasHandler(request.holder) || !hasLine(request.line)) {
                return;
            }
            Handler handler = handlers[request.holder];
            handler.held--;
            request.holder = -1;
            request.state = ANSWERED;
            request.ended = time;
            int paid = lines[request.line].payAtMost(wage * request.work);
            handler.purse += paid;
            handler.wages += paid;
        }

        private void chargeFine(Request request) {
            if (!hasHandler(request.holder) || !hasLine(request.line)) {
                return;
            }
            Handler handler = handlers[request.holder];
            int due = fine.value(request.line, request.left, handler.held, time - request.progress);
            int paid = takeFrom(request.holder, due);
            handler.fines += paid;
            lines[request.line].purse += paid;
            request.progress = time;
        }

        private void chargeRent(Line line) {
            int count = line.tenantCount;
            if (count == 0) {
                return;
            }
            int share = line.rent / count;
            int over = line.rent % count;
            for (int place = 0; place < count; place++) {
                payers[place] = line.tenants[place];
            }
            for (int place = 0; place < count; place++) {
                int payer = payers[place];
                if (hasHandler(payer) && line.placeOf(payer) >= 0) {
                    int paid = takeFrom(payer, place < over ? share + 1 : share);
                    handlers[payer].rents += paid;
                    bank += paid;
                }
            }
        }

        /** Lets a handler pay this amount, or all that it has, and be bankrupt then; tells what it paid. */
        private int takeFrom(int handler, int amount) {
            Handler payer = handlers[handler];
            if (amount <= payer.purse) {
                payer.purse -= amount;
                return amount;
            }
            int paid = payer.purse;
            payer.purse = 0;
            goBankrupt(handler);
            return paid;
        }

        private void goBankrupt(int handler) {
            handlers[handler].bankrupt = true;
            for (int i = 0; i < lineCount; i++) {
                lines[i].removeTenant(handler);
            }
            for (int i = 0; i < requestCount; i++) {
                if (requests[i].state == OPEN && requests[i].holder == handler) {
                    assign(requests[i]);
                }
            }
        }
    }

    /** A setup text as its tokens. */
    private static final class Tokens {
        // Greater than every number that a setup text may hold.
        private static final int HUGE = 100000;

        final int[] kinds = new int[MOST_BYTES + 1];
        final int[] starts = new int[MOST_BYTES + 1];
        final int[] numbers = new int[MOST_BYTES + 1];
        int count;

        void split(byte[] text, int length) {
            count = 0;
            int at = 0;
            for (int i = 0; i < MOST_BYTES && at < length && at < text.length; i++) {
                int end = at + 1;
                if (text[at] >= 'a' && text[at] <= 'z') {
                    end = endOfRun(text, length, at, 'a', 'z');
                    addToken(wordKind(text, at, end), at, 0);
                } else if (text[at] >= '0' && text[at] <= '9') {
                    end = endOfRun(text, length, at, '0', '9');
                    addToken(NUMBER, at, numberIn(text, at, end));
                } else if (text[at] != ' ') {
                    addToken(signKind(text[at]), at, 0);
                }
                at = end;
            }
            addToken(END_OF_TEXT, length, 0);
        }

        private void addToken(int kind, int start, int number) {
            if (count < kinds.length) {
                kinds[count] = kind;
                starts[count] = start;
                numbers[count] = number;
                count++;
            }
        }

        /** The end of the run of bytes from first to last that begins at start. */
        private static int endOfRun(byte[] text, int length, int start, char first, char last) {
            int end = start + 1;
            while (end < length && end < text.length && text[end] >= first && text[end] <= last) {
                end++;
            }
            return end;
        }

        private static int numberIn(byte[] text, int start, int end) {
            int number = 0;
            for (int i = start; i < end; i++) {
                number = number * 10 + (text[i] - '0');
                if (number > HUGE) {
                    number = HUGE;
                }
            }
            return number;
        }

        private static int signKind(int sign) {
            switch (sign) {
                case ';':
                    return SEMICOLON;
                case '(':
                    return OPENING;
                case ')':
                    return CLOSING;
                case '+':
                    return PLUS;
                case '-':
                    return MINUS;
                case '*':
                    return TIMES;
                case '/':
                    return OVER;
                default:
                    return BAD_BYTE;
            }
        }

        private static int wordKind(byte[] text, int start, int end) {
            for (int kind = WORD_LINES; kind < UNKNOWN_WORD; kind++) {
                if (isWord(text, start, end, spelling(kind))) {
                    return kind;
                }
            }
            return UNKNOWN_WORD;
        }

        private static boolean isWord(byte[] text, int start, int end, String word) {
            if (end - start != word.length()) {
                return false;
            }
            for (int i = 0; i < word.length(); i++) {
                if (text[start + i] != word.charAt(i)) {
                    return false;
                }
            }
            return true;
        }

        private static String spelling(int kind) {
            switch (kind) {
                case WORD_LINES:
                    return "lines";
                case WORD_HANDLER:
                    return "handler";
                case WORD_LINE:
                    return "line";
                case WORD_RAISE:
                    return "raise";
                case WORD_PATIENCE:
                    return "patience";
                case WORD_WINDOW:
                    return "window";
                case WORD_STORM:
                    return "storm";
                case WORD_PERIOD:
                    return "period";
                case WORD_WAGE:
                    return "wage";
                case WORD_FINE:
                    return "fine";
                case WORD_LEFT:
                    return "left";
                case WORD_HELD:
                    return "held";
                default:
                    return "waited";
            }
        }
    }

    /** Reads the tokens of a setup text into a world, up to the first error. */
    private static final class SetupReader {
        private static final int MOST_DEPTH = 4;
        private static final int MOST_STORM = 999;
        private static final int MOST_OF_OTHER_RULES = 99;
        private static final int MOST_FACTOR = 9999;

        int error;
        int errorAt;
        private Tokens tokens;
        private World world;
        private int at;
        // The latest number that was read.
        private int number;
        // A bit for each kind of statement that may occur once and did.
        private int told;

        /** Tells whether the text has no error; otherwise error and errorAt tell the first one. */
        boolean reads(Tokens itsTokens, World itsWorld) {
            tokens = itsTokens;
            world = itsWorld;
            world.begin();
            at = 0;
            told = 0;
            error = 0;
            errorAt = -1;
            boolean good = takes(WORD_LINES) && takes(SEMICOLON);
            for (int i = 0; i < MOST_BYTES && good && kind() != END_OF_TEXT; i++) {
                good = readsStatement() && takes(SEMICOLON);
            }
            return good;
        }

        private int kind() {
            return at < tokens.count ? tokens.kinds[at] : END_OF_TEXT;
        }

        /** Notes an error at the present token; its answer is that of a reading that failed. */
        private boolean fails(int code) {
            error = code;
            errorAt = at < tokens.count ? tokens.starts[at] : 0;
            return false;
        }

        private boolean takes(int kind) {
            if (kind() != kind) {
                return fails(SYNTAX_ERROR);
            }
            at++;
            return true;
        }

        private boolean readsNumber(int least, int most) {
            if (kind() != NUMBER || at >= tokens.count) {
                return fails(SYNTAX_ERROR);
            }
            number = tokens.numbers[at];
            if (number < least || number > most) {
                return fails(OUT_OF_RANGE);
            }
            at++;
            return true;
        }

        private boolean readsStatement() {
            int kind = kind();
            switch (kind) {
                case WORD_HANDLER:
                    return readsHandler();
                case WORD_LINE:
                    return readsLine();
                case WORD_RAISE:
                    return readsRaise();
                case WORD_PATIENCE:
                case WORD_WINDOW:
                case WORD_STORM:
                case WORD_PERIOD:
                case WORD_WAGE:
                    return beginsOnce(kind) && readsRule(kind);
                case WORD_FINE:
                    return beginsOnce(kind) && readsSum(0);
                default:
                    return fails(SYNTAX_ERROR);
            }
        }

        private boolean beginsOnce(int kind) {
            if ((told & 1 << kind) != 0) {
                return fails(SYNTAX_ERROR);
            }
            told |= 1 << kind;
            at++;
            return true;
        }

        private boolean readsRule(int kind) {
            int least = kind == WORD_STORM || kind == WORD_WAGE ? 0 : 1;
            int most = kind == WORD_STORM ? MOST_STORM : MOST_OF_OTHER_RULES;
            if (!readsNumber(least, most)) {
                return false;
            }
            if (kind == WORD_PATIENCE) {
                world.patience = number;
            } else if (kind == WORD_WINDOW) {
                world.window = number;
            } else if (kind == WORD_STORM) {
                world.storm = number;
            } else if (kind == WORD_PERIOD) {
                world.period = number;
            } else {
                world.wage = number;
            }
            return true;
        }

        private boolean readsHandler() {
            if (world.handlerCount >= MOST_HANDLERS) {
                return fails(TOO_MANY);
            }
            at++;
            if (!readsNumber(0, MOST_COINS)) {
                return false;
            }
            int purse = number;
            if (!readsNumber(1, MOST_SPEED)) {
                return false;
            }
            world.addHandler(purse, number);
            return true;
        }

        private boolean readsLine() {
            if (world.lineCount >= MOST_LINES) {
                return fails(TOO_MANY);
            }
            at++;
            if (!readsNumber(0, MOST_RENT)) {
                return false;
            }
            int rent = number;
            if (!readsNumber(1, MOST_LIMIT)) {
                return false;
            }
            int limit = number;
            if (!readsNumber(0, MOST_COINS)) {
                return false;
            }
            Line line = world.lines[world.lineCount];
            world.addLine(rent, limit, number);
            boolean good = true;
            for (int i = 0; i < MOST_BYTES && good && kind() == NUMBER; i++) {
                good = readsTenant(line);
            }
            return good;
        }

        private boolean readsTenant(Line line) {
            int first = at;
            if (!readsNumber(0, world.handlerCount - 1)) {
                return false;
            }
            boolean repeated = line.placeOf(number) >= 0;
            if (repeated || line.tenantCount >= MOST_TENANTS) {
                at = first;
                return fails(repeated ? REPEATED : TOO_MANY);
            }
            line.addTenant(number);
            return true;
        }

        private boolean readsRaise() {
            if (world.requestCount >= MOST_REQUESTS) {
                return fails(TOO_MANY);
            }
            at++;
            if (!readsNumber(0, world.lineCount - 1)) {
                return false;
            }
            int line = number;
            if (!readsNumber(0, LATEST_TOLD_TIME)) {
                return false;
            }
            int time = number;
            if (!readsNumber(1, MOST_WORK)) {
                return false;
            }
            world.addRequest(line, time, number);
            return true;
        }

        private boolean readsSum(int depth) {
            boolean good = readsTerm(depth);
            for (int i = 0; i < MOST_BYTES && good && (kind() == PLUS || kind() == MINUS); i++) {
                int operator = kind();
                at++;
                good = readsTerm(depth);
                world.fine.addStep(-operator);
            }
            return good;
        }

        private boolean readsTerm(int depth) {
            boolean good = readsFactor(depth);
            for (int i = 0; i < MOST_BYTES && good && (kind() == TIMES || kind() == OVER); i++) {
                int operator = kind();
                at++;
                good = readsFactor(depth);
                world.fine.addStep(-operator);
            }
            return good;
        }

        private boolean readsFactor(int depth) {
            int kind = kind();
            switch (kind) {
                case NUMBER:
                    if (!readsNumber(0, MOST_FACTOR)) {
                        return false;
                    }
                    world.fine.addStep(number);
                    return true;
                case WORD_LINE:
                case WORD_LEFT:
                case WORD_HELD:
                case WORD_WAITED:
                    world.fine.addStep(-kind);
                    at++;
                    return true;
                case OPENING:
                    if (depth >= MOST_DEPTH) {
                        return fails(TOO_DEEP);
                    }
                    at++;
                    return readsSum(depth + 1) && takes(CLOSING);
                default:
                    return fails(SYNTAX_ERROR);
            }
        }
    }
}
