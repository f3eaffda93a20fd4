public final class SwitchDesk {
    public static final int NONE = -1, REFUSED = -1, OUT = 0, DROPPED = 1, REJECTED = 2;

    private static final int WORD = 65535;
    private static final int FIELDS = 28, HEADER_FIELDS = 24, HEADERS = 6, FIELDS_OF_HEADER = 4;
    private static final int INGRESS = 24, EGRESS = 25, QUEUE_CHOICE = 26;
    private static final int MAX_WIDTH = 16;

    // A state is a record in one array: these four numbers, then its cases of three numbers each.
    private static final int STATES = 8, ACCEPT = 8, REJECT = 9, MAX_BEGUN = 12, MAX_CASES = 3;
    private static final int STATE_HEADER = 0, STATE_FIELD = 1, STATE_DEFAULT = 2, STATE_CASES = 3;
    private static final int FIRST_CASE = 4, CASE_SIZE = 3, STATE_SIZE = 13;
    private static final int ALL_STATES = STATES * STATE_SIZE;

    private static final int ACTIONS = 8, MAX_OPERATIONS = 5, OPERATION_SIZE = 3, REGISTERS = 8;
    private static final int ALL_OPERATIONS = ACTIONS * MAX_OPERATIONS * OPERATION_SIZE;

    // The default of a table is kept as a thirteenth entry, so that both kinds are read alike.
    private static final int TABLES = 4, ENTRIES = 12, ROWS = 13, KEYS = 2;
    private static final int EXACT = 0, PREFIX = 1, MASKED = 2;
    private static final int ENTRY_RANK = 0, ENTRY_ACTION = 1, ENTRY_P = 2, ENTRY_Q = 3;
    private static final int ENTRY_TAKEN = 4, ENTRY_SIZE = 5, MAX_RANK = 15;
    private static final int ALL_KEYS = TABLES * KEYS, ALL_ROWS = TABLES * ROWS;
    private static final int ALL_ENTRIES = ALL_ROWS * ENTRY_SIZE, ALL_MATCHES = ALL_ROWS * KEYS;

    private static final int MAX_STEPS = 16, STEP_SIZE = 4, ALL_STEPS = MAX_STEPS * STEP_SIZE;
    private static final int MAX_ORDER = 6, MAX_TIMES = 4, RESULTS = 3;

    private static final int METERS = 4, MAX_RATE = 255, MAX_DEPTH = 1000, MAX_TICKS = 1000;
    private static final int GROUPS = 4, ALL_PORTS = 15;
    private static final int PORTS = 4, QUEUES = 3, QUEUE_LENGTH = 4, ALL_QUEUES = PORTS * QUEUES;
    private static final int FIRST_QUANTUM = 16, MAX_QUANTUM = 32, FIRST_TURN = 2, FIXED_COST = 4;
    // A queue needs at most 20 turns of its own to save up for a packet; this is far above that.
    private static final int MAX_TURNS = 100000;

    // Packets lie in slots: those of the queues first, then four for a purpose each.
    private static final int MAX_BYTES = 16, MAX_BITS = 128;
    private static final int TYPED = 48, PARSED = 49, BUILT = 50, GOT = 51, SLOTS = 52;
    private static final int ALL_BYTES = SLOTS * MAX_BYTES;

    private final int[] fieldWidth = new int[FIELDS];
    private final int[] fieldValue = new int[FIELDS];
    private final boolean[] headerValid = new boolean[HEADERS];

    private final int[] states = new int[ALL_STATES];

    private final int[] operations = new int[ALL_OPERATIONS];
    private final int[] operationCount = new int[ACTIONS];
    private final int[] registers = new int[REGISTERS];

    private final int[] keyField = new int[ALL_KEYS];
    private final int[] keyKind = new int[ALL_KEYS];
    private final boolean[] entryThere = new boolean[ALL_ROWS];
    private final int[] entries = new int[ALL_ENTRIES];
    private final int[] matchValue = new int[ALL_MATCHES];
    private final int[] matchMask = new int[ALL_MATCHES];

    private final int[] steps = new int[ALL_STEPS];
    private int stepCount = 0;
    private final int[] headerOrder = new int[MAX_ORDER];
    private int orderCount = 0;

    private final int[] packetByte = new int[ALL_BYTES];
    private final int[] packetSize = new int[SLOTS];
    private int bitsTaken = 0;
    private int bitsBuilt = 0;
    private boolean dropAsked = false;
    private boolean againAsked = false;

    private boolean latestCameOut = false;
    private int timesParsed = 0;
    private int statesBegun = 0;
    private int stepsDone = 0;
    private final int[] resultCount = new int[RESULTS];

    private final int[] meterRate = new int[METERS];
    private final int[] meterDepth = new int[METERS];
    private final int[] meterTokens = new int[METERS];
    private int tickCount = 0;

    private final int[] groupPorts = new int[GROUPS];
    private final int[] queueCount = new int[ALL_QUEUES];
    private final int[] queueQuantum = new int[ALL_QUEUES];
    private final int[] queueCredit = new int[ALL_QUEUES];
    private final int[] lostCount = new int[PORTS];
    private final int[] turnQueue = new int[PORTS];

    public SwitchDesk() {
        for (int f = HEADER_FIELDS; f < FIELDS; f++) {
            fieldWidth[f] = MAX_WIDTH;
        }
        for (int s = 0; s < STATES; s++) {
            states[s * STATE_SIZE + STATE_HEADER] = NONE;
            states[s * STATE_SIZE + STATE_FIELD] = NONE;
            states[s * STATE_SIZE + STATE_DEFAULT] = ACCEPT;
        }
        for (int t = 0; t < TABLES; t++) {
            keyField[t * KEYS] = INGRESS;
            keyField[t * KEYS + 1] = NONE;
        }
        for (int q = 0; q < ALL_QUEUES; q++) {
            queueQuantum[q] = FIRST_QUANTUM;
        }
        for (int p = 0; p < PORTS; p++) {
            turnQueue[p] = FIRST_TURN;
        }
    }

    // ---- what is set from outside

    public boolean width(int f, int w) {
        if (f < 0 || f >= HEADER_FIELDS || w < 0 || w > MAX_WIDTH) {
            return false;
        }
        fieldWidth[f] = w;
        putField(f, fieldValue[f]);
        return true;
    }

    public boolean state(int s, int header, int field, int goal) {
        boolean numbersFit = s >= 0 && s < STATES
            && header >= NONE && header < HEADERS
            && field >= NONE && field < FIELDS
            && goal >= 0 && goal <= REJECT;
        if (!numbersFit) {
            return false;
        }
        int at = s * STATE_SIZE;
        states[at + STATE_HEADER] = header;
        states[at + STATE_FIELD] = field;
        states[at + STATE_DEFAULT] = goal;
        states[at + STATE_CASES] = 0;
        return true;
    }

    public int branch(int s, int value, int mask, int goal) {
        if (s < 0 || s >= STATES || goal < 0 || goal > REJECT) {
            return REFUSED;
        }
        if (!isWord(value) || !isWord(mask)) {
            return REFUSED;
        }
        int cases = states[s * STATE_SIZE + STATE_CASES];
        if (cases >= MAX_CASES) {
            return REFUSED;
        }
        int at = s * STATE_SIZE + FIRST_CASE + cases * CASE_SIZE;
        states[at] = value;
        states[at + 1] = mask;
        states[at + 2] = goal;
        states[s * STATE_SIZE + STATE_CASES] = cases + 1;
        return cases + 1;
    }

    public int operation(int a, int what, int f, int x) {
        if (a < 0 || a >= ACTIONS || !operationFits(what, f, x)) {
            return REFUSED;
        }
        int had = operationCount[a];
        if (had >= MAX_OPERATIONS) {
            return REFUSED;
        }
        int at = (a * MAX_OPERATIONS + had) * OPERATION_SIZE;
        operations[at] = what;
        operations[at + 1] = f;
        operations[at + 2] = x;
        operationCount[a] = had + 1;
        return had + 1;
    }

    public boolean keys(int t, int f, int kind, int g, int second) {
        if (t < 0 || t >= TABLES || !isField(f) || !isKind(kind)) {
            return false;
        }
        boolean single = g == NONE;
        if (!single && (!isField(g) || !isKind(second))) {
            return false;
        }
        keyField[t * KEYS] = f;
        keyKind[t * KEYS] = kind;
        keyField[t * KEYS + 1] = g;
        keyKind[t * KEYS + 1] = single ? EXACT : second;
        for (int e = 0; e < ENTRIES; e++) {
            entryThere[t * ROWS + e] = false;
        }
        return true;
    }

    public boolean entry(int t, int e, int rank, int action, int p, int q) {
        if (t < 0 || t >= TABLES || e < NONE || e >= ENTRIES) {
            return false;
        }
        if (action < 0 || action >= ACTIONS || !isWord(p) || !isWord(q)) {
            return false;
        }
        if (e != NONE && (rank < 0 || rank > MAX_RANK)) {
            return false;
        }
        int row = rowOf(t, e);
        int at = row * ENTRY_SIZE;
        entries[at + ENTRY_ACTION] = action;
        entries[at + ENTRY_P] = p;
        entries[at + ENTRY_Q] = q;
        if (e != NONE) {
            entryThere[row] = true;
            entries[at + ENTRY_RANK] = rank;
            entries[at + ENTRY_TAKEN] = 0;
            for (int k = 0; k < KEYS; k++) {
                matchValue[row * KEYS + k] = 0;
                matchMask[row * KEYS + k] = 0;
            }
        }
        return true;
    }

    public boolean match(int t, int e, int k, int value, int mask) {
        if (!isEntry(t, e) || k < 0 || k >= KEYS || !isWord(value)) {
            return false;
        }
        if (keyField[t * KEYS + k] == NONE) {
            return false;
        }
        int kind = keyKind[t * KEYS + k];
        if (kind == PREFIX && (mask < 0 || mask > MAX_WIDTH)) {
            return false;
        }
        if (kind == MASKED && !isWord(mask)) {
            return false;
        }
        int at = (t * ROWS + e) * KEYS + k;
        matchValue[at] = value;
        matchMask[at] = mask;
        return true;
    }

    public boolean erase(int t, int e) {
        if (!isEntry(t, e)) {
            return false;
        }
        entryThere[t * ROWS + e] = false;
        return true;
    }

    public int step(int what, int a, int b, int goal) {
        if (stepCount >= MAX_STEPS || !stepFits(what, a, b)) {
            return REFUSED;
        }
        if (what != 1 && (goal <= stepCount || goal > MAX_STEPS)) {
            return REFUSED;
        }
        int at = stepCount * STEP_SIZE;
        steps[at] = what;
        steps[at + 1] = a;
        steps[at + 2] = b;
        steps[at + 3] = goal;
        stepCount++;
        return stepCount - 1;
    }

    public int order(int h) {
        if (!isHeader(h) || orderCount >= MAX_ORDER) {
            return REFUSED;
        }
        headerOrder[orderCount] = h;
        orderCount++;
        return orderCount;
    }

    public int clear(int what, int k) {
        int had = REFUSED;
        if (what == 0 && k >= 0 && k < ACTIONS) {
            had = operationCount[k];
            operationCount[k] = 0;
        } else if (what == 1) {
            had = stepCount;
            stepCount = 0;
        } else if (what == 2) {
            had = orderCount;
            orderCount = 0;
        } else if (what == 3) {
            had = packetSize[TYPED];
            packetSize[TYPED] = 0;
        }
        return had;
    }

    public boolean set(int what, int a, int b, int c) {
        switch (what) {
            case 0: return setMeter(a, b, c);
            case 1: return setGroup(a, b);
            case 2: return setQuantum(a, b, c);
            default: return false;
        }
    }

    // ---- packets, sent and looked at

    public int type(int b) {
        int size = packetSize[TYPED];
        if (size >= MAX_BYTES) {
            return REFUSED;
        }
        packetByte[TYPED * MAX_BYTES + size] = b & 255;
        packetSize[TYPED] = size + 1;
        return size + 1;
    }

    public int send(int port) {
        if (!isWord(port)) {
            return REFUSED;
        }
        for (int f = HEADER_FIELDS; f < FIELDS; f++) {
            fieldValue[f] = 0;
        }
        fieldValue[INGRESS] = port;
        timesParsed = 0;
        statesBegun = 0;
        stepsDone = 0;
        copyPacket(TYPED, PARSED);
        int result = processPacket();
        latestCameOut = result == OUT;
        resultCount[result]++;
        if (latestCameOut) {
            distribute();
        }
        return result;
    }

    public int out(int k) {
        if (!latestCameOut) {
            return NONE;
        }
        if (k == -1) {
            return packetSize[BUILT];
        }
        return byteOf(BUILT, k);
    }

    public int field(int f) {
        return isField(f) ? fieldValue[f] : REFUSED;
    }

    public int last(int what) {
        if (isHeader(what)) {
            return headerValid[what] ? 1 : 0;
        }
        switch (what) {
            case 6: return timesParsed;
            case 7: return statesBegun;
            case 8: return stepsDone;
            default: return NONE;
        }
    }

    public int taken(int t, int e) {
        boolean isDefault = t >= 0 && t < TABLES && e == NONE;
        if (!isDefault && !isEntry(t, e)) {
            return NONE;
        }
        int row = rowOf(t, e);
        return entries[row * ENTRY_SIZE + ENTRY_TAKEN];
    }

    public int register(int x, boolean set, int v) {
        if (x < 0 || x >= REGISTERS) {
            return REFUSED;
        }
        if (set) {
            registers[x] = v & WORD;
        }
        return registers[x];
    }

    public int count(int what) {
        return what >= OUT && what <= REJECTED ? resultCount[what] : NONE;
    }

    // ---- meters and ports

    public int tick(int n) {
        if (n < 0 || n > MAX_TICKS) {
            return REFUSED;
        }
        for (int x = 0; x < METERS; x++) {
            int grown = meterTokens[x] + n * meterRate[x];
            meterTokens[x] = grown > meterDepth[x] ? meterDepth[x] : grown;
        }
        tickCount += n;
        return tickCount;
    }

    public int fetch(int port) {
        if (!isPort(port) || portIsEmpty(port)) {
            return NONE;
        }
        for (int turns = 0; turns < MAX_TURNS; turns++) {
            int queue = port * QUEUES + turnQueue[port];
            int cost = FIXED_COST + packetSize[queue * QUEUE_LENGTH];
            if (queueCount[queue] > 0 && cost <= queueCredit[queue]) {
                queueCredit[queue] -= cost;
                takeFirst(queue);
                return packetSize[GOT];
            }
            passTurn(port);
        }
        return NONE;
    }

    public int got(int k) {
        return byteOf(GOT, k);
    }

    public int port(int p, int what) {
        if (!isPort(p) || what < 0 || what > 7) {
            return NONE;
        }
        if (what < QUEUES) {
            return queueCount[p * QUEUES + what];
        }
        if (what < 2 * QUEUES) {
            return queueCredit[p * QUEUES + what - QUEUES];
        }
        return what == 6 ? lostCount[p] : turnQueue[p];
    }

    public int tokens(int x) {
        return isMeter(x) ? meterTokens[x] : NONE;
    }

    // ---- are numbers as said?

    private static boolean isWord(int v) {
        return v >= 0 && v <= WORD;
    }

    private static boolean isField(int f) {
        return f >= 0 && f < FIELDS;
    }

    private static boolean isHeader(int h) {
        return h >= 0 && h < HEADERS;
    }

    private static boolean isKind(int kind) {
        return kind >= EXACT && kind <= MASKED;
    }

    private static boolean isMeter(int x) {
        return x >= 0 && x < METERS;
    }

    private static boolean isPort(int p) {
        return p >= 0 && p < PORTS;
    }

    private boolean isEntry(int t, int e) {
        return t >= 0 && t < TABLES && e >= 0 && e < ENTRIES && entryThere[t * ROWS + e];
    }

    private static int rowOf(int t, int e) {
        return t * ROWS + (e == NONE ? ENTRIES : e);
    }

    private static boolean operationFits(int what, int f, int x) {
        switch (what) {
            case 0: return isField(f) && isWord(x);
            case 1: return isField(f) && (x == 0 || x == 1);
            case 2: case 3: case 4: case 5: return isField(f) && isField(x);
            case 6: case 7: return isHeader(f);
            case 8: case 9: return true;
            case 10: return isField(f) && isHeader(x);
            case 11: case 12: case 13: return isField(f) && x >= 0 && x < REGISTERS;
            case 14: return isField(f) && isMeter(x);
            default: return false;
        }
    }

    private static boolean stepFits(int what, int a, int b) {
        switch (what) {
            case 0: return a >= 0 && a < TABLES;
            case 1: return a >= 0 && a < ACTIONS && isWord(b);
            case 2: return isField(a) && isWord(b);
            case 3: return isHeader(a);
            case 4: return isField(a) && isField(b);
            case 5: return true;
            default: return false;
        }
    }

    // ---- meters, groups and queues being set

    private boolean setMeter(int x, int rate, int depth) {
        if (!isMeter(x) || rate < 0 || rate > MAX_RATE || depth < 0 || depth > MAX_DEPTH) {
            return false;
        }
        meterRate[x] = rate;
        meterDepth[x] = depth;
        meterTokens[x] = depth;
        return true;
    }

    private boolean setGroup(int group, int ports) {
        if (group < 0 || group >= GROUPS || ports < 0 || ports > ALL_PORTS) {
            return false;
        }
        groupPorts[group] = ports;
        return true;
    }

    private boolean setQuantum(int p, int queue, int quantum) {
        if (!isPort(p) || queue < 0 || queue >= QUEUES || quantum < 1 || quantum > MAX_QUANTUM) {
            return false;
        }
        queueQuantum[p * QUEUES + queue] = quantum;
        return true;
    }

    // ---- the way of a packet

    private int processPacket() {
        for (int time = 0; time < MAX_TIMES; time++) {
            if (!parsePacket()) {
                return REJECTED;
            }
            doSteps();
            if (dropAsked) {
                return DROPPED;
            }
            buildPacket();
            if (bitsBuilt > MAX_BITS) {
                return DROPPED;
            }
            if (!againAsked) {
                return OUT;
            }
            copyPacket(BUILT, PARSED);
        }
        return DROPPED;
    }

    private boolean parsePacket() {
        timesParsed++;
        bitsTaken = 0;
        for (int f = 0; f < HEADER_FIELDS; f++) {
            fieldValue[f] = 0;
        }
        for (int h = 0; h < HEADERS; h++) {
            headerValid[h] = false;
        }
        int goal = 0;
        for (int begun = 0; begun < MAX_BEGUN && goal < STATES; begun++) {
            statesBegun++;
            boolean enough = takeHeader(states[goal * STATE_SIZE + STATE_HEADER]);
            goal = enough ? goalOf(goal) : REJECT;
        }
        return goal == ACCEPT;
    }

    private boolean takeHeader(int h) {
        if (h == NONE) {
            return true;
        }
        int first = h * FIELDS_OF_HEADER;
        int bits = 0;
        for (int f = first; f < first + FIELDS_OF_HEADER; f++) {
            bits += fieldWidth[f];
        }
        if (bitsTaken + bits > packetSize[PARSED] * 8) {
            return false;
        }
        for (int f = first; f < first + FIELDS_OF_HEADER; f++) {
            fieldValue[f] = takeBits(fieldWidth[f]);
        }
        headerValid[h] = true;
        return true;
    }

    private int takeBits(int bits) {
        int value = 0;
        for (int i = 0; i < bits; i++) {
            int bit = bitOf(PARSED, bitsTaken);
            value = value * 2 + bit;
            bitsTaken++;
        }
        return value;
    }

    private int goalOf(int s) {
        int at = s * STATE_SIZE;
        int looked = states[at + STATE_FIELD];
        int cases = looked == NONE ? 0 : states[at + STATE_CASES];
        for (int c = 0; c < cases; c++) {
            int one = at + FIRST_CASE + c * CASE_SIZE;
            if (alike(fieldValue[looked], states[one], states[one + 1])) {
                return states[one + 2];
            }
        }
        return states[at + STATE_DEFAULT];
    }

    private static boolean alike(int value, int other, int mask) {
        return ((value ^ other) & mask) == 0;
    }

    // Every goal lies ahead, so one walk over the numbers meets all steps that are to be done.
    private void doSteps() {
        dropAsked = false;
        againAsked = false;
        int next = 0;
        for (int n = 0; n < stepCount; n++) {
            if (n < next) {
                continue;
            }
            stepsDone++;
            int a = steps[n * STEP_SIZE + 1];
            int b = steps[n * STEP_SIZE + 2];
            boolean jumps = false;
            switch (steps[n * STEP_SIZE]) {
                case 0:
                    int e = chooseEntry(a);
                    int at = rowOf(a, e) * ENTRY_SIZE;
                    entries[at + ENTRY_TAKEN]++;
                    doAction(entries[at + ENTRY_ACTION], entries[at + ENTRY_P], entries[at + ENTRY_Q]);
                    jumps = e == NONE;
                    break;
                case 1: doAction(a, b, 0); break;
                case 2: jumps = fieldValue[a] != b; break;
                case 3: jumps = !headerValid[a]; break;
                case 4: jumps = fieldValue[a] >= fieldValue[b]; break;
                default: jumps = true;
            }
            next = jumps ? steps[n * STEP_SIZE + 3] : n + 1;
        }
    }

    private int chooseEntry(int t) {
        int chosen = NONE;
        int bestRank = NONE;
        int bestOnes = NONE;
        for (int e = 0; e < ENTRIES; e++) {
            int row = t * ROWS + e;
            int ones = entryThere[row] ? prefixOnesIfFits(t, row) : NONE;
            int rank = entries[row * ENTRY_SIZE + ENTRY_RANK];
            boolean better = rank > bestRank || rank == bestRank && ones > bestOnes;
            if (ones != NONE && better) {
                chosen = e;
                bestRank = rank;
                bestOnes = ones;
            }
        }
        return chosen;
    }

    // The mask of a prefix is made anew each time, as the width of its field may have changed.
    private int prefixOnesIfFits(int t, int row) {
        int ones = 0;
        for (int k = 0; k < KEYS; k++) {
            int f = keyField[t * KEYS + k];
            int kind = keyKind[t * KEYS + k];
            if (f == NONE) {
                continue;
            }
            int mask = WORD;
            if (kind == MASKED) {
                mask = matchMask[row * KEYS + k];
            } else if (kind == PREFIX) {
                int n = matchMask[row * KEYS + k];
                int length = n > fieldWidth[f] ? fieldWidth[f] : n;
                mask = ((1 << length) - 1) << (fieldWidth[f] - length);
                ones += length;
            }
            if (!alike(fieldValue[f], matchValue[row * KEYS + k], mask)) {
                return NONE;
            }
        }
        return ones;
    }

    private void doAction(int a, int p, int q) {
        int number = operationCount[a];
        for (int i = 0; i < number; i++) {
            int at = (a * MAX_OPERATIONS + i) * OPERATION_SIZE;
            int f = operations[at + 1];
            int x = operations[at + 2];
            switch (operations[at]) {
                case 1: putField(f, x == 0 ? p : q); break;
                case 6: addHeader(f); break;
                case 7: headerValid[f] = false; break;
                case 8: dropAsked = true; break;
                case 9: againAsked = true; break;
                case 12: registers[x] = fieldValue[f]; break;
                default: compute(operations[at], f, x);
            }
        }
    }

    private void addHeader(int h) {
        if (headerValid[h]) {
            return;
        }
        headerValid[h] = true;
        for (int i = 0; i < FIELDS_OF_HEADER; i++) {
            fieldValue[h * FIELDS_OF_HEADER + i] = 0;
        }
    }

    private void compute(int what, int f, int x) {
        int value = 0;
        switch (what) {
            case 0: value = x; break;
            case 2: value = fieldValue[x]; break;
            case 3: value = fieldValue[f] + fieldValue[x]; break;
            case 4: value = fieldValue[f] - fieldValue[x]; break;
            case 5: value = fieldValue[f] ^ fieldValue[x]; break;
            case 10: value = sumWithout(x, f); break;
            case 11: value = registers[x]; break;
            case 13:
                registers[x] = (registers[x] + fieldValue[f]) & WORD;
                value = registers[x];
                break;
            default: value = measure(x);
        }
        putField(f, value);
    }

    private void putField(int f, int value) {
        fieldValue[f] = value & ((1 << fieldWidth[f]) - 1);
    }

    // A header has at most 64 bits, so that all of them are held by one long.
    private int sumWithout(int h, int without) {
        long bits = 0;
        int length = 0;
        for (int i = 0; i < FIELDS_OF_HEADER; i++) {
            int f = h * FIELDS_OF_HEADER + i;
            bits = (bits << fieldWidth[f]) | (f == without ? 0 : fieldValue[f]);
            length += fieldWidth[f];
        }
        bits <<= (16 - length % 16) % 16;
        int sum = 0;
        for (int shift = 0; shift < 64; shift += 16) {
            sum += (int) ((bits >>> shift) & WORD);
        }
        // Four numbers of 16 bits make a sum whose upper part is gone after two foldings.
        for (int i = 0; i < 4; i++) {
            sum = sum / 65536 + sum % 65536;
        }
        return WORD - sum;
    }

    private int measure(int x) {
        if (meterTokens[x] < packetSize[PARSED]) {
            return 1;
        }
        meterTokens[x] -= packetSize[PARSED];
        return 0;
    }

    private void buildPacket() {
        bitsBuilt = 0;
        for (int i = 0; i < MAX_BYTES; i++) {
            packetByte[BUILT * MAX_BYTES + i] = 0;
        }
        for (int i = 0; i < orderCount; i++) {
            int h = headerOrder[i];
            if (headerValid[h]) {
                appendHeader(h);
            }
        }
        int bits = packetSize[PARSED] * 8;
        for (int i = bitsTaken; i < bits; i++) {
            int bit = bitOf(PARSED, i);
            appendBit(bit);
        }
        packetSize[BUILT] = bitsBuilt > MAX_BITS ? 0 : (bitsBuilt + 7) / 8;
    }

    private void appendHeader(int h) {
        for (int i = 0; i < FIELDS_OF_HEADER; i++) {
            int f = h * FIELDS_OF_HEADER + i;
            for (int shift = fieldWidth[f] - 1; shift >= 0; shift--) {
                appendBit((fieldValue[f] >> shift) & 1);
            }
        }
    }

    // Bits beyond the room are counted all the same: that tells that the packet is too long.
    private void appendBit(int bit) {
        if (bitsBuilt < MAX_BITS) {
            packetByte[BUILT * MAX_BYTES + bitsBuilt / 8] |= bit << (7 - bitsBuilt % 8);
        }
        bitsBuilt++;
    }

    // ---- slots of packets

    private int bitOf(int slot, int i) {
        return (packetByte[slot * MAX_BYTES + i / 8] >> (7 - i % 8)) & 1;
    }

    private int byteOf(int slot, int k) {
        return k >= 0 && k < packetSize[slot] ? packetByte[slot * MAX_BYTES + k] : NONE;
    }

    private void copyPacket(int from, int to) {
        int size = packetSize[from];
        packetSize[to] = size;
        for (int i = 0; i < size; i++) {
            packetByte[to * MAX_BYTES + i] = packetByte[from * MAX_BYTES + i];
        }
    }

    // ---- queues

    private void distribute() {
        int goal = fieldValue[EGRESS];
        for (int p = 0; p < PORTS; p++) {
            boolean inGroup = goal >= PORTS && goal < PORTS + GROUPS
                && ((groupPorts[goal - PORTS] >> p) & 1) == 1;
            if (goal == p || inGroup) {
                enqueue(p, fieldValue[QUEUE_CHOICE] % QUEUES);
            }
        }
    }

    private void enqueue(int p, int choice) {
        int queue = p * QUEUES + choice;
        if (queueCount[queue] >= QUEUE_LENGTH) {
            lostCount[p]++;
            return;
        }
        copyPacket(BUILT, queue * QUEUE_LENGTH + queueCount[queue]);
        queueCount[queue]++;
    }

    private boolean portIsEmpty(int p) {
        int packets = 0;
        for (int i = 0; i < QUEUES; i++) {
            packets += queueCount[p * QUEUES + i];
        }
        return packets == 0;
    }

    private void takeFirst(int queue) {
        int first = queue * QUEUE_LENGTH;
        copyPacket(first, GOT);
        int left = queueCount[queue] - 1;
        for (int i = 0; i < left; i++) {
            copyPacket(first + i + 1, first + i);
        }
        queueCount[queue] = left;
    }

    private void passTurn(int p) {
        int old = p * QUEUES + turnQueue[p];
        if (queueCount[old] == 0) {
            queueCredit[old] = 0;
        }
        turnQueue[p] = (turnQueue[p] + 1) % QUEUES;
        int queue = p * QUEUES + turnQueue[p];
        queueCredit[queue] += queueQuantum[queue];
    }
}
