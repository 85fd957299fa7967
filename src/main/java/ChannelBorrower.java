import java.util.Arrays;

/** A simulator for channel borrowing in a cellular network. README.md says how it is used. */
public final class ChannelBorrower {
    public static final int INVALID_ARGUMENT = -1;
    public static final int ILLEGAL_STATE = -2;
    public static final int CAPACITY_EXCEEDED = -3;
    public static final int NO_SUCH_CALL = -4;
    public static final int NONE = -9;

    private static final int MAX_ROWS = 5;
    private static final int MAX_COLUMNS = 5;
    private static final int MAX_CELLS = 25;
    private static final int MAX_GROUP_SIZE = 4;
    private static final int MAX_CALLS = 60;
    private static final int MAX_RESERVE = 3;
    private static final int MAX_SAVED_STATES = 6;
    private static final int SLOTS = 2;

    private static final int MAX_CHARACTER = 255;
    private static final int MAX_TEXT = 100;
    // The shortest command, such as s5; has three characters.
    private static final int MAX_COMMANDS = 33;
    private static final int SCRIPT_ERROR = -10;

    private static final int RICHEST_DONOR = 0;
    private static final int LEAST_BURDEN = 2;
    // Worse than the rank of any offer, as a burden is less than the number of cells.
    private static final int NO_OFFER = MAX_CELLS;

    private final Network network;
    private final History history;
    private final Network[] snapshots;
    private final Script script;

    public ChannelBorrower() {
        Layout layout = new Layout(3, 4, 2, 2);
        network = new Network(layout);
        history = new History(layout);
        snapshots = new Network[SLOTS];
        script = new Script();
    }

    // ---- configuration

    public int configure(int rows, int columns, int reuseDistance, int groupSize) {
        boolean possible = isBetween(rows, 1, MAX_ROWS) && isBetween(columns, 1, MAX_COLUMNS)
                && isBetween(reuseDistance, 2, 3) && isBetween(groupSize, 1, MAX_GROUP_SIZE);
        if (!possible) {
            return INVALID_ARGUMENT;
        }
        history.push(network);
        network.begin(new Layout(rows, columns, reuseDistance, groupSize));
        return network.layout.channels;
    }

    public int setStrategy(int strategy) {
        if (!isBetween(strategy, RICHEST_DONOR, LEAST_BURDEN)) {
            return INVALID_ARGUMENT;
        }
        history.push(network);
        int previous = network.strategy;
        network.strategy = strategy;
        return previous;
    }

    public int setReserve(int reserve) {
        if (!isBetween(reserve, 0, MAX_RESERVE)) {
            return INVALID_ARGUMENT;
        }
        history.push(network);
        int previous = network.reserve;
        network.reserve = reserve;
        return previous;
    }

    public int setReturning(int on) {
        if (!isBetween(on, 0, 1)) {
            return INVALID_ARGUMENT;
        }
        history.push(network);
        network.returning = on == 1;
        return network.returnCalls();
    }

    public int cellCount() {
        return network.layout.cells;
    }

    public int channelCount() {
        return network.layout.channels;
    }

    public int groupOf(int cell) {
        return isCell(cell) ? network.layout.groupAt(cell) : INVALID_ARGUMENT;
    }

    public int distance(int a, int b) {
        return isCell(a) && isCell(b) ? network.layout.separation(a, b) : INVALID_ARGUMENT;
    }

    // ---- calls

    public int startCall(int cell) {
        int error = network.startError(cell);
        if (error != 0) {
            return error;
        }
        history.push(network);
        return network.start(cell);
    }

    public int endCall(int call) {
        if (!network.isPresent(call)) {
            return NO_SUCH_CALL;
        }
        history.push(network);
        return network.end(call);
    }

    public int handOver(int call, int cell) {
        int error = network.moveError(call, cell);
        if (error != 0) {
            return error;
        }
        history.push(network);
        return network.move(call, cell);
    }

    public int cellOf(int call) {
        return network.isPresent(call) ? network.cellAt(call) : NO_SUCH_CALL;
    }

    public int channelOf(int call) {
        return network.isPresent(call) ? network.channelAt(call) : NO_SUCH_CALL;
    }

    public int isBorrowed(int call) {
        return network.isPresent(call) ? asNumber(network.borrows(call)) : NO_SUCH_CALL;
    }

    public int isInFixedScheme(int call) {
        return network.isPresent(call) ? asNumber(network.isFixed(call)) : NO_SUCH_CALL;
    }

    // ---- channels

    public int isAvailable(int cell, int channel) {
        if (!isCell(cell) || !isChannel(channel)) {
            return INVALID_ARGUMENT;
        }
        return asNumber(contains(network.availableIn(cell), channel));
    }

    public int lockCount(int cell, int channel) {
        if (!isCell(cell) || !isChannel(channel)) {
            return INVALID_ARGUMENT;
        }
        return network.lockers(cell, channel);
    }

    public int burden(int cell, int channel) {
        if (!isCell(cell) || !isChannel(channel)) {
            return INVALID_ARGUMENT;
        }
        return network.layout.burdenIn(cell, channel);
    }

    public int availableCount(int cell) {
        return isCell(cell) ? Integer.bitCount(network.availableNominals(cell)) : INVALID_ARGUMENT;
    }

    public int usedCount(int cell) {
        return isCell(cell) ? Integer.bitCount(network.usedIn(cell)) : INVALID_ARGUMENT;
    }

    public int lockedCount(int cell) {
        if (!isCell(cell)) {
            return INVALID_ARGUMENT;
        }
        // What a cell neither uses nor finds available is locked in it.
        int notLocked = network.usedIn(cell) | network.availableIn(cell);
        return Integer.bitCount(network.layout.nominalsOf(cell) & ~notLocked);
    }

    public int nextChannel(int cell) {
        return isCell(cell) ? network.chooseChannel(cell) : INVALID_ARGUMENT;
    }

    public int nextDonor(int cell) {
        return isCell(cell) ? network.chooseDonor(cell) : INVALID_ARGUMENT;
    }

    public int blockingCells() {
        int count = 0;
        for (int cell = 0; cell < network.layout.cells; cell++) {
            if (network.chooseChannel(cell) == NONE) {
                count++;
            }
        }
        return count;
    }

    // ---- counts since the network was made

    public int callCount() {
        return network.presentCalls();
    }

    public int attempts() {
        return network.attempts;
    }

    public int blocked() {
        return network.blocked;
    }

    public int blockedInFixedScheme() {
        return network.blockedInFixed;
    }

    public int dropped() {
        return network.dropped;
    }

    public int droppedInFixedScheme() {
        return network.droppedInFixed;
    }

    public int borrowings() {
        return network.borrowings;
    }

    public int returns() {
        return network.returnSteps;
    }

    // ---- scripts

    public int appendCharacter(int character) {
        if (!isBetween(character, 0, MAX_CHARACTER)) {
            return INVALID_ARGUMENT;
        }
        return script.append(character) ? script.length : CAPACITY_EXCEEDED;
    }

    public int clearText() {
        int previous = script.length;
        script.length = 0;
        return previous;
    }

    public int runScript() {
        if (!script.read()) {
            return SCRIPT_ERROR - script.position;
        }
        history.push(network);
        int executed = 0;
        for (int number = 0; number < script.commands && number < MAX_COMMANDS; number++) {
            int letter = script.letters[number];
            int first = script.firsts[number];
            int second = script.seconds[number];
            if (commandError(letter, first, second) == 0) {
                executed++;
                switch (letter) {
                    case 's':
                        network.start(first);
                        break;
                    case 'e':
                        network.end(first);
                        break;
                    default:
                        network.move(first, second);
                        break;
                }
            }
        }
        script.length = 0;
        return executed;
    }

    // ---- undo and snapshots

    public int undo() {
        return history.pop(network) ? history.count : ILLEGAL_STATE;
    }

    public int save(int slot) {
        if (!isBetween(slot, 0, SLOTS - 1)) {
            return INVALID_ARGUMENT;
        }
        Network snapshot = snapshots[slot];
        if (snapshot == null) {
            snapshot = new Network(network.layout);
            snapshots[slot] = snapshot;
        }
        snapshot.copyFrom(network);
        return network.presentCalls();
    }

    public int restore(int slot) {
        if (!isBetween(slot, 0, SLOTS - 1)) {
            return INVALID_ARGUMENT;
        }
        Network snapshot = snapshots[slot];
        if (snapshot == null) {
            return ILLEGAL_STATE;
        }
        network.copyFrom(snapshot);
        history.count = 0;
        return network.presentCalls();
    }

    // ---- what the methods above share

    private boolean isCell(int cell) {
        return network.layout.hasCell(cell);
    }

    private boolean isChannel(int channel) {
        return isBetween(channel, 0, network.layout.channels - 1);
    }

    /** The error code that the method of a command would return, or 0. */
    private int commandError(int letter, int first, int second) {
        switch (letter) {
            case 's':
                return network.startError(first);
            case 'e':
                return network.isPresent(first) ? 0 : NO_SUCH_CALL;
            default:
                return network.moveError(first, second);
        }
    }

    private static boolean isBetween(int value, int least, int greatest) {
        return value >= least && value <= greatest;
    }

    private static int asNumber(boolean answer) {
        return answer ? 1 : 0;
    }

    /** Sets of cells and of channels are the bits of an int: there are at most 25 and 28. */
    private static boolean contains(int set, int element) {
        return ((set >> element) & 1) != 0;
    }

    /** The cells and their nominal channels. It never changes, so states can share it. */
    private static final class Layout {
        final int cells;
        final int channels;
        final int groupSize;
        private final int[] row = new int[MAX_CELLS];
        private final int[] column = new int[MAX_CELLS];
        private final int[] group = new int[MAX_CELLS];
        private final int[] nominals = new int[MAX_CELLS];
        private final int[] nearCells = new int[MAX_CELLS];

        Layout(int rows, int columns, int reuseDistance, int groupSize) {
            int groups = reuseDistance == 2 ? 3 : 7;
            this.cells = rows * columns;
            this.channels = groups * groupSize;
            this.groupSize = groupSize;
            placeCells(columns, reuseDistance);
            for (int cell = 0; cell < cells && cell < MAX_CELLS; cell++) {
                nominals[cell] = channelsOfGroup(group[cell], groups);
                nearCells[cell] = cellsWithin(cell, reuseDistance);
            }
        }

        private void placeCells(int columns, int reuseDistance) {
            int r = 0;
            int c = 0;
            for (int cell = 0; cell < cells && cell < MAX_CELLS; cell++) {
                row[cell] = r;
                column[cell] = c;
                group[cell] = reuseDistance == 2 ? (r + 2 * c) % 3 : (r + 3 * c) % 7;
                c++;
                if (c == columns) {
                    c = 0;
                    r++;
                }
            }
        }

        private int channelsOfGroup(int first, int groups) {
            int set = 0;
            for (int member = 0; member < groupSize; member++) {
                set |= 1 << (first + member * groups);
            }
            return set;
        }

        private int cellsWithin(int cell, int reuseDistance) {
            int set = 0;
            for (int other = 0; other < cells; other++) {
                if (other != cell && separation(cell, other) < reuseDistance) {
                    set |= 1 << other;
                }
            }
            return set;
        }

        boolean hasCell(int cell) {
            return cell >= 0 && cell < cells && cell < MAX_CELLS;
        }

        int groupAt(int cell) {
            return cell >= 0 && cell < MAX_CELLS ? group[cell] : 0;
        }

        int nominalsOf(int cell) {
            return cell >= 0 && cell < MAX_CELLS ? nominals[cell] : 0;
        }

        /** The other cells with a distance less than the reuse distance. */
        int near(int cell) {
            return cell >= 0 && cell < MAX_CELLS ? nearCells[cell] : 0;
        }

        int separation(int a, int b) {
            if (!hasCell(a) || !hasCell(b)) {
                return 0;
            }
            int dr = row[a] - row[b];
            int dc = column[a] - column[b];
            return Math.max(Math.abs(dr + dc), Math.max(Math.abs(dr), Math.abs(dc)));
        }

        int burdenIn(int cell, int channel) {
            int near = near(cell);
            int count = 0;
            for (int other = 0; other < MAX_CELLS; other++) {
                if (contains(near, other) && contains(nominals[other], channel)) {
                    count++;
                }
            }
            return count;
        }
    }

    /** The state: the settings, the calls in the network and in the fixed scheme, the counts. */
    private static final class Network {
        Layout layout;
        int strategy;
        int reserve;
        boolean returning = true;
        int attempts;
        int blocked;
        int blockedInFixed;
        int dropped;
        int droppedInFixed;
        int borrowings;
        int returnSteps;
        private final int[] callCell = new int[MAX_CALLS];
        private final int[] callChannel = new int[MAX_CALLS];
        private final int[] callFixed = new int[MAX_CALLS];
        // The channels that the calls of each cell have, kept so that not all calls need be asked.
        private final int[] used = new int[MAX_CELLS];

        Network(Layout layout) {
            begin(layout);
        }

        void begin(Layout newLayout) {
            layout = newLayout;
            attempts = 0;
            blocked = 0;
            blockedInFixed = 0;
            dropped = 0;
            droppedInFixed = 0;
            borrowings = 0;
            returnSteps = 0;
            Arrays.fill(callCell, 0);
            Arrays.fill(callChannel, NONE);
            Arrays.fill(callFixed, 0);
            Arrays.fill(used, 0);
        }

        void copyFrom(Network other) {
            layout = other.layout;
            strategy = other.strategy;
            reserve = other.reserve;
            returning = other.returning;
            attempts = other.attempts;
            blocked = other.blocked;
            blockedInFixed = other.blockedInFixed;
            dropped = other.dropped;
            droppedInFixed = other.droppedInFixed;
            borrowings = other.borrowings;
            returnSteps = other.returnSteps;
            System.arraycopy(other.callCell, 0, callCell, 0, MAX_CALLS);
            System.arraycopy(other.callChannel, 0, callChannel, 0, MAX_CALLS);
            System.arraycopy(other.callFixed, 0, callFixed, 0, MAX_CALLS);
            System.arraycopy(other.used, 0, used, 0, MAX_CELLS);
        }

        // ---- the calls

        boolean isPresent(int call) {
            return call >= 0 && call < MAX_CALLS
                    && (callChannel[call] != NONE || callFixed[call] == 1);
        }

        int cellAt(int call) {
            return isPresent(call) ? callCell[call] : NONE;
        }

        int channelAt(int call) {
            return isPresent(call) ? callChannel[call] : NONE;
        }

        boolean isFixed(int call) {
            return isPresent(call) && callFixed[call] == 1;
        }

        boolean borrows(int call) {
            int channel = channelAt(call);
            return channel != NONE && !isNominal(cellAt(call), channel);
        }

        int presentCalls() {
            int count = 0;
            for (int call = 0; call < MAX_CALLS; call++) {
                if (isPresent(call)) {
                    count++;
                }
            }
            return count;
        }

        private int lowestFreeNumber() {
            for (int call = 0; call < MAX_CALLS; call++) {
                if (!isPresent(call)) {
                    return call;
                }
            }
            return NONE;
        }

        /** The error code that starting a call in the cell would return, or 0. */
        int startError(int cell) {
            if (!layout.hasCell(cell)) {
                return INVALID_ARGUMENT;
            }
            return lowestFreeNumber() == NONE ? CAPACITY_EXCEEDED : 0;
        }

        int start(int cell) {
            int channel = chooseChannel(cell);
            boolean accepted = fixedAccepts(cell);
            attempts++;
            if (channel == NONE) {
                blocked++;
            }
            if (!accepted) {
                blockedInFixed++;
            }
            int call = lowestFreeNumber();
            if (!isBetween(call, 0, MAX_CALLS - 1) || channel == NONE && !accepted) {
                return NONE;
            }
            callFixed[call] = asNumber(accepted);
            place(call, cell, channel);
            return call;
        }

        int end(int call) {
            int channel = channelAt(call);
            release(call);
            if (isPresent(call)) {
                callFixed[call] = 0;
            }
            returnCalls();
            return channel;
        }

        /** The error code that handing the call over to the cell would return, or 0. */
        int moveError(int call, int cell) {
            if (!isPresent(call)) {
                return NO_SUCH_CALL;
            }
            boolean neighbour = layout.hasCell(cell) && layout.separation(callCell[call], cell) == 1;
            return neighbour ? 0 : INVALID_ARGUMENT;
        }

        int move(int call, int cell) {
            if (!isPresent(call)) {
                return NONE;
            }
            if (callFixed[call] == 1 && !fixedAccepts(cell)) {
                callFixed[call] = 0;
                droppedInFixed++;
            }
            // The old channel is released only behind the choice, which is made while it is in use.
            int channel = NONE;
            if (callChannel[call] != NONE) {
                channel = chooseChannel(cell);
                release(call);
                if (channel == NONE) {
                    dropped++;
                }
            }
            place(call, cell, channel);
            returnCalls();
            return channel;
        }

        /** Puts a call that has no channel into a cell, and gives it a channel or NONE. */
        private void place(int call, int cell, int channel) {
            if (isBetween(call, 0, MAX_CALLS - 1)) {
                callCell[call] = cell;
                occupy(call, channel);
                if (borrows(call)) {
                    borrowings++;
                }
            }
        }

        private void occupy(int call, int channel) {
            int cell = isBetween(call, 0, MAX_CALLS - 1) ? callCell[call] : NONE;
            if (channel != NONE && layout.hasCell(cell)) {
                callChannel[call] = channel;
                used[cell] |= 1 << channel;
            }
        }

        private void release(int call) {
            if (!isPresent(call) || callChannel[call] == NONE) {
                return;
            }
            int cell = callCell[call];
            if (layout.hasCell(cell)) {
                used[cell] &= ~(1 << callChannel[call]);
                callChannel[call] = NONE;
            }
        }

        private boolean fixedAccepts(int cell) {
            int carried = 0;
            for (int call = 0; call < MAX_CALLS; call++) {
                if (callFixed[call] == 1 && callCell[call] == cell) {
                    carried++;
                }
            }
            return carried < layout.groupSize;
        }

        // ---- the returning pass

        /** Makes a returning pass, if returning is on, and tells how many steps it had. */
        int returnCalls() {
            if (!returning) {
                return 0;
            }
            int steps = 0;
            // Each step leaves one borrowed call less, so there are no more steps than calls.
            for (int turn = 0; turn < MAX_CALLS; turn++) {
                int call = nextToReturn();
                if (call == NONE) {
                    break;
                }
                int channel = lowestOf(availableNominals(cellAt(call)));
                release(call);
                occupy(call, channel);
                steps++;
            }
            returnSteps += steps;
            return steps;
        }

        private int nextToReturn() {
            int best = NONE;
            int bestBurden = 0;
            for (int call = 0; call < MAX_CALLS; call++) {
                if (borrows(call) && availableNominals(cellAt(call)) != 0) {
                    int burden = layout.burdenIn(cellAt(call), channelAt(call));
                    if (best == NONE || burden > bestBurden) {
                        best = call;
                        bestBurden = burden;
                    }
                }
            }
            return best;
        }

        // ---- the channels

        boolean isNominal(int cell, int channel) {
            return contains(layout.nominalsOf(cell), channel);
        }

        int usedIn(int cell) {
            return cell >= 0 && cell < MAX_CELLS ? used[cell] : 0;
        }

        int availableIn(int cell) {
            int taken = usedIn(cell);
            int near = layout.near(cell);
            for (int other = 0; other < MAX_CELLS; other++) {
                if (contains(near, other)) {
                    taken |= used[other];
                }
            }
            return ((1 << layout.channels) - 1) & ~taken;
        }

        int availableNominals(int cell) {
            return availableIn(cell) & layout.nominalsOf(cell);
        }

        int lockers(int cell, int channel) {
            int near = layout.near(cell);
            int count = 0;
            for (int other = 0; other < MAX_CELLS; other++) {
                if (contains(near, other) && contains(used[other], channel)) {
                    count++;
                }
            }
            return count;
        }

        /** The channel for a call in the cell, or NONE. */
        int chooseChannel(int cell) {
            int available = availableIn(cell);
            int nominals = available & layout.nominalsOf(cell);
            if (nominals != 0) {
                return lowestOf(nominals);
            }
            int donor = bestDonor(cell, available);
            return donor == NONE ? NONE : greatestOf(available & layout.nominalsOf(donor));
        }

        /** The cell from which a call in the cell would borrow its channel, or NONE. */
        int chooseDonor(int cell) {
            int available = availableIn(cell);
            boolean nominal = (available & layout.nominalsOf(cell)) != 0;
            return nominal ? NONE : bestDonor(cell, available);
        }

        private int bestDonor(int cell, int available) {
            int best = NONE;
            int bestRank = NO_OFFER;
            for (int donor = 0; donor < layout.cells; donor++) {
                boolean neighbour = layout.separation(cell, donor) == 1;
                if (neighbour && (available & layout.nominalsOf(donor)) != 0) {
                    int spare = Integer.bitCount(availableNominals(donor));
                    int rank = spare > reserve ? rankOf(donor, spare, cell) : NO_OFFER;
                    // An equal rank does not count: the donor found before has the lower number.
                    if (rank < bestRank) {
                        best = donor;
                        bestRank = rank;
                    }
                }
            }
            return best;
        }

        /** The lowest rank is the best. All offers of a donor are of one group, so of one rank. */
        private int rankOf(int donor, int spare, int cell) {
            switch (strategy) {
                case RICHEST_DONOR:
                    return -spare;
                case LEAST_BURDEN:
                    // The first channel of a group has the number of the group.
                    return layout.burdenIn(cell, layout.groupAt(donor));
                default:
                    return 0;
            }
        }

        private int lowestOf(int set) {
            for (int channel = 0; channel < layout.channels; channel++) {
                if (contains(set, channel)) {
                    return channel;
                }
            }
            return NONE;
        }

        private int greatestOf(int set) {
            for (int channel = layout.channels - 1; channel >= 0; channel--) {
                if (contains(set, channel)) {
                    return channel;
                }
            }
            return NONE;
        }
    }

    /** The states that can be undone: a ring, in which a new state takes the oldest one's place. */
    private static final class History {
        int count;
        private int newest;
        private final Network[] states = new Network[MAX_SAVED_STATES];

        History(Layout layout) {
            for (int place = 0; place < MAX_SAVED_STATES; place++) {
                states[place] = new Network(layout);
            }
        }

        void push(Network network) {
            newest = newest + 1 < MAX_SAVED_STATES ? newest + 1 : 0;
            Network state = newestState();
            if (state != null) {
                state.copyFrom(network);
                count = Math.min(count + 1, MAX_SAVED_STATES);
            }
        }

        /** Puts the newest state into the network; false if there is none. */
        boolean pop(Network network) {
            Network state = newestState();
            if (count <= 0 || state == null) {
                return false;
            }
            network.copyFrom(state);
            count--;
            newest = newest > 0 ? newest - 1 : MAX_SAVED_STATES - 1;
            return true;
        }

        private Network newestState() {
            return isBetween(newest, 0, MAX_SAVED_STATES - 1) ? states[newest] : null;
        }
    }

    /** The text, and the commands that were read from it. */
    private static final class Script {
        int length;
        // Where reading stands; after a failure it is the error position.
        int position;
        int commands;
        final int[] letters = new int[MAX_COMMANDS];
        final int[] firsts = new int[MAX_COMMANDS];
        final int[] seconds = new int[MAX_COMMANDS];
        private final int[] text = new int[MAX_TEXT];

        boolean append(int character) {
            if (!isBetween(length, 0, MAX_TEXT - 1)) {
                return false;
            }
            text[length] = character;
            length++;
            return true;
        }

        /** Reads the whole text into the commands; false if it is not a script. */
        boolean read() {
            position = 0;
            commands = 0;
            for (int turn = 0; turn <= MAX_COMMANDS; turn++) {
                skipSpaces();
                if (position >= length) {
                    return commands > 0;
                }
                if (!readCommand()) {
                    return false;
                }
            }
            return true;
        }

        private boolean readCommand() {
            int letter = character();
            if (letter != 's' && letter != 'e' && letter != 'h') {
                return false;
            }
            position++;
            int first = readNumber();
            if (first == NONE) {
                return false;
            }
            int second = 0;
            if (letter == 'h') {
                second = readSign(',') ? readNumber() : NONE;
            }
            if (second == NONE || !readSign(';')) {
                return false;
            }
            return keep(letter, first, second);
        }

        private int readNumber() {
            skipSpaces();
            int number = digit();
            if (number == NONE) {
                return NONE;
            }
            position++;
            int next = digit();
            if (number == 0 || next == NONE) {
                return number;
            }
            position++;
            return number * 10 + next;
        }

        private boolean readSign(int sign) {
            skipSpaces();
            if (character() != sign) {
                return false;
            }
            position++;
            return true;
        }

        private boolean keep(int letter, int first, int second) {
            if (!isBetween(commands, 0, MAX_COMMANDS - 1)) {
                return false;
            }
            letters[commands] = letter;
            firsts[commands] = first;
            seconds[commands] = second;
            commands++;
            return true;
        }

        private void skipSpaces() {
            for (int turn = 0; turn < MAX_TEXT && character() == ' '; turn++) {
                position++;
            }
        }

        private int digit() {
            int character = character();
            return isBetween(character, '0', '9') ? character - '0' : NONE;
        }

        /** The character where reading stands, or NONE behind the end of the text. */
        private int character() {
            boolean inside = position >= 0 && position < length && position < MAX_TEXT;
            return inside ? text[position] : NONE;
        }
    }
}
