import java.util.ArrayDeque;
import java.util.ArrayList;
import java.util.Comparator;
import java.util.Deque;
import java.util.List;
import java.util.TreeMap;

/**
 * The document written down a second time, as plainly and as slowly as it says things, with lists
 * of offers and of calls in place of the tables and bits of the class. ModelTest compares the two.
 */
final class Model {
    private static final int INVALID = -1;
    private static final int ILLEGAL = -2;
    private static final int CAPACITY = -3;
    private static final int NO_CALL = -4;
    private static final int NONE = -9;

    private static final class Call {
        int cell;
        Integer channel;
        boolean fixed;

        Call copy() {
            Call copy = new Call();
            copy.cell = cell;
            copy.channel = channel;
            copy.fixed = fixed;
            return copy;
        }
    }

    private record Offer(int donor, int channel) {
    }

    private static final class State {
        int rows = 3;
        int columns = 4;
        int reuse = 2;
        int size = 2;
        int strategy;
        int reserve;
        boolean returning = true;
        TreeMap<Integer, Call> calls = new TreeMap<>();
        // attempts, blocked, blocked fixed, dropped, dropped fixed, borrowings, returns
        int[] counts = new int[7];

        State copy() {
            State copy = new State();
            copy.rows = rows;
            copy.columns = columns;
            copy.reuse = reuse;
            copy.size = size;
            copy.strategy = strategy;
            copy.reserve = reserve;
            copy.returning = returning;
            for (int number : calls.keySet()) {
                copy.calls.put(number, calls.get(number).copy());
            }
            copy.counts = counts.clone();
            return copy;
        }
    }

    private State now = new State();
    private final Deque<State> saved = new ArrayDeque<>();
    private final State[] slots = new State[2];
    private String text = "";

    /** Calls a method of the document by its name. */
    int call(String name, int[] a) {
        switch (name) {
            case "configure": return configure(a[0], a[1], a[2], a[3]);
            case "setStrategy": return setStrategy(a[0]);
            case "setReserve": return setReserve(a[0]);
            case "setReturning": return setReturning(a[0]);
            case "cellCount": return cells();
            case "channelCount": return groups() * now.size;
            case "groupOf": return isCell(a[0]) ? group(a[0]) : INVALID;
            case "distance": return isCell(a[0]) && isCell(a[1]) ? dist(a[0], a[1]) : INVALID;
            case "startCall": return startCall(a[0], true);
            case "endCall": return endCall(a[0], true);
            case "handOver": return handOver(a[0], a[1], true);
            case "cellOf": return now.calls.containsKey(a[0]) ? now.calls.get(a[0]).cell : NO_CALL;
            case "channelOf": return now.calls.containsKey(a[0]) ? orNone(now.calls.get(a[0]).channel) : NO_CALL;
            case "isBorrowed": return now.calls.containsKey(a[0]) ? bit(borrowed(now.calls.get(a[0]))) : NO_CALL;
            case "isInFixedScheme": return now.calls.containsKey(a[0]) ? bit(now.calls.get(a[0]).fixed) : NO_CALL;
            case "isAvailable": return isCell(a[0]) && isChannel(a[1]) ? bit(available(a[0], a[1])) : INVALID;
            case "lockCount": return isCell(a[0]) && isChannel(a[1]) ? locks(a[0], a[1]) : INVALID;
            case "burden": return isCell(a[0]) && isChannel(a[1]) ? burden(a[0], a[1]) : INVALID;
            case "availableCount": return isCell(a[0]) ? availableNominals(a[0]).size() : INVALID;
            case "usedCount": return isCell(a[0]) ? usedCount(a[0]) : INVALID;
            case "lockedCount": return isCell(a[0]) ? lockedCount(a[0]) : INVALID;
            case "nextChannel": return isCell(a[0]) ? orNone(choose(a[0])) : INVALID;
            case "nextDonor": return isCell(a[0]) ? nextDonor(a[0]) : INVALID;
            case "blockingCells": return blockingCells();
            case "callCount": return now.calls.size();
            case "attempts": return now.counts[0];
            case "blocked": return now.counts[1];
            case "blockedInFixedScheme": return now.counts[2];
            case "dropped": return now.counts[3];
            case "droppedInFixedScheme": return now.counts[4];
            case "borrowings": return now.counts[5];
            case "returns": return now.counts[6];
            case "appendCharacter": return append(a[0]);
            case "clearText": return clear();
            case "runScript": return runScript();
            case "undo": return undo();
            case "save": return save(a[0]);
            case "restore": return restore(a[0]);
            default: throw new IllegalArgumentException(name);
        }
    }

    // ---- cells and channels

    int cells() {
        return now.rows * now.columns;
    }

    private int groups() {
        return now.reuse == 2 ? 3 : 7;
    }

    private boolean isCell(int cell) {
        return 0 <= cell && cell < cells();
    }

    private boolean isChannel(int channel) {
        return 0 <= channel && channel < groups() * now.size;
    }

    private int group(int cell) {
        int r = cell / now.columns;
        int c = cell % now.columns;
        return now.reuse == 2 ? (r + 2 * c) % 3 : (r + 3 * c) % 7;
    }

    private int dist(int a, int b) {
        int dr = a / now.columns - b / now.columns;
        int dc = a % now.columns - b % now.columns;
        return Math.max(Math.max(Math.abs(dr), Math.abs(dc)), Math.abs(dr + dc));
    }

    private boolean nominal(int cell, int channel) {
        return channel % groups() == group(cell);
    }

    private boolean uses(int cell, int channel) {
        for (Call call : now.calls.values()) {
            if (call.cell == cell && call.channel != null && call.channel == channel) {
                return true;
            }
        }
        return false;
    }

    private int locks(int cell, int channel) {
        int count = 0;
        for (int other = 0; other < cells(); other++) {
            if (other != cell && dist(other, cell) < now.reuse && uses(other, channel)) {
                count++;
            }
        }
        return count;
    }

    private boolean available(int cell, int channel) {
        return !uses(cell, channel) && locks(cell, channel) == 0;
    }

    private List<Integer> availableNominals(int cell) {
        List<Integer> found = new ArrayList<>();
        for (int channel = 0; isChannel(channel); channel++) {
            if (nominal(cell, channel) && available(cell, channel)) {
                found.add(channel);
            }
        }
        return found;
    }

    private int usedCount(int cell) {
        int count = 0;
        for (int channel = 0; isChannel(channel); channel++) {
            count += bit(uses(cell, channel));
        }
        return count;
    }

    private int lockedCount(int cell) {
        int count = 0;
        for (int channel = 0; isChannel(channel); channel++) {
            count += bit(nominal(cell, channel) && !uses(cell, channel) && locks(cell, channel) > 0);
        }
        return count;
    }

    private int burden(int cell, int channel) {
        int count = 0;
        for (int other = 0; other < cells(); other++) {
            int d = dist(cell, other);
            count += bit(d >= 1 && d < now.reuse && nominal(other, channel));
        }
        return count;
    }

    // ---- choice of a channel

    private Offer bestOffer(int cell) {
        List<Offer> offers = new ArrayList<>();
        for (int donor = 0; donor < cells(); donor++) {
            if (dist(cell, donor) == 1 && availableNominals(donor).size() > now.reserve) {
                for (int channel = 0; isChannel(channel); channel++) {
                    if (nominal(donor, channel) && available(cell, channel)) {
                        offers.add(new Offer(donor, channel));
                    }
                }
            }
        }
        Comparator<Offer> order = Comparator.comparingInt((Offer o) -> 0);
        if (now.strategy == 0) {
            order = order.thenComparing(o -> -availableNominals(o.donor()).size());
        } else if (now.strategy == 2) {
            order = order.thenComparing(o -> burden(cell, o.channel()));
        }
        order = order.thenComparing(Offer::donor).thenComparing(o -> -o.channel());
        return offers.stream().min(order).orElse(null);
    }

    private Integer choose(int cell) {
        List<Integer> own = availableNominals(cell);
        if (!own.isEmpty()) {
            return own.get(0);
        }
        Offer offer = bestOffer(cell);
        return offer == null ? null : Integer.valueOf(offer.channel());
    }

    private int nextDonor(int cell) {
        Offer offer = availableNominals(cell).isEmpty() ? bestOffer(cell) : null;
        return offer == null ? NONE : offer.donor();
    }

    private int blockingCells() {
        int count = 0;
        for (int cell = 0; cell < cells(); cell++) {
            count += bit(choose(cell) == null);
        }
        return count;
    }

    // ---- operations

    private int configure(int rows, int columns, int reuse, int size) {
        if (rows < 1 || rows > 5 || columns < 1 || columns > 5 || reuse < 2 || reuse > 3 || size < 1 || size > 4) {
            return INVALID;
        }
        keep();
        now.rows = rows;
        now.columns = columns;
        now.reuse = reuse;
        now.size = size;
        now.calls.clear();
        now.counts = new int[7];
        return groups() * size;
    }

    private int setStrategy(int strategy) {
        if (strategy < 0 || strategy > 2) {
            return INVALID;
        }
        keep();
        int before = now.strategy;
        now.strategy = strategy;
        return before;
    }

    private int setReserve(int reserve) {
        if (reserve < 0 || reserve > 3) {
            return INVALID;
        }
        keep();
        int before = now.reserve;
        now.reserve = reserve;
        return before;
    }

    private int setReturning(int on) {
        if (on != 0 && on != 1) {
            return INVALID;
        }
        keep();
        now.returning = on == 1;
        return returningPass();
    }

    private int startCall(int cell, boolean keep) {
        if (!isCell(cell)) {
            return INVALID;
        }
        if (now.calls.size() == 60) {
            return CAPACITY;
        }
        if (keep) {
            keep();
        }
        now.counts[0]++;
        Call call = new Call();
        call.cell = cell;
        call.channel = choose(cell);
        call.fixed = fixedLoad(cell) < now.size;
        now.counts[1] += bit(call.channel == null);
        now.counts[2] += bit(!call.fixed);
        now.counts[5] += bit(borrowed(call));
        if (call.channel == null && !call.fixed) {
            return NONE;
        }
        int number = 0;
        while (now.calls.containsKey(number)) {
            number++;
        }
        now.calls.put(number, call);
        return number;
    }

    private int endCall(int number, boolean keep) {
        if (!now.calls.containsKey(number)) {
            return NO_CALL;
        }
        if (keep) {
            keep();
        }
        Call call = now.calls.remove(number);
        returningPass();
        return orNone(call.channel);
    }

    private int handOver(int number, int cell, boolean keep) {
        Call call = now.calls.get(number);
        if (call == null) {
            return NO_CALL;
        }
        if (!isCell(cell) || dist(call.cell, cell) != 1) {
            return INVALID;
        }
        if (keep) {
            keep();
            call = now.calls.get(number);
        }
        boolean inNetwork = call.channel != null;
        boolean inFixed = call.fixed;
        Integer chosen = inNetwork ? choose(cell) : null;
        boolean room = fixedLoad(cell) < now.size;
        call.cell = cell;
        call.channel = chosen;
        call.fixed = inFixed && room;
        now.counts[3] += bit(inNetwork && chosen == null);
        now.counts[4] += bit(inFixed && !room);
        now.counts[5] += bit(borrowed(call));
        if (chosen == null && !call.fixed) {
            now.calls.remove(number);
        }
        returningPass();
        return orNone(chosen);
    }

    private int fixedLoad(int cell) {
        int count = 0;
        for (Call call : now.calls.values()) {
            count += bit(call.fixed && call.cell == cell);
        }
        return count;
    }

    private boolean borrowed(Call call) {
        return call.channel != null && !nominal(call.cell, call.channel);
    }

    private int returningPass() {
        int steps = 0;
        while (now.returning) {
            Call next = null;
            for (Call call : now.calls.values()) {
                boolean can = borrowed(call) && !availableNominals(call.cell).isEmpty();
                if (can && (next == null || burden(call.cell, call.channel) > burden(next.cell, next.channel))) {
                    next = call;
                }
            }
            if (next == null) {
                break;
            }
            next.channel = availableNominals(next.cell).get(0);
            steps++;
        }
        now.counts[6] += steps;
        return steps;
    }

    // ---- scripts

    private int append(int character) {
        if (character < 0 || character > 255) {
            return INVALID;
        }
        if (text.length() == 100) {
            return CAPACITY;
        }
        text += (char) character;
        return text.length();
    }

    private int clear() {
        int before = text.length();
        text = "";
        return before;
    }

    /** Whether some script begins with this text: a grammar of prefixes, as a regular expression. */
    private static boolean beginsScript(String text) {
        String number = "(0|[1-9][0-9]?)";
        String whole = " *([se] *" + number + " *; *|h *" + number + " *, *" + number + " *; *)*";
        String part = "([se] *(" + number + " *)?|h *(" + number + " *(, *(" + number + " *)?)?)?)?";
        return text.matches(whole + part);
    }

    private static boolean isScript(String text) {
        return beginsScript(text) && text.contains(";") && text.stripTrailing().endsWith(";");
    }

    private int runScript() {
        if (!isScript(text)) {
            int good = 0;
            while (good < text.length() && beginsScript(text.substring(0, good + 1))) {
                good++;
            }
            return -10 - good;
        }
        keep();
        int executed = 0;
        for (String command : text.replace(" ", "").split(";")) {
            String[] numbers = command.substring(1).split(",");
            int first = Integer.parseInt(numbers[0]);
            int answer;
            if (command.charAt(0) == 's') {
                answer = startCall(first, false);
            } else if (command.charAt(0) == 'e') {
                answer = endCall(first, false);
            } else {
                answer = handOver(first, Integer.parseInt(numbers[1]), false);
            }
            executed += bit(answer >= 0 || answer == NONE);
        }
        text = "";
        return executed;
    }

    // ---- undo and snapshots

    private void keep() {
        saved.push(now.copy());
        if (saved.size() > 6) {
            saved.removeLast();
        }
    }

    private int undo() {
        if (saved.isEmpty()) {
            return ILLEGAL;
        }
        now = saved.pop();
        return saved.size();
    }

    private int save(int slot) {
        if (slot != 0 && slot != 1) {
            return INVALID;
        }
        slots[slot] = now.copy();
        return now.calls.size();
    }

    private int restore(int slot) {
        if (slot != 0 && slot != 1) {
            return INVALID;
        }
        if (slots[slot] == null) {
            return ILLEGAL;
        }
        now = slots[slot].copy();
        saved.clear();
        return now.calls.size();
    }

    private static int bit(boolean answer) {
        return answer ? 1 : 0;
    }

    private static int orNone(Integer channel) {
        return channel == null ? NONE : channel;
    }
}
