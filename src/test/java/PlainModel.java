import java.util.ArrayDeque;
import java.util.ArrayList;
import java.util.HashSet;
import java.util.List;
import java.util.Map;
import java.util.Set;
import java.util.TreeMap;
import java.util.regex.Matcher;
import java.util.regex.Pattern;

/** The document once more, told with maps and lists and new states, to compare the program with. */
final class PlainModel {
    private static final int INVALID = -1;
    private static final int ILLEGAL = -2;
    private static final int FULL = -3;
    private static final int NONE = -9;
    private static final String NUMBER = "(0|[1-9][0-9]?)";
    private static final Pattern ERRAND = Pattern.compile(
            "(b)|([ds])" + NUMBER + "|(m)" + NUMBER + "," + NUMBER
            + "|([lf])" + NUMBER + "," + NUMBER + "," + NUMBER);

    private static final class Lying {
        int thing;
        int size;
        Integer note;
        boolean marked;
        Integer[] names = new Integer[2];

        Lying again() {
            Lying other = new Lying();
            other.thing = thing;
            other.size = size;
            other.note = note;
            other.marked = marked;
            other.names = names.clone();
            return other;
        }
    }

    private static final class State {
        TreeMap<Integer, Lying> lying = new TreeMap<>();
        Integer[] hooks = new Integer[8];
        ArrayDeque<Integer> queue = new ArrayDeque<>();
        int[] nextPlace = new int[2];
        int bound = 6;
        int made;
        int present;
        int lost;
        int ended;
        boolean moving;

        State again() {
            State other = new State();
            for (Map.Entry<Integer, Lying> entry : lying.entrySet()) {
                other.lying.put(entry.getKey(), entry.getValue().again());
            }
            other.hooks = hooks.clone();
            other.queue.addAll(queue);
            other.nextPlace = nextPlace.clone();
            other.bound = bound;
            other.made = made;
            other.present = present;
            other.lost = lost;
            other.ended = ended;
            other.moving = moving;
            return other;
        }

        boolean old(int address) {
            return moving && address / 100 == 1 - present;
        }

        int kept() {
            int sum = 0;
            for (Map.Entry<Integer, Lying> entry : lying.entrySet()) {
                if (old(entry.getKey()) && entry.getValue().note == null) {
                    sum += entry.getValue().size;
                }
            }
            return sum;
        }

        int free() {
            return 64 - nextPlace[present];
        }

        Integer floorPlace(int size) {
            boolean[] taken = new boolean[60];
            for (Map.Entry<Integer, Lying> entry : lying.tailMap(200).entrySet()) {
                for (int part = 0; part < entry.getValue().size; part++) {
                    taken[entry.getKey() - 200 + part] = true;
                }
            }
            for (int start = 0; start + size <= 60; start++) {
                boolean fits = true;
                for (int part = 0; part < size; part++) {
                    fits &= !taken[start + part];
                }
                if (fits) {
                    return 200 + start;
                }
            }
            return null;
        }

        int layInHalf(Lying what) {
            int address = present * 100 + nextPlace[present];
            nextPlace[present] += what.size;
            lying.put(address, what);
            return address;
        }

        Integer read(Integer address) {
            if (address == null || !moving) {
                return address;
            }
            Lying there = lying.get(address);
            if (old(address)) {
                if (there.note == null) {
                    Lying other = there.again();
                    there.note = layInHalf(other);
                    queue.add(there.note);
                }
                return there.note;
            }
            if (address >= 200 && !there.marked) {
                there.marked = true;
                queue.add(address);
            }
            return address;
        }

        int steps(int most) {
            int steps = 0;
            while (moving && steps < most) {
                Lying first = lying.get(queue.remove());
                first.names[0] = read(first.names[0]);
                first.names[1] = read(first.names[1]);
                steps++;
                endIfDone();
            }
            return steps;
        }

        void endIfDone() {
            if (!queue.isEmpty()) {
                return;
            }
            List<Integer> gone = new ArrayList<>();
            for (Map.Entry<Integer, Lying> entry : lying.entrySet()) {
                boolean unmarked = entry.getKey() >= 200 && !entry.getValue().marked;
                if (old(entry.getKey()) || unmarked) {
                    gone.add(entry.getKey());
                }
                entry.getValue().marked = false;
            }
            lying.keySet().removeAll(gone);
            nextPlace[1 - present] = 0;
            moving = false;
            ended++;
        }

        List<Integer> outside(int thing) {
            List<Integer> addresses = new ArrayList<>();
            for (Map.Entry<Integer, Lying> entry : lying.entrySet()) {
                if (entry.getValue().thing == thing && !old(entry.getKey())) {
                    addresses.add(entry.getKey());
                }
            }
            return addresses;
        }

        Set<Integer> reached(Integer start) {
            Set<Integer> seen = new HashSet<>();
            ArrayDeque<Integer> open = new ArrayDeque<>();
            open.add(start == null ? NONE : start);
            while (!open.isEmpty()) {
                Lying there = lying.get(open.peek());
                Integer address = open.remove();
                if (there != null && there.note != null) {
                    open.add(there.note);
                } else if (there != null && seen.add(address)) {
                    for (Integer name : there.names) {
                        open.add(name == null ? NONE : name);
                    }
                }
            }
            return seen;
        }
    }

    private State now = new State();
    private final List<State> history = new ArrayList<>();
    private String text = "";

    private static boolean within(int number, int least, int most) {
        return least <= number && number <= most;
    }

    private static int or(Integer address, int otherwise) {
        return address == null ? otherwise : address;
    }

    /** Does an action by its letter; the letters of texts and "h" (setHeavy), "o" (lose), "e" (mend). */
    int act(char letter, int... numbers) {
        State before = now.again();
        int answer = errand(letter, numbers);
        if (answer < 0) {
            now = before;
            return answer;
        }
        remember(before);
        return answer;
    }

    private void remember(State before) {
        history.add(before);
        if (history.size() > 5) {
            history.remove(0);
        }
    }

    private int errand(char letter, int... numbers) {
        switch (letter) {
            case 'h': return heavy(numbers[0]);
            case 'm': return make(numbers[0], numbers[1]);
            case 'l': return link(numbers[0], numbers[1], numbers[2]);
            case 'f': return follow(numbers[0], numbers[1], numbers[2]);
            case 'd': return drop(numbers[0]);
            case 'b': return begin();
            case 's': return carry(numbers[0]);
            case 'o': return lose(numbers[0]);
            default: return mend(numbers[0]);
        }
    }

    private int heavy(int bound) {
        if (!within(bound, 2, 13)) {
            return INVALID;
        }
        int previous = now.bound;
        now.bound = bound;
        return previous;
    }

    private int make(int size, int hook) {
        if (!within(size, 1, 12) || !within(hook, 0, 7)) {
            return INVALID;
        }
        Lying what = new Lying();
        what.size = size;
        what.thing = now.made;
        Integer address;
        if (size >= now.bound) {
            address = now.floorPlace(size);
        } else {
            address = now.free() - size < now.kept() ? null : Integer.valueOf(0);
        }
        if (now.made == 40 || address == null) {
            return FULL;
        }
        if (size >= now.bound) {
            what.marked = now.moving;
            now.lying.put(address, what);
        } else {
            address = now.layInHalf(what);
        }
        now.hooks[hook] = address;
        return now.made++;
    }

    private int link(int hook, int name, int other) {
        if (!within(hook, 0, 7) || !within(name, 0, 1) || !within(other, 0, 7)) {
            return INVALID;
        }
        if (now.hooks[hook] == null) {
            return ILLEGAL;
        }
        now.hooks[hook] = now.read(now.hooks[hook]);
        now.hooks[other] = now.read(now.hooks[other]);
        now.lying.get(now.hooks[hook]).names[name] = now.hooks[other];
        return or(now.hooks[other], 300);
    }

    private int follow(int hook, int name, int other) {
        if (!within(hook, 0, 7) || !within(name, 0, 1) || !within(other, 0, 7)) {
            return INVALID;
        }
        if (now.hooks[hook] == null) {
            return ILLEGAL;
        }
        now.hooks[hook] = now.read(now.hooks[hook]);
        Lying there = now.lying.get(now.hooks[hook]);
        there.names[name] = now.read(there.names[name]);
        now.hooks[other] = there.names[name];
        return or(now.hooks[other], 300);
    }

    private int drop(int hook) {
        if (!within(hook, 0, 7)) {
            return INVALID;
        }
        int hung = or(now.hooks[hook], 300);
        now.hooks[hook] = null;
        return hung;
    }

    private int begin() {
        if (now.moving) {
            return ILLEGAL;
        }
        now.moving = true;
        now.present = 1 - now.present;
        for (int hook = 0; hook < 8; hook++) {
            now.hooks[hook] = now.read(now.hooks[hook]);
        }
        int waiting = now.queue.size();
        now.endIfDone();
        return waiting;
    }

    private int carry(int steps) {
        if (!within(steps, 1, 99)) {
            return INVALID;
        }
        return now.moving ? now.steps(steps) : ILLEGAL;
    }

    private int lose(int thing) {
        if (!within(thing, 0, now.made - 1)) {
            return INVALID;
        }
        for (Map.Entry<Integer, Lying> entry : now.lying.entrySet()) {
            Lying there = entry.getValue();
            if (now.old(entry.getKey()) && there.thing == thing && there.note != null) {
                there.note = null;
                now.lost++;
                return now.kept() > now.free() ? FULL : entry.getKey();
            }
        }
        return ILLEGAL;
    }

    private int mend(int thing) {
        if (!within(thing, 0, now.made - 1)) {
            return INVALID;
        }
        List<Integer> twins = now.outside(thing);
        if (now.moving || twins.size() < 2) {
            return ILLEGAL;
        }
        Integer first = twins.remove(0);
        now.lying.keySet().removeAll(twins);
        for (int hook = 0; hook < 8; hook++) {
            now.hooks[hook] = twins.contains(now.hooks[hook]) ? first : now.hooks[hook];
        }
        for (Lying there : now.lying.values()) {
            for (int name = 0; name < 2; name++) {
                there.names[name] = twins.contains(there.names[name]) ? first : there.names[name];
            }
        }
        return twins.size();
    }

    int undo() {
        if (history.isEmpty()) {
            return ILLEGAL;
        }
        now = history.remove(history.size() - 1);
        return history.size();
    }

    int append(int character) {
        if (!within(character, 1, 255)) {
            return INVALID;
        }
        if (text.length() == 80) {
            return FULL;
        }
        text += (char) character;
        return text.length();
    }

    int clearText() {
        int length = text.length();
        text = "";
        return length;
    }

    int run() {
        State before = now.again();
        int start = 0;
        int errands = 0;
        while (start < text.length()) {
            int failure = -1;
            int semicolon = text.indexOf(';', start);
            int end = semicolon < 0 ? text.length() : semicolon;
            Matcher matcher = ERRAND.matcher(text.substring(start, end));
            if (semicolon < 0 || !matcher.matches()) {
                failure = firstWrong(start);
            } else if (errandOf(text.substring(start, end)) < 0) {
                failure = start;
            }
            if (failure >= 0) {
                now = before;
                return -1000 - failure;
            }
            start = end + 1;
            errands++;
        }
        text = "";
        remember(before);
        return errands;
    }

    /** The place behind the longest start of this part of the text that an errand can start with. */
    private int firstWrong(int start) {
        for (int place = start; place < text.length(); place++) {
            Matcher matcher = ERRAND.matcher(text.substring(start, place + 1));
            if (!matcher.matches() && !matcher.hitEnd()) {
                return place;
            }
        }
        return text.length();
    }

    private int errandOf(String errand) {
        String[] parts = errand.substring(1).split(",");
        int[] numbers = new int[errand.length() == 1 ? 0 : parts.length];
        for (int index = 0; index < numbers.length; index++) {
            numbers[index] = Integer.parseInt(parts[index]);
        }
        return errand(errand.charAt(0), numbers);
    }

    int count(int what) {
        switch (what) {
            case 0: return now.made;
            case 1: return now.lying.size();
            case 2: return now.moving ? 1 : 0;
            case 3: return now.present;
            case 4: return now.free();
            case 5: return 60 - now.lying.tailMap(200).values().stream().mapToInt(c -> c.size).sum();
            case 6: return now.queue.size();
            case 7: return now.kept();
            case 8: return now.lost;
            case 9: return now.ended;
            case 10: return thingsWithTwins().size();
            case 11: return now.bound;
            case 12: return history.size();
            case 13: return text.length();
            default: return INVALID;
        }
    }

    int hook(int hook) {
        return within(hook, 0, 7) ? or(now.hooks[hook], NONE) : INVALID;
    }

    int copy(int address, int what) {
        Lying there = now.lying.get(address);
        if (there == null || !within(what, 0, 5)) {
            return INVALID;
        }
        int[] answers = {there.thing, there.size, or(there.note, NONE), there.marked ? 1 : 0,
            or(there.names[0], NONE), or(there.names[1], NONE)};
        return answers[what];
    }

    int where(int thing, int index) {
        if (!within(thing, 0, now.made - 1) || index < 0) {
            return INVALID;
        }
        int[] found = now.lying.entrySet().stream().filter(e -> e.getValue().thing == thing)
                .mapToInt(Map.Entry::getKey).toArray();
        return index < found.length ? found[index] : NONE;
    }

    int named(int hook) {
        if (!within(hook, 0, 7)) {
            return INVALID;
        }
        return (int) now.reached(now.hooks[hook]).stream()
                .map(address -> now.lying.get(address).thing).distinct().count();
    }

    int garbage() {
        Set<Integer> reached = new HashSet<>();
        for (Integer hung : now.hooks) {
            reached.addAll(now.reached(hung));
        }
        int places = 0;
        for (Map.Entry<Integer, Lying> entry : now.lying.entrySet()) {
            if (entry.getValue().note == null && !reached.contains(entry.getKey())) {
                places += entry.getValue().size;
            }
        }
        return places;
    }

    int stepsLeft() {
        return now.moving ? now.again().steps(1000) : ILLEGAL;
    }

    int freeThen() {
        State kept = now;
        now = now.again();
        now.steps(1000);
        begin();
        now.steps(1000);
        int free = now.free();
        now = kept;
        return free;
    }

    List<Integer> thingsWithTwins() {
        List<Integer> things = new ArrayList<>();
        for (int thing = 0; thing < now.made; thing++) {
            if (now.outside(thing).size() > 1) {
                things.add(thing);
            }
        }
        return things;
    }

    List<Integer> thingsWithNotes() {
        List<Integer> things = new ArrayList<>();
        for (Lying there : now.lying.values()) {
            if (there.note != null) {
                things.add(there.thing);
            }
        }
        return things;
    }

    /** All addresses at which a copy begins. */
    List<Integer> addresses() {
        return new ArrayList<>(now.lying.keySet());
    }
}
