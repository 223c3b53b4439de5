import java.util.Arrays;

/**
 * A store of two halves and a floor, from which movers carry all things that can still be named
 * into the other half, step by step, while the owner goes on naming them.
 */
public final class NamedMoves {
    public static final int INVALID_ARGUMENT = -1;
    public static final int ILLEGAL_STATE = -2;
    public static final int CAPACITY_EXCEEDED = -3;
    public static final int NONE = -9;

    /** Stands where no address stands; it is the number that link, follow and drop answer then. */
    private static final int EMPTY = 300;

    private static final int HALF_STRIDE = 100;
    private static final int HALF_PLACES = 64;
    private static final int FLOOR_START = 200;
    private static final int FLOOR_PLACES = 60;

    /** Rows are as long as this, so that an address is an index; those of no place stay unused. */
    private static final int ADDRESSES = FLOOR_START + FLOOR_PLACES;

    private static final int HOOKS = 8;
    private static final int NAMES = 2;
    private static final int THINGS = 40;
    private static final int MOST_SIZE = 12;
    private static final int FIRST_BOUND = 6;
    private static final int LEAST_BOUND = 2;
    private static final int MOST_BOUND = 13;
    private static final int MOST_STEPS = 99;

    /** In one move, a copy that joins takes a new place of a half or is marked on the floor once. */
    private static final int QUEUE_PLACES = HALF_PLACES + FLOOR_PLACES;

    private static final int STATES = 5;

    /** One more than is kept: a state is drafted before it is known whether the call succeeds. */
    private static final int STATE_SLOTS = STATES + 1;

    private static final int TEXT_PLACES = 80;
    private static final int MOST_CHARACTER = 255;
    private static final int MOST_NUMBERS = 3;
    private static final int TEXT_FAILED = -1000;

    private final Store store = new Store();
    private final Store forecast = new Store();
    private final History history = new History();
    private final Reach reach = new Reach();
    private final Text text = new Text();
    private final Errand errand = new Errand();

    public NamedMoves() {
    }

    // ---- the owner

    public int setHeavy(int bound) {
        history.draft(store);
        return recorded(store.changeBound(bound));
    }

    public int make(int size, int hook) {
        history.draft(store);
        return recorded(store.makeThing(size, hook));
    }

    public int link(int hook, int name, int other) {
        history.draft(store);
        return recorded(store.linkHooks(hook, name, other));
    }

    public int follow(int hook, int name, int other) {
        history.draft(store);
        return recorded(store.followName(hook, name, other));
    }

    public int drop(int hook) {
        history.draft(store);
        return recorded(store.dropHook(hook));
    }

    // ---- the movers

    public int begin() {
        history.draft(store);
        return recorded(store.beginMove());
    }

    public int carry(int steps) {
        history.draft(store);
        return recorded(store.carrySteps(steps));
    }

    public int lose(int thing) {
        history.draft(store);
        return recorded(store.loseNote(thing));
    }

    public int mend(int thing) {
        history.draft(store);
        return recorded(store.mendTwins(thing));
    }

    public int undo() {
        if (history.size() == 0) {
            return ILLEGAL_STATE;
        }
        history.restoreLatest(store);
        return history.size();
    }

    // ---- texts

    public int append(int character) {
        return text.addCharacter(character);
    }

    public int clearText() {
        int length = text.size();
        text.empty();
        return length;
    }

    public int run() {
        history.draft(store);
        int errands = 0;
        int start = 0;
        while (start < text.size() && errands < TEXT_PLACES) {
            if (!errand.readFrom(text, start)) {
                return textFailed(errand.end());
            }
            if (errand.callOn(store) < 0) {
                return textFailed(start);
            }
            start = errand.end();
            errands++;
        }
        text.empty();
        return recorded(errands);
    }

    // ---- looking, by which nothing is read

    public int count(int what) {
        switch (what) {
            case 12:
                return history.size();
            case 13:
                return text.size();
            default:
                return store.numberOf(what);
        }
    }

    public int hook(int hook) {
        if (!isHook(hook)) {
            return INVALID_ARGUMENT;
        }
        return orNone(store.hungOn(hook));
    }

    public int copy(int address, int what) {
        Copies copies = store.copies;
        if (!copies.isAt(address)) {
            return INVALID_ARGUMENT;
        }
        switch (what) {
            case 0:
                return copies.thingAt(address);
            case 1:
                return copies.sizeAt(address);
            case 2:
                return orNone(copies.noteAt(address));
            case 3:
                return copies.isMarked(address) ? 1 : 0;
            case 4:
                return orNone(copies.nameAt(address, 0));
            case 5:
                return orNone(copies.nameAt(address, 1));
            default:
                return INVALID_ARGUMENT;
        }
    }

    public int where(int thing, int index) {
        if (!store.isThing(thing) || index < 0) {
            return INVALID_ARGUMENT;
        }
        return orNone(store.copies.addressOf(thing, index));
    }

    // ---- what could be, which changes nothing

    public int named(int hook) {
        if (!isHook(hook)) {
            return INVALID_ARGUMENT;
        }
        reach.clear();
        reach.add(store.copies, store.hungOn(hook));
        reach.spread(store.copies);
        return reach.differentThings(store.copies);
    }

    public int garbage() {
        reach.clear();
        for (int hook = 0; hook < HOOKS; hook++) {
            reach.add(store.copies, store.hungOn(hook));
        }
        reach.spread(store.copies);
        return reach.placesOutside(store.copies);
    }

    public int stepsLeft() {
        if (!store.moving) {
            return ILLEGAL_STATE;
        }
        forecast.become(store);
        return forecast.stepsUpTo(QUEUE_PLACES);
    }

    public int freeThen() {
        forecast.become(store);
        forecast.stepsUpTo(QUEUE_PLACES);
        forecast.beginMove();
        forecast.stepsUpTo(QUEUE_PLACES);
        return forecast.freeInHalf();
    }

    // ---- helpers

    private static boolean isHook(int hook) {
        return hook >= 0 && hook < HOOKS;
    }

    private static boolean isName(int name) {
        return name >= 0 && name < NAMES;
    }

    private static int orNone(int address) {
        return address == EMPTY ? NONE : address;
    }

    /** Keeps the state that was drafted before an action, if the action succeeded. */
    private int recorded(int answer) {
        if (answer >= 0) {
            history.keepDraft();
        }
        return answer;
    }

    private int textFailed(int place) {
        history.restoreDraft(store);
        return TEXT_FAILED - place;
    }

    /** All copies that are not gone, in rows by the address of their first place. */
    private static final class Copies {
        private final int[] things = new int[ADDRESSES];
        /** 0 where no copy begins. */
        private final int[] sizes = new int[ADDRESSES];
        private final int[] notes = new int[ADDRESSES];
        private final int[] marks = new int[ADDRESSES];
        /** The names of a copy stand side by side, so that one row and index tell any name. */
        private final int[] names = new int[ADDRESSES * NAMES];

        Copies() {
            Arrays.fill(notes, EMPTY);
            Arrays.fill(names, EMPTY);
        }

        void become(Copies other) {
            System.arraycopy(other.things, 0, things, 0, ADDRESSES);
            System.arraycopy(other.sizes, 0, sizes, 0, ADDRESSES);
            System.arraycopy(other.notes, 0, notes, 0, ADDRESSES);
            System.arraycopy(other.marks, 0, marks, 0, ADDRESSES);
            System.arraycopy(other.names, 0, names, 0, ADDRESSES * NAMES);
        }

        boolean isAt(int address) {
            return address >= 0 && address < ADDRESSES && sizes[address] > 0;
        }

        boolean isOf(int thing, int address) {
            return isAt(address) && things[address] == thing;
        }

        int thingAt(int address) {
            return isAt(address) ? things[address] : NONE;
        }

        int sizeAt(int address) {
            return isAt(address) ? sizes[address] : 0;
        }

        int noteAt(int address) {
            return isAt(address) ? notes[address] : EMPTY;
        }

        boolean isMarked(int address) {
            return isAt(address) && marks[address] == 1;
        }

        int nameAt(int address, int name) {
            return isAt(address) && isName(name) ? names[address * NAMES + name] : EMPTY;
        }

        void loseNoteAt(int address) {
            if (isAt(address)) {
                notes[address] = EMPTY;
            }
        }

        /** Marks a copy; tells whether there is one that was not marked. */
        boolean mark(int address) {
            if (!isAt(address) || marks[address] == 1) {
                return false;
            }
            marks[address] = 1;
            return true;
        }

        void setName(int address, int name, int value) {
            if (isAt(address) && isName(name)) {
                names[address * NAMES + name] = value;
            }
        }

        void lay(int address, int thing, int size) {
            if (address < 0 || address >= ADDRESSES) {
                return;
            }
            things[address] = thing;
            sizes[address] = size;
            notes[address] = EMPTY;
            marks[address] = 0;
            names[address * NAMES] = EMPTY;
            names[address * NAMES + 1] = EMPTY;
        }

        /** Lays a copy of the same thing, and leaves its address as a note at the old place. */
        void layAgain(int from, int there) {
            if (from < 0 || from >= ADDRESSES || there < 0 || there >= ADDRESSES) {
                return;
            }
            things[there] = things[from];
            sizes[there] = sizes[from];
            notes[there] = EMPTY;
            marks[there] = 0;
            names[there * NAMES] = names[from * NAMES];
            names[there * NAMES + 1] = names[from * NAMES + 1];
            notes[from] = there;
        }

        void remove(int address) {
            if (address >= 0 && address < ADDRESSES) {
                sizes[address] = 0;
            }
        }

        /** The address of the copy of a thing that has so many others at smaller addresses. */
        int addressOf(int thing, int index) {
            int before = 0;
            for (int address = 0; address < ADDRESSES; address++) {
                if (isOf(thing, address)) {
                    if (before == index) {
                        return address;
                    }
                    before++;
                }
            }
            return EMPTY;
        }

        int number() {
            int number = 0;
            for (int address = 0; address < ADDRESSES; address++) {
                if (isAt(address)) {
                    number++;
                }
            }
            return number;
        }

        int floorTaken() {
            int taken = 0;
            for (int place = 0; place < FLOOR_PLACES; place++) {
                taken += sizeAt(FLOOR_START + place);
            }
            return taken;
        }

        /** The address of the first gap of the floor that is long enough, EMPTY without one. */
        int floorAddressFor(int size) {
            int gap = 0;
            for (int place = 0; place < FLOOR_PLACES && place - gap < size; place++) {
                int taken = sizeAt(FLOOR_START + place);
                if (taken > 0) {
                    gap = place + taken;
                }
            }
            return gap + size <= FLOOR_PLACES ? FLOOR_START + gap : EMPTY;
        }

        int leadsTo(int address) {
            int note = noteAt(address);
            return note == EMPTY ? address : note;
        }

        void replaceNames(int from, int to) {
            for (int index = 0; index < ADDRESSES * NAMES; index++) {
                if (names[index] == from) {
                    names[index] = to;
                }
            }
        }

        void emptyHalf(int half) {
            for (int place = 0; place < HALF_PLACES; place++) {
                remove(half * HALF_STRIDE + place);
            }
        }

        void sweepFloor() {
            for (int address = FLOOR_START; address < ADDRESSES; address++) {
                if (marks[address] == 0) {
                    remove(address);
                }
                marks[address] = 0;
            }
        }
    }

    /** The addresses of the copies whose names the movers have still to read in this move. */
    private static final class Queue {
        private final int[] addresses = new int[QUEUE_PLACES];
        private int first;
        private int end;

        void become(Queue other) {
            System.arraycopy(other.addresses, 0, addresses, 0, QUEUE_PLACES);
            first = other.first;
            end = other.end;
        }

        void clear() {
            first = 0;
            end = 0;
        }

        int size() {
            return end - first;
        }

        void join(int address) {
            if (end >= 0 && end < QUEUE_PLACES) {
                addresses[end] = address;
                end++;
            }
        }

        int takeFirst() {
            if (first < 0 || first >= end || first >= QUEUE_PLACES) {
                return EMPTY;
            }
            first++;
            return addresses[first - 1];
        }
    }

    /** Everything that undo restores. */
    private static final class Store {
        private final int[] hooks = new int[HOOKS];
        private final Copies copies = new Copies();
        private final Queue queue = new Queue();
        private int heavyBound = FIRST_BOUND;
        private int made;
        private boolean moving;
        private int half;
        /** How many places of the present half are taken, also by copies that are gone. */
        private int taken;
        private int notesLost;
        private int movesEnded;

        Store() {
            Arrays.fill(hooks, EMPTY);
        }

        void become(Store other) {
            System.arraycopy(other.hooks, 0, hooks, 0, HOOKS);
            copies.become(other.copies);
            queue.become(other.queue);
            heavyBound = other.heavyBound;
            made = other.made;
            moving = other.moving;
            half = other.half;
            taken = other.taken;
            notesLost = other.notesLost;
            movesEnded = other.movesEnded;
        }

        boolean isThing(int thing) {
            return thing >= 0 && thing < made;
        }

        int hungOn(int hook) {
            return isHook(hook) ? hooks[hook] : EMPTY;
        }

        int freeInHalf() {
            return HALF_PLACES - taken;
        }

        private int addressOfHalf(int which) {
            return which * HALF_STRIDE;
        }

        private boolean isInOldHalf(int address) {
            int place = address - addressOfHalf(1 - half);
            return moving && place >= 0 && place < HALF_PLACES;
        }

        private int roomKept() {
            int room = 0;
            int start = addressOfHalf(1 - half);
            for (int place = 0; moving && place < HALF_PLACES; place++) {
                if (copies.noteAt(start + place) == EMPTY) {
                    room += copies.sizeAt(start + place);
                }
            }
            return room;
        }

        private boolean hasTwins(int thing) {
            int outside = 0;
            for (int address = 0; address < ADDRESSES; address++) {
                if (copies.isOf(thing, address) && !isInOldHalf(address)) {
                    outside++;
                }
            }
            return outside > 1;
        }

        private int thingsWithTwins() {
            int things = 0;
            for (int thing = 0; thing < made; thing++) {
                if (hasTwins(thing)) {
                    things++;
                }
            }
            return things;
        }

        int numberOf(int what) {
            switch (what) {
                case 0:
                    return made;
                case 1:
                    return copies.number();
                case 2:
                    return moving ? 1 : 0;
                case 3:
                    return half;
                case 4:
                    return freeInHalf();
                case 5:
                    return FLOOR_PLACES - copies.floorTaken();
                case 6:
                    return queue.size();
                case 7:
                    return roomKept();
                case 8:
                    return notesLost;
                case 9:
                    return movesEnded;
                case 10:
                    return thingsWithTwins();
                case 11:
                    return heavyBound;
                default:
                    return INVALID_ARGUMENT;
            }
        }

        int changeBound(int bound) {
            if (bound < LEAST_BOUND || bound > MOST_BOUND) {
                return INVALID_ARGUMENT;
            }
            int previous = heavyBound;
            heavyBound = bound;
            return previous;
        }

        int makeThing(int size, int hook) {
            if (size < 1 || size > MOST_SIZE || !isHook(hook)) {
                return INVALID_ARGUMENT;
            }
            boolean heavy = size >= heavyBound;
            int address = heavy ? copies.floorAddressFor(size) : halfAddressFor(size);
            if (made >= THINGS || address == EMPTY) {
                return CAPACITY_EXCEEDED;
            }
            copies.lay(address, made, size);
            if (!heavy) {
                taken += size;
            } else if (moving) {
                copies.mark(address);
            }
            hooks[hook] = address;
            made++;
            return made - 1;
        }

        private int halfAddressFor(int size) {
            return freeInHalf() - size >= roomKept() ? addressOfHalf(half) + taken : EMPTY;
        }

        int linkHooks(int hook, int name, int other) {
            if (!isHook(hook) || !isName(name) || !isHook(other)) {
                return INVALID_ARGUMENT;
            }
            if (hooks[hook] == EMPTY) {
                return ILLEGAL_STATE;
            }
            int address = readIn(hooks, hook);
            int written = readIn(hooks, other);
            copies.setName(address, name, written);
            return written;
        }

        int followName(int hook, int name, int other) {
            if (!isHook(hook) || !isName(name) || !isHook(other)) {
                return INVALID_ARGUMENT;
            }
            if (hooks[hook] == EMPTY) {
                return ILLEGAL_STATE;
            }
            int address = readIn(hooks, hook);
            hooks[other] = readIn(copies.names, address * NAMES + name);
            return hooks[other];
        }

        int dropHook(int hook) {
            if (!isHook(hook)) {
                return INVALID_ARGUMENT;
            }
            int hung = hooks[hook];
            hooks[hook] = EMPTY;
            return hung;
        }

        int beginMove() {
            if (moving) {
                return ILLEGAL_STATE;
            }
            moving = true;
            half = 1 - half;
            taken = 0;
            queue.clear();
            for (int hook = 0; hook < HOOKS; hook++) {
                readIn(hooks, hook);
            }
            int waiting = queue.size();
            if (waiting == 0) {
                endMove();
            }
            return waiting;
        }

        int carrySteps(int steps) {
            if (steps < 1 || steps > MOST_STEPS) {
                return INVALID_ARGUMENT;
            }
            return moving ? stepsUpTo(steps) : ILLEGAL_STATE;
        }

        /** Makes steps until the move ends, but not more than so many; tells how many. */
        int stepsUpTo(int most) {
            int steps = 0;
            while (moving && steps < most) {
                int address = queue.takeFirst();
                readIn(copies.names, address * NAMES);
                readIn(copies.names, address * NAMES + 1);
                if (queue.size() == 0) {
                    endMove();
                }
                steps++;
            }
            return steps;
        }

        private void endMove() {
            copies.emptyHalf(1 - half);
            copies.sweepFloor();
            moving = false;
            movesEnded++;
        }

        int loseNote(int thing) {
            if (!isThing(thing)) {
                return INVALID_ARGUMENT;
            }
            int address = firstWithNote(thing);
            if (address == EMPTY) {
                return ILLEGAL_STATE;
            }
            if (freeInHalf() < roomKept() + copies.sizeAt(address)) {
                return CAPACITY_EXCEEDED;
            }
            copies.loseNoteAt(address);
            notesLost++;
            return address;
        }

        private int firstWithNote(int thing) {
            for (int address = 0; address < ADDRESSES; address++) {
                if (copies.isOf(thing, address) && copies.noteAt(address) != EMPTY) {
                    return address;
                }
            }
            return EMPTY;
        }

        int mendTwins(int thing) {
            if (!isThing(thing)) {
                return INVALID_ARGUMENT;
            }
            if (moving || !hasTwins(thing)) {
                return ILLEGAL_STATE;
            }
            int staying = copies.addressOf(thing, 0);
            int gone = 0;
            for (int address = staying + 1; address < ADDRESSES; address++) {
                if (copies.isOf(thing, address)) {
                    copies.remove(address);
                    copies.replaceNames(address, staying);
                    replaceHooks(address, staying);
                    gone++;
                }
            }
            return gone;
        }

        private void replaceHooks(int from, int to) {
            for (int hook = 0; hook < HOOKS; hook++) {
                if (hooks[hook] == from) {
                    hooks[hook] = to;
                }
            }
        }

        /** Reads the hook or the name that stands in a row; tells the address that it has then. */
        private int readIn(int[] row, int index) {
            if (row == null || index < 0 || index >= row.length) {
                return EMPTY;
            }
            int address = row[index];
            if (isInOldHalf(address)) {
                int note = copies.noteAt(address);
                row[index] = note != EMPTY ? note : carryOver(address, copies.sizeAt(address));
            } else if (moving && address >= FLOOR_START && copies.mark(address)) {
                queue.join(address);
            }
            return row[index];
        }

        /** Carries the copy of the old half that has this address and size; tells where to. */
        private int carryOver(int address, int size) {
            // The room that is kept makes every copy fit; without it, one would stay.
            if (size == 0 || size > freeInHalf()) {
                return address;
            }
            int there = addressOfHalf(half) + taken;
            copies.layAgain(address, there);
            taken += size;
            queue.join(there);
            return there;
        }
    }

    /** The latest states, in a ring whose next slot holds the draft of one more. */
    private static final class History {
        private final Store[] states = new Store[STATE_SLOTS];
        private int first;
        private int held;

        History() {
            for (int slot = 0; slot < STATE_SLOTS; slot++) {
                states[slot] = new Store();
            }
        }

        int size() {
            return held;
        }

        private int slotOfDraft() {
            return Math.floorMod(first + held, STATE_SLOTS);
        }

        void draft(Store store) {
            Store draft = states[slotOfDraft()];
            if (draft != null) {
                draft.become(store);
            }
        }

        void keepDraft() {
            if (held < STATES) {
                held++;
            } else {
                first = Math.floorMod(first + 1, STATE_SLOTS);
            }
        }

        void restoreDraft(Store store) {
            Store draft = states[slotOfDraft()];
            if (draft != null) {
                store.become(draft);
            }
        }

        void restoreLatest(Store store) {
            if (held > 0) {
                held--;
                restoreDraft(store);
            }
        }
    }

    /** A walk along addresses and names, by which nothing is read. */
    private static final class Reach {
        private final boolean[] reached = new boolean[ADDRESSES];
        private final int[] found = new int[ADDRESSES];
        private final boolean[] seenThings = new boolean[THINGS];
        private int foundNumber;

        void clear() {
            for (int address = 0; address < ADDRESSES; address++) {
                reached[address] = false;
            }
            foundNumber = 0;
        }

        void add(Copies copies, int address) {
            int there = copies.leadsTo(address);
            if (copies.isAt(there) && !isReached(there) && foundNumber < ADDRESSES) {
                reached[there] = true;
                found[foundNumber] = there;
                foundNumber++;
            }
        }

        private boolean isReached(int address) {
            return address >= 0 && address < ADDRESSES && reached[address];
        }

        /** Each address is found once at most, so that the walk ends though it grows as it goes. */
        void spread(Copies copies) {
            for (int next = 0; next < foundNumber && next < ADDRESSES; next++) {
                add(copies, copies.nameAt(found[next], 0));
                add(copies, copies.nameAt(found[next], 1));
            }
        }

        int differentThings(Copies copies) {
            for (int thing = 0; thing < THINGS; thing++) {
                seenThings[thing] = false;
            }
            int number = 0;
            for (int index = 0; index < foundNumber && index < ADDRESSES; index++) {
                int thing = copies.thingAt(found[index]);
                if (thing >= 0 && thing < THINGS && !seenThings[thing]) {
                    seenThings[thing] = true;
                    number++;
                }
            }
            return number;
        }

        int placesOutside(Copies copies) {
            int places = 0;
            for (int address = 0; address < ADDRESSES; address++) {
                if (!isReached(address) && copies.noteAt(address) == EMPTY) {
                    places += copies.sizeAt(address);
                }
            }
            return places;
        }
    }

    /** The text of errands that is still to be run. */
    private static final class Text {
        private final int[] characters = new int[TEXT_PLACES];
        private int length;

        int size() {
            return length;
        }

        void empty() {
            length = 0;
        }

        int addCharacter(int character) {
            if (character < 1 || character > MOST_CHARACTER) {
                return INVALID_ARGUMENT;
            }
            if (length < 0 || length >= TEXT_PLACES) {
                return CAPACITY_EXCEEDED;
            }
            characters[length] = character;
            length++;
            return length;
        }

        /** Behind the end stands 0, which is allowed nowhere: what is missing fails right there. */
        int at(int place) {
            boolean inside = place >= 0 && place < length && place < TEXT_PLACES;
            return inside ? characters[place] : 0;
        }

        boolean hasDigitAt(int place) {
            return at(place) >= '0' && at(place) <= '9';
        }
    }

    /** One errand of a text, as it was read last. */
    private static final class Errand {
        private final int[] numbers = new int[MOST_NUMBERS];
        private int letter;
        private int place;

        /** Where the errand ends, or the place of the failure if it could not be read. */
        int end() {
            return place;
        }

        boolean readFrom(Text text, int start) {
            place = start;
            letter = text.at(start);
            int due = numbersDue();
            if (due < 0) {
                return false;
            }
            place++;
            for (int index = 0; index < due && index < MOST_NUMBERS; index++) {
                if (index > 0 && !passes(text, ',')) {
                    return false;
                }
                if (!text.hasDigitAt(place)) {
                    return false;
                }
                numbers[index] = readNumber(text);
            }
            return passes(text, ';');
        }

        /** How many numbers stand behind the letter, -1 if it is no letter of an errand. */
        private int numbersDue() {
            switch (letter) {
                case 'b':
                    return 0;
                case 'd':
                case 's':
                    return 1;
                case 'm':
                    return 2;
                case 'l':
                case 'f':
                    return 3;
                default:
                    return -1;
            }
        }

        private boolean passes(Text text, int character) {
            if (text.at(place) != character) {
                return false;
            }
            place++;
            return true;
        }

        /** Leaves a digit too many unread: it fails as what has to follow the number. */
        private int readNumber(Text text) {
            int number = text.at(place) - '0';
            place++;
            if (number > 0 && text.hasDigitAt(place)) {
                number = number * 10 + text.at(place) - '0';
                place++;
            }
            return number;
        }

        int callOn(Store store) {
            switch (letter) {
                case 'm':
                    return store.makeThing(numbers[0], numbers[1]);
                case 'l':
                    return store.linkHooks(numbers[0], numbers[1], numbers[2]);
                case 'f':
                    return store.followName(numbers[0], numbers[1], numbers[2]);
                case 'd':
                    return store.dropHook(numbers[0]);
                case 'b':
                    return store.beginMove();
                case 's':
                    return store.carrySteps(numbers[0]);
                default:
                    return INVALID_ARGUMENT;
            }
        }
    }
}
