import java.util.List;
import java.util.TreeMap;

/**
 * Long runs of mixed calls (promises 1 to 22), each answer compared with the plain model's. The
 * numbers come from a fixed row, so that every run of this test makes the same calls.
 */
public final class ModelRunsTest {
    private static final int RUNS = 2500;
    /** A few below 512, as some turns make two or three calls. */
    private static final int CALLS = 505;
    private static final String LETTERS = "mlfdbs";

    private final Due due = new Due("ModelRuns");
    private final TreeMap<String, Integer> kinds = new TreeMap<>();
    private long seed = 20261119;
    private NamedMoves program;
    private PlainModel model;
    private int run;
    private int call;
    private int mostSize;
    private int hooks;
    private int lookEvery;
    private boolean withTexts;

    public static void main(String[] args) {
        new ModelRunsTest().compare();
    }

    private void compare() {
        for (run = 0; run < RUNS; run++) {
            program = new NamedMoves();
            model = new PlainModel();
            mostSize = pick(13) + 1;
            hooks = 2 + pick(7);
            lookEvery = 2 << pick(4);
            withTexts = pick(2) == 0;
            for (call = 0; call < CALLS; call++) {
                one();
            }
        }
        for (String kind : ("setHeavy+ setHeavy-1 make+ make-1 make-3 link+ link-1 link-2 follow+ follow-1"
                + " follow-2 drop+ drop-1 begin+ begin-2 carry+ carry-1 carry-2 lose+ lose-1 lose-2 lose-3"
                + " mend+ mend-1 mend-2 undo+ undo-2 append+ append-1 append-3 clearText+ run+ run-1000"
                + " count+ count-1 hook+ hook-1 hook-9 copy+ copy-1 copy-9 where+ where-1 where-9"
                + " named+ named-1 garbage+ stepsLeft+ stepsLeft-2 freeThen+").split(" ")) {
            due.holds("answers of the kind " + kind + " are met often", kinds.getOrDefault(kind, 0) > 50);
        }
        due.end();
    }

    /** A number from 0 on, below a bound. */
    private int pick(int bound) {
        seed = seed * 6364136223846793005L + 1442695040888963407L;
        return (int) ((seed >>> 33) % bound);
    }

    /** Mostly a number of the range, seldom one beside it. */
    private int near(int least, int most) {
        int odd = pick(60);
        if (odd == 0) {
            return least - 1;
        }
        return odd == 1 ? most + 1 : least + pick(most - least + 1);
    }

    private int someHook() {
        return pick(20) == 0 ? near(0, 7) : pick(hooks);
    }

    private int someThing() {
        return near(0, Math.max(0, model.count(0) - 1));
    }

    /** Mostly a thing of these, which the call that is to come can do something with. */
    private int thingOf(List<Integer> things) {
        return things.isEmpty() || pick(5) == 0 ? someThing() : things.get(pick(things.size()));
    }

    private int someAddress() {
        List<Integer> addresses = model.addresses();
        return addresses.isEmpty() || pick(10) == 0 ? near(0, 260) : addresses.get(pick(addresses.size()));
    }

    private void same(String name, int got, int want, int... arguments) {
        String kind = name + (want >= 0 ? "+" : String.valueOf(Math.max(want, -1000)));
        kinds.merge(kind, 1, Integer::sum);
        StringBuilder told = new StringBuilder("run " + run + " call " + call + " " + name + "(");
        if (got != want) {
            for (int argument : arguments) {
                told.append(argument).append(' ');
            }
        }
        due.same(told + ")", got, want);
    }

    private void one() {
        if (pick(lookEvery) == 0) {
            look();
            return;
        }
        int what = pick(100);
        if (what < 3) {
            int bound = near(2, 13);
            same("setHeavy", program.setHeavy(bound), model.act('h', bound), bound);
        } else if (what < 21) {
            int size = pick(30) == 0 ? near(1, 12) : 1 + pick(Math.min(12, mostSize));
            int hook = someHook();
            same("make", program.make(size, hook), model.act('m', size, hook), size, hook);
        } else if (what < 38) {
            int hook = someHook();
            int name = near(0, 1);
            int other = someHook();
            same("link", program.link(hook, name, other), model.act('l', hook, name, other), hook, name, other);
        } else if (what < 50) {
            int hook = someHook();
            int name = near(0, 1);
            int other = someHook();
            same("follow", program.follow(hook, name, other), model.act('f', hook, name, other), hook, name, other);
        } else if (what < 54) {
            int hook = pick(12) == 0 ? -1 + pick(2) * 9 : someHook();
            same("drop", program.drop(hook), model.act('d', hook), hook);
        } else {
            moversOrText(what);
        }
    }

    private void moversOrText(int what) {
        if (what < 60) {
            same("begin", program.begin(), model.act('b'));
        } else if (what < 71) {
            int steps = pick(8) == 0 ? near(1, 99) : 1 + pick(3);
            same("carry", program.carry(steps), model.act('s', steps), steps);
        } else if (what < 80) {
            int thing = thingOf(model.thingsWithNotes());
            same("lose", program.lose(thing), model.act('o', thing), thing);
        } else if (what < 85) {
            int thing = thingOf(model.thingsWithTwins());
            same("mend", program.mend(thing), model.act('e', thing), thing);
        } else if (what < 88) {
            undoSome(1);
        } else if (what < 89) {
            undoSome(1 + pick(6));
        } else if (!withTexts) {
            same("begin", program.begin(), model.act('b'));
        } else if (what < 91) {
            same("clearText", program.clearText(), model.clearText());
        } else if (what < 97) {
            addText();
        } else {
            same("run", program.run(), model.run());
        }
    }

    private void undoSome(int times) {
        for (int time = 0; time < times && call < CALLS; time++) {
            same("undo", program.undo(), model.undo());
            call++;
            if (pick(2) == 0) {
                look();
                call++;
            }
        }
    }

    private void addText() {
        StringBuilder errands = new StringBuilder();
        int number = pick(60) == 0 ? 30 : 1 + pick(3);
        for (int index = 0; index < number; index++) {
            errands.append(someErrand());
        }
        if (pick(4) == 0) {
            errands.setCharAt(pick(errands.length()), "0123456789,;mlfdbsx \u00ff\u0001".charAt(pick(22)));
        }
        if (pick(6) == 0) {
            errands.setLength(pick(errands.length()));
        }
        for (int index = 0; index < errands.length() && call < CALLS; index++) {
            add(errands.charAt(index));
        }
        if (pick(20) == 0) {
            add(pick(3) == 0 ? pick(2) * 256 : near(1, 255));
        }
        if (pick(2) == 0) {
            same("run", program.run(), model.run());
            call++;
        }
    }

    private void add(int character) {
        same("append", program.append(character), model.append(character), character);
        call++;
    }

    private String someErrand() {
        char letter = LETTERS.charAt(pick(6));
        switch (letter) {
            case 'm': return "m" + (1 + pick(Math.min(12, mostSize))) + "," + pick(hooks) + ";";
            case 'd': return "d" + pick(hooks) + ";";
            case 's': return "s" + pick(12) + ";";
            case 'b': return "b;";
            default: return letter + "" + pick(hooks) + "," + pick(2) + "," + pick(hooks) + ";";
        }
    }

    private void look() {
        int address = someAddress();
        int thing = someThing();
        int hook = near(0, 7);
        int number = near(0, 13);
        int property = near(0, 5);
        int index = near(0, 2);
        switch (pick(9)) {
            case 0:
                same("hook", program.hook(hook), model.hook(hook), hook);
                break;
            case 1:
            case 2:
                same("copy", program.copy(address, property), model.copy(address, property), address, property);
                break;
            case 3:
                same("where", program.where(thing, index), model.where(thing, index), thing, index);
                break;
            case 4:
                same("named", program.named(hook), model.named(hook), hook);
                break;
            case 5:
                same("garbage", program.garbage(), model.garbage());
                break;
            case 6:
                same("stepsLeft", program.stepsLeft(), model.stepsLeft());
                break;
            case 7:
                same("freeThen", program.freeThen(), model.freeThen());
                break;
            default:
                same("count", program.count(number), model.count(number), number);
                break;
        }
    }
}
