/** Far-off arguments of every call, in every kind of state: each answers its code and changes nothing. */
public final class WrongArgumentsTest {
    private static final int[] WRONG = {Integer.MIN_VALUE, Integer.MIN_VALUE + 1, -1_000_000, -301, -64, -1,
        300, 1000, 1 << 30, Integer.MAX_VALUE - 1, Integer.MAX_VALUE};

    private static final Due due = new Due("WrongArguments");

    public static void main(String[] args) {
        wrongCalls(new NamedMoves(), false);
        for (int calls = 0; calls <= 4; calls++) {
            wrongCalls(someState(calls), true);
        }
        due.end();
    }

    /** A new object for each state: one object is promised to serve 512 calls only. */
    private static NamedMoves someState(int calls) {
        NamedMoves x = new NamedMoves();
        x.make(3, 0);
        x.make(7, 1);
        x.make(2, 2);
        x.link(0, 0, 1);
        x.link(1, 0, 2);
        x.append('b');
        due.same("7 begin", calls > 0 ? x.begin() : 3, 3);
        due.same("9 lose", calls > 1 ? x.lose(0) : 0, 0);
        due.same("8 carry", calls > 2 ? x.carry(1) : 1, 1);
        due.same("8 carry", calls > 3 ? x.carry(99) : 2, 2);
        return x;
    }

    private static void wrongCalls(NamedMoves x, boolean made) {
        StringBuilder before = told(x);
        for (int wrong : WRONG) {
            String call = "(" + wrong + ")";
            due.same("2 setHeavy" + call, x.setHeavy(wrong), -1);
            due.same("3 make size" + call, x.make(wrong, 0), -1);
            due.same("3 make hook" + call, x.make(1, wrong), -1);
            due.same("4 link hook" + call, x.link(wrong, 0, 0), -1);
            due.same("4 link name" + call, x.link(0, wrong, 0), -1);
            due.same("4 link other" + call, x.link(0, 0, wrong), -1);
            due.same("5 follow hook" + call, x.follow(wrong, 0, 0), -1);
            due.same("5 follow name" + call, x.follow(0, wrong, 0), -1);
            due.same("5 follow other" + call, x.follow(0, 0, wrong), -1);
            due.same("6 drop" + call, x.drop(wrong), -1);
            due.same("8 carry" + call, x.carry(wrong), -1);
            due.same("9 lose" + call, x.lose(wrong), -1);
            due.same("10 mend" + call, x.mend(wrong), -1);
            due.same("12 append" + call, x.append(wrong), -1);
            due.same("15 count" + call, x.count(wrong), -1);
            due.same("16 hook" + call, x.hook(wrong), -1);
            due.same("17 copy address" + call, x.copy(wrong, 0), -1);
            due.same("17 copy what" + call, x.copy(0, wrong), -1);
            due.same("18 where thing" + call, x.where(wrong, 0), -1);
            due.same("18 where index" + call, x.where(0, wrong), made && wrong >= 0 ? -9 : -1);
            due.same("19 named" + call, x.named(wrong), -1);
        }
        due.holds("nothing changed", told(x).compareTo(before) == 0);
    }

    private static StringBuilder told(NamedMoves x) {
        StringBuilder told = new StringBuilder();
        for (int what = 0; what < 14; what++) {
            told.append(x.count(what)).append(' ');
        }
        for (int hook = 0; hook < 8; hook++) {
            told.append(x.hook(hook)).append(' ');
        }
        for (int address : new int[] {0, 3, 100, 103, 200}) {
            for (int what = 0; what < 6; what++) {
                told.append(x.copy(address, what)).append(' ');
            }
        }
        return told;
    }
}
