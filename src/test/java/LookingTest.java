/** Promises 15 to 18: count, hook, copy, where. */
public final class LookingTest {
    private static final Due due = new Due("Looking");

    public static void main(String[] args) {
        count();
        hook();
        copy();
        where();
        lookingReadsNothing();
        due.end();
    }

    /** A move in the midst: 0 (3 places) names 1 (2) and 2 (7, heavy); 1 was carried by following. */
    private static NamedMoves midst() {
        NamedMoves x = new NamedMoves();
        x.make(3, 0);
        x.make(2, 1);
        x.make(7, 2);
        x.make(4, 3);
        x.link(0, 0, 1);
        x.link(0, 1, 2);
        x.drop(1);
        x.drop(2);
        x.drop(3);
        x.begin();
        x.follow(0, 0, 1);
        return x;
    }

    private static void counts(String when, NamedMoves x, int... wanted) {
        for (int what = 0; what < wanted.length; what++) {
            due.same("15 " + when + " count(" + what + ")", x.count(what), wanted[what]);
        }
    }

    private static void count() {
        NamedMoves x = midst();
        due.same("15 below", x.count(-1), -1);
        due.same("15 above", x.count(14), -1);
        due.same("15 far above", x.count(Integer.MAX_VALUE), -1);
        x.append(65);
        counts("midst", x, 4, 6, 1, 1, 59, 53, 2, 4, 0, 0, 0, 6, 5, 1);
        x.lose(1);
        counts("lost", x, 4, 6, 1, 1, 59, 53, 2, 6, 1, 0, 0, 6, 5, 1);
        x.make(8, 4);
        x.make(5, 5);
        counts("made", x, 6, 8, 1, 1, 54, 45, 2, 6, 1, 0, 0, 6, 5, 1);
        x.carry(99);
        counts("ended", x, 6, 5, 0, 1, 54, 45, 0, 0, 1, 1, 0, 6, 5, 1);
        x.setHeavy(4);
        x.begin();
        x.follow(0, 0, 6);
        x.lose(1);
        x.follow(0, 0, 7);
        counts("next", x, 6, 8, 1, 0, 54, 45, 4, 2, 2, 1, 0, 4, 5, 1);
    }

    private static void hook() {
        NamedMoves x = midst();
        due.same("16 below", x.hook(-1), -1);
        due.same("16 above", x.hook(8), -1);
        due.same("16 empty", x.hook(7), -9);
        due.same("16 zero is an address", new NamedMoves().hook(0), -9);
        due.same("16 hook 0", x.hook(0), 100);
        due.same("16 hook 1", x.hook(1), 103);
        x.make(12, 7);
        due.same("16 floor", x.hook(7), 207);
    }

    private static void copy() {
        NamedMoves x = midst();
        int[][] rows = {
            {0, 0, 3, 100, 0, 3, 200}, {3, 1, 2, 103, 0, -9, -9}, {5, 3, 4, -9, 0, -9, -9},
            {100, 0, 3, -9, 0, 103, 200}, {103, 1, 2, -9, 0, -9, -9}, {200, 2, 7, -9, 0, -9, -9}};
        for (int[] row : rows) {
            for (int what = 0; what < 6; what++) {
                due.same("17 copy(" + row[0] + ", " + what + ")", x.copy(row[0], what), row[what + 1]);
            }
            due.same("17 below", x.copy(row[0], -1), -1);
            due.same("17 above", x.copy(row[0], 6), -1);
        }
        int[] nothing = {-100, -1, 1, 4, 9, 63, 64, 99, 101, 105, 163, 164, 199, 201, 206, 207, 259, 260, 300,
            Integer.MIN_VALUE, Integer.MAX_VALUE};
        for (int address : nothing) {
            due.same("17 copy(" + address + ", 0)", x.copy(address, 0), -1);
            due.same("17 copy(" + address + ", 2)", x.copy(address, 2), -1);
        }
        x.follow(0, 1, 2);
        due.same("17 marked", x.copy(200, 3), 1);
        x.lose(0);
        due.same("17 lost", x.copy(0, 2), -9);
        x.drop(0);
        x.carry(99);
        x.begin();
        due.same("17 note to address 0", x.copy(103, 2), 0);
    }

    private static void where() {
        NamedMoves x = midst();
        due.same("18 below", x.where(-1, 0), -1);
        due.same("18 not made", x.where(4, 0), -1);
        due.same("18 negative", x.where(0, -1), -1);
        due.same("18 both", x.where(4, -1), -1);
        due.same("18 old", x.where(0, 0), 0);
        due.same("18 new", x.where(0, 1), 100);
        due.same("18 no more", x.where(0, 2), -9);
        due.same("18 far", x.where(0, Integer.MAX_VALUE), -9);
        due.same("18 heavy", x.where(2, 0), 200);
        due.same("18 heavy, one", x.where(2, 1), -9);
        due.same("18 not carried", x.where(3, 0), 5);
        due.same("18 not carried", x.where(3, 1), -9);
        x.carry(99);
        due.same("18 gone", x.where(3, 0), -9);
        due.same("18 one", x.where(0, 0), 100);
        x.begin();
        due.same("18 smallest first, though it is the newer one", x.where(0, 0), 0);
        due.same("18 then the old one", x.where(0, 1), 100);
    }

    private static void lookingReadsNothing() {
        NamedMoves x = midst();
        int recorded = x.count(12);
        for (int address = 0; address < 10; address++) {
            for (int what = 0; what < 6; what++) {
                x.copy(address, what);
                x.copy(100 + address, what);
                x.copy(200 + address, what);
            }
        }
        for (int hook = 0; hook < 8; hook++) {
            x.hook(hook);
            x.where(hook, 0);
            x.named(hook);
        }
        x.garbage();
        x.stepsLeft();
        x.freeThen();
        due.same("15 queue", x.count(6), 2);
        due.same("15 kept", x.count(7), 4);
        due.same("15 history", x.count(12), recorded);
        due.same("17 not marked", x.copy(200, 3), 0);
        due.same("17 old name", x.copy(0, 4), 3);
        due.same("17 new name", x.copy(100, 4), 103);
        due.same("22 the move goes on", x.count(2), 1);
        due.same("22 steps", x.carry(99), 3);
    }
}
