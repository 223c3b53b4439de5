/** Promises 1 to 6: a new object, setHeavy, make, link, follow, drop. */
public final class OwnerTest {
    private static final Due due = new Due("Owner");

    public static void main(String[] args) {
        newObject();
        setHeavy();
        make();
        makeOnTheFloor();
        makeWithTheRoomThatIsKept();
        makeFortyThings();
        link();
        linkDuringAMove();
        follow();
        followDuringAMove();
        drop();
        due.end();
    }

    private static void newObject() {
        NamedMoves x = new NamedMoves();
        int[] counts = {0, 0, 0, 0, 64, 60, 0, 0, 0, 0, 0, 6, 0, 0};
        for (int what = 0; what < counts.length; what++) {
            due.same("1 count(" + what + ")", x.count(what), counts[what]);
        }
        for (int hook = 0; hook < 8; hook++) {
            due.same("1 hook", x.hook(hook), -9);
            due.same("1 named", x.named(hook), 0);
        }
        for (int address = -1; address <= 301; address++) {
            due.same("1 copy(" + address + ", 0)", x.copy(address, 0), -1);
        }
        due.same("1 garbage", x.garbage(), 0);
        due.same("1 freeThen", x.freeThen(), 64);
        due.same("1 undo", x.undo(), -2);
        NamedMoves other = new NamedMoves();
        due.same("1 make", x.make(1, 0), 0);
        due.same("1 another object has nothing of it", other.count(0), 0);
    }

    private static void setHeavy() {
        NamedMoves x = new NamedMoves();
        due.same("2 below", x.setHeavy(1), -1);
        due.same("2 above", x.setHeavy(14), -1);
        due.same("2 far below", x.setHeavy(Integer.MIN_VALUE), -1);
        due.same("2 nothing recorded", x.count(12), 0);
        due.same("2 make(5)", x.make(5, 0), 0);
        due.same("2 make(6)", x.make(6, 1), 1);
        due.same("2 five is light", x.hook(0), 0);
        due.same("2 six is heavy", x.hook(1), 200);
        due.same("2 smallest bound", x.setHeavy(2), 6);
        due.same("2 count(11)", x.count(11), 2);
        due.same("2 make(1)", x.make(1, 2), 2);
        due.same("2 make(2)", x.make(2, 3), 3);
        due.same("2 one is light", x.hook(2), 5);
        due.same("2 two is heavy", x.hook(3), 206);
        due.same("2 greatest bound", x.setHeavy(13), 2);
        due.same("2 make(12)", x.make(12, 4), 4);
        due.same("2 nothing is heavy", x.hook(4), 6);
        due.same("2 it was recorded", x.count(12), 5);
        due.same("2 undo make", x.undo(), 4);
        due.same("2 undo setHeavy", x.undo(), 3);
        due.same("2 the bound is back", x.count(11), 2);
        due.same("2 the same bound", x.setHeavy(2), 2);
        due.same("2 it was recorded too", x.count(12), 4);
        due.same("2 begin", x.begin(), 4);
        due.same("2 what was made as light stays light", x.hook(0), 100);
        due.same("2 carry", x.carry(9), 4);
    }

    private static void make() {
        NamedMoves x = new NamedMoves();
        int[][] wrong = {{0, 0}, {13, 0}, {-1, 0}, {1, -1}, {1, 8}, {Integer.MAX_VALUE, Integer.MIN_VALUE}};
        for (int[] pair : wrong) {
            due.same("3 make(" + pair[0] + ", " + pair[1] + ")", x.make(pair[0], pair[1]), -1);
        }
        due.same("3 nothing recorded", x.count(12), 0);
        due.same("3 first", x.make(3, 7), 0);
        due.same("3 second", x.make(1, 0), 1);
        due.same("3 behind one another", x.hook(0), 3);
        due.same("3 in place of what hangs there", x.make(5, 7), 2);
        due.same("3 it hangs there", x.hook(7), 4);
        due.same("3 names are empty", x.copy(4, 4), -9);
        due.same("3 both", x.copy(4, 5), -9);
        due.same("3 size", x.copy(4, 1), 5);
        due.same("3 thing", x.copy(4, 0), 2);
        due.same("3 no copy inside of it", x.copy(5, 0), -1);
        due.same("3 free", x.count(4), 55);
        due.same("3 recorded", x.count(12), 3);
        for (int number = 3; number < 14; number++) {
            due.same("3 make(5, 1)", x.make(5, 1), number);
        }
        due.same("3 full", x.make(1, 1), -3);
        due.same("3 wrong before full", x.make(0, 1), -1);
        due.same("3 the hook stays", x.hook(1), 59);
        due.same("3 none was made", x.count(0), 14);
        due.same("3 the floor has room", x.make(6, 1), 14);
    }

    private static void makeOnTheFloor() {
        NamedMoves x = new NamedMoves();
        int[] sizes = {6, 8, 10, 7, 9};
        int[] places = {200, 206, 214, 224, 231};
        for (int index = 0; index < sizes.length; index++) {
            due.same("3 heavy", x.make(sizes[index], index), index);
            due.same("3 laid", x.hook(index), places[index]);
        }
        x.drop(0);
        x.drop(2);
        due.same("3 begin", x.begin(), 3);
        due.same("3 carry", x.carry(3), 3);
        due.same("3 two gaps", x.count(5), 36);
        due.same("3 too long for the first gap", x.make(7, 5), 5);
        due.same("3 in the second one", x.hook(5), 214);
        due.same("3 fits the first gap whole", x.make(6, 6), 6);
        due.same("3 there", x.hook(6), 200);
        due.same("3 behind all", x.make(12, 7), 7);
        due.same("3 there", x.hook(7), 240);
        due.same("3 no gap of nine", x.make(9, 7), -3);
        due.same("3 a gap of eight at the end", x.make(8, 7), 8);
        due.same("3 there", x.hook(7), 252);
        due.same("3 three places are free, but not six", x.count(5), 3);
        due.same("3 none", x.make(6, 7), -3);
        due.same("3 setHeavy", x.setHeavy(3), 6);
        due.same("3 three", x.make(3, 7), 9);
        due.same("3 between", x.hook(7), 221);
        due.same("3 full", x.make(3, 7), -3);
    }

    private static void makeWithTheRoomThatIsKept() {
        NamedMoves x = new NamedMoves();
        x.setHeavy(13);
        x.make(12, 0);
        x.make(12, 1);
        x.make(12, 2);
        x.link(0, 0, 1);
        x.link(0, 1, 2);
        x.drop(1);
        x.drop(2);
        due.same("3 begin", x.begin(), 1);
        due.same("3 kept", x.count(7), 24);
        due.same("3 free", x.count(4), 52);
        due.same("3 make", x.make(12, 1), 3);
        due.same("3 make", x.make(12, 2), 4);
        due.same("3 four are left", x.make(5, 3), -3);
        due.same("3 just these", x.make(4, 3), 5);
        due.same("3 laid in the present half", x.hook(3), 136);
        due.same("3 no more", x.make(1, 4), -3);
        due.same("3 it does not join the queue", x.count(6), 1);
        due.same("3 setHeavy", x.setHeavy(6), 13);
        due.same("3 the floor keeps nothing", x.make(12, 5), 6);
        due.same("3 marked", x.copy(200, 3), 1);
        due.same("3 nor does it join", x.count(6), 1);
        due.same("3 carry", x.carry(99), 3);
        due.same("3 what was made stays", x.count(1), 7);
        due.same("3 none is marked any more", x.copy(200, 3), 0);
        due.same("3 full", x.count(4), 0);
    }

    private static void makeFortyThings() {
        NamedMoves x = new NamedMoves();
        for (int number = 0; number < 40; number++) {
            due.same("3 make", x.make(1, number % 8), number);
        }
        due.same("3 forty", x.make(1, 0), -3);
        due.same("3 forty, heavy", x.make(6, 0), -3);
        due.same("3 wrong first", x.make(6, 8), -1);
        due.same("3 count", x.count(0), 40);
        x.begin();
        x.carry(99);
        due.same("3 eight are left", x.count(1), 8);
        due.same("3 but forty were made", x.make(1, 0), -3);
        due.same("3 undo carry", x.undo(), 4);
        due.same("3 undo begin", x.undo(), 3);
        due.same("3 undo the last one made", x.undo(), 2);
        due.same("3 then one more", x.make(1, 0), 39);
    }

    private static void link() {
        NamedMoves x = new NamedMoves();
        int[][] wrong = {{-1, 0, 0}, {8, 0, 0}, {0, -1, 0}, {0, 2, 0}, {0, 0, -1}, {0, 0, 8}};
        for (int[] row : wrong) {
            due.same("4 empty and wrong", x.link(row[0], row[1], row[2]), -1);
        }
        due.same("4 empty", x.link(0, 0, 0), -2);
        x.make(2, 0);
        x.make(7, 1);
        due.same("4 nothing recorded", x.count(12), 2);
        for (int[] row : wrong) {
            due.same("4 wrong", x.link(row[0], row[1], row[2]), -1);
        }
        due.same("4 to the floor", x.link(0, 0, 1), 200);
        due.same("4 the same hook", x.link(0, 1, 0), 0);
        due.same("4 from the floor", x.link(1, 1, 0), 0);
        due.same("4 name 0", x.copy(0, 4), 200);
        due.same("4 name 1", x.copy(0, 5), 0);
        due.same("4 name 1 there", x.copy(200, 5), 0);
        due.same("4 name 0 there", x.copy(200, 4), -9);
        due.same("4 becomes empty", x.link(0, 0, 2), 300);
        due.same("4 empty now", x.copy(0, 4), -9);
        due.same("4 the other stays", x.copy(0, 5), 0);
        due.same("4 recorded", x.count(12), 5);
        due.same("4 hooks stay", x.hook(0), 0);
    }

    private static void linkDuringAMove() {
        NamedMoves x = new NamedMoves();
        x.make(2, 0);
        x.make(7, 1);
        due.same("4 begin", x.begin(), 2);
        due.same("4 new addresses", x.link(0, 0, 1), 200);
        due.same("4 in the new copy", x.copy(100, 4), 200);
        due.same("4 not in the old one", x.copy(0, 4), -9);
        due.same("4 back", x.link(1, 0, 0), 100);
        due.same("4 nothing joins twice", x.count(6), 2);
        due.same("4 carry", x.carry(9), 2);
        due.same("4 it stays", x.copy(200, 4), 100);
    }

    private static void follow() {
        NamedMoves x = new NamedMoves();
        int[][] wrong = {{-1, 0, 0}, {8, 0, 0}, {0, -1, 0}, {0, 2, 0}, {0, 0, -1}, {0, 0, 8}};
        for (int[] row : wrong) {
            due.same("5 empty and wrong", x.follow(row[0], row[1], row[2]), -1);
        }
        due.same("5 empty", x.follow(0, 0, 0), -2);
        x.make(2, 0);
        x.make(3, 1);
        x.make(4, 2);
        x.link(0, 0, 1);
        x.link(1, 1, 2);
        x.drop(2);
        due.same("5 one step", x.follow(0, 0, 3), 2);
        due.same("5 it hangs there", x.hook(3), 2);
        due.same("5 the same hook", x.follow(3, 1, 3), 5);
        due.same("5 in place", x.hook(3), 5);
        due.same("5 empty name", x.follow(3, 0, 3), 300);
        due.same("5 becomes empty", x.hook(3), -9);
        due.same("5 recorded", x.count(12), 5);
        due.same("5 now it is empty", x.follow(3, 0, 0), -2);
        due.same("5 hook 0 stays", x.hook(0), 0);
    }

    private static void followDuringAMove() {
        NamedMoves x = new NamedMoves();
        x.make(2, 0);
        x.make(3, 1);
        x.make(6, 2);
        x.link(0, 0, 1);
        x.link(0, 1, 2);
        x.drop(1);
        x.drop(2);
        due.same("5 begin", x.begin(), 1);
        due.same("5 the name is still old", x.copy(100, 4), 2);
        due.same("5 it is carried", x.follow(0, 0, 1), 102);
        due.same("5 the name too", x.copy(100, 4), 102);
        due.same("5 it joins", x.count(6), 2);
        due.same("5 the old one keeps its name", x.copy(0, 4), 2);
        due.same("5 a note", x.copy(2, 2), 102);
        due.same("5 not marked yet", x.copy(200, 3), 0);
        due.same("5 the heavy one", x.follow(0, 1, 2), 200);
        due.same("5 is marked", x.copy(200, 3), 1);
        due.same("5 and joins", x.count(6), 3);
        due.same("5 once", x.follow(0, 1, 3), 200);
        due.same("5 no more", x.count(6), 3);
        due.same("5 carried once", x.follow(0, 0, 4), 102);
        due.same("5 no more", x.count(6), 3);
        due.same("5 steps", x.carry(99), 3);
    }

    private static void drop() {
        NamedMoves x = new NamedMoves();
        due.same("6 below", x.drop(-1), -1);
        due.same("6 above", x.drop(8), -1);
        due.same("6 nothing recorded", x.count(12), 0);
        due.same("6 empty", x.drop(7), 300);
        due.same("6 recorded all the same", x.count(12), 1);
        x.make(2, 0);
        x.make(7, 7);
        due.same("6 address", x.drop(7), 200);
        due.same("6 zero", x.drop(0), 0);
        due.same("6 empty now", x.hook(0), -9);
        due.same("6 the copy stays", x.copy(0, 1), 2);
        due.same("6 undo", x.undo(), 4);
        due.same("6 it hangs again", x.hook(0), 0);
    }
}
