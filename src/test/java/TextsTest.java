/** Promises 12 to 14: append, clearText, run. */
public final class TextsTest {
    private static final Due due = new Due("Texts");

    public static void main(String[] args) {
        append();
        clearText();
        runEveryErrand();
        runIsOneAction();
        failures();
        failuresOfErrands();
        failureKeepsEverything();
        longTexts();
        due.end();
    }

    private static void write(NamedMoves x, String text) {
        x.clearText();
        for (int place = 0; place < text.length(); place++) {
            due.same("12 append", x.append(text.charAt(place)), place + 1);
        }
    }

    private static void runs(NamedMoves x, String text, int answer) {
        write(x, text);
        due.same("14 run of " + text, x.run(), answer);
        due.same("14 text behind " + text, x.count(13), answer >= 0 ? 0 : text.length());
    }

    private static void append() {
        NamedMoves x = new NamedMoves();
        due.same("12 zero", x.append(0), -1);
        due.same("12 negative", x.append(-5), -1);
        due.same("12 above", x.append(256), -1);
        due.same("12 least", x.append(1), 1);
        due.same("12 greatest", x.append(255), 2);
        for (int length = 3; length <= 80; length++) {
            due.same("12 append", x.append(59), length);
        }
        due.same("12 full", x.append(59), -3);
        due.same("12 wrong first", x.append(256), -1);
        due.same("12 length", x.count(13), 80);
        due.same("12 no action", x.count(12), 0);
    }

    private static void clearText() {
        NamedMoves x = new NamedMoves();
        due.same("13 empty", x.clearText(), 0);
        write(x, "m1,0;");
        due.same("13 five", x.clearText(), 5);
        due.same("13 then none", x.clearText(), 0);
        due.same("13 no action", x.count(12), 0);
        due.same("13 nothing is run", x.run(), 0);
        due.same("13 nothing was made", x.count(0), 0);
    }

    private static void runEveryErrand() {
        NamedMoves x = new NamedMoves();
        runs(x, "m12,7;m3,0;m4,1;", 3);
        due.same("14 heavy", x.hook(7), 200);
        due.same("14 hook 0", x.hook(0), 0);
        due.same("14 hook 1", x.hook(1), 3);
        runs(x, "l0,1,1;", 1);
        due.same("14 linked", x.copy(0, 5), 3);
        runs(x, "f0,1,2;", 1);
        due.same("14 followed", x.hook(2), 3);
        runs(x, "d1;d7;", 2);
        due.same("14 dropped", x.hook(1), -9);
        runs(x, "b;", 1);
        due.same("14 begun", x.count(6), 2);
        runs(x, "s1;", 1);
        due.same("14 one step", x.count(6), 1);
        runs(x, "s99;", 1);
        due.same("14 ended", x.count(2), 0);
        due.same("14 swept", x.count(5), 60);
    }

    private static void runIsOneAction() {
        NamedMoves x = new NamedMoves();
        due.same("14 without errands", x.run(), 0);
        due.same("14 recorded", x.count(12), 1);
        runs(x, "m1,0;m2,1;m3,2;", 3);
        due.same("14 one action", x.count(12), 2);
        due.same("14 undo", x.undo(), 1);
        due.same("14 all of it", x.count(0), 0);
        due.same("14 the text is not back", x.count(13), 0);
        due.same("14 undo the empty one", x.undo(), 0);
        due.same("14 no more", x.undo(), -2);
    }

    private static void failures() {
        String[] texts = {
            "x", ";", "m", "m1", "m1,", "m1,0", "m;", "m,", "m1;", "m1,0,", "m1,;", "m01,0;", "m00,0;", "m1,00;",
            "m123,0;", "m10,100;", "m1 ,0;", " m1,0;", "m1,0 ;", "M1,0;", "m1,-1;", "m1,0;;", "m1,0;m", "b", "b1;",
            "b,;", "b;x", "d", "d;", "d0", "d0,1;", "d01;", "s", "s;", "s1", "s1,1;", "l0,0;", "l0,0,", "l0,0,0",
            "l0,0,0,0;", "f0;", "f0,0,a;", "h3;", "o0;", "m1,\u00ff;", "m1,/;", "m1,:;", "l0/0,0;"};
        int[] places = {
            0, 0, 1, 2, 3, 4, 1, 1, 2, 4, 3, 2, 2, 4,
            3, 6, 2, 0, 4, 0, 3, 5, 6, 1, 1,
            1, 2, 1, 1, 2, 2, 2, 1, 1, 2, 2, 4, 5, 6,
            6, 2, 5, 0, 0, 3, 3, 3, 2};
        due.same("14 as many places as texts", texts.length, places.length);
        for (int index = 0; index < texts.length; index++) {
            NamedMoves x = new NamedMoves();
            x.make(2, 0);
            runs(x, texts[index], -1000 - places[index]);
            due.same("14 nothing recorded", x.count(12), 1);
            due.same("14 nothing made", x.count(0), 1);
            due.same("14 no move", x.count(9), 0);
            due.same("14 the hook stays", x.hook(0), 0);
        }
    }

    private static void failuresOfErrands() {
        NamedMoves x = new NamedMoves();
        runs(x, "m0,0;", -1000);
        runs(x, "m13,0;", -1000);
        runs(x, "m1,0;m1,8;", -1005);
        runs(x, "m1,0;l1,0,0;", -1005);
        runs(x, "m1,0;l0,2,0;", -1005);
        runs(x, "m1,0;f3,0,0;", -1005);
        runs(x, "d8;", -1000);
        runs(x, "d0;d99;", -1003);
        runs(x, "s1;", -1000);
        runs(x, "b;s1;", -1002);
        runs(x, "m1,0;b;b;", -1007);
        runs(x, "m1,0;b;s0;", -1007);
        runs(x, "m1,0;b;s1;s1;", -1010);
        runs(x, "m12,0;m12,0;m12,0;m12,0;m12,0;m12,0;", -1030);
        runs(x, "d9;x", -1000);
        runs(x, "d9;x;", -1000);
        runs(x, "d9x", -1002);
        runs(x, "d0;b;d0;", 3);
    }

    private static void failureKeepsEverything() {
        NamedMoves x = new NamedMoves();
        x.make(2, 0);
        x.make(3, 1);
        runs(x, "l0,0,1;d1;m1,2;b;s1;m7,3;s9;q", -1026 - 2);
        due.same("14 name", x.copy(0, 4), -9);
        due.same("14 hook", x.hook(1), 2);
        due.same("14 things", x.count(0), 2);
        due.same("14 half", x.count(3), 0);
        due.same("14 moves", x.count(9), 0);
        due.same("14 floor", x.count(5), 60);
        due.same("14 free", x.count(4), 59);
        due.same("14 history", x.count(12), 2);
        due.same("14 again the same", x.run(), -1028);
        due.same("14 text", x.clearText(), 29);
    }

    private static void longTexts() {
        NamedMoves x = new NamedMoves();
        StringBuilder many = new StringBuilder();
        for (int index = 0; index < 40; index++) {
            many.append("b;");
        }
        runs(x, many.toString(), 40);
        due.same("14 forty moves", x.count(9), 40);
        due.same("14 even", x.count(3), 0);
        many.setLength(79);
        runs(x, many.toString(), -1079);
        due.same("14 the text goes on", x.append(';'), 80);
        due.same("14 whole now", x.run(), 40);
        runs(x, many.substring(0, 78) + "d1", -1080);
        due.same("14 eighty moves", x.count(9), 80);
    }
}
