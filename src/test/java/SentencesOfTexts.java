/** Tests of the terms of texts. */
final class SentencesOfTexts {
    private static final String LETTERS = "mlfdbs";

    private SentencesOfTexts() {
    }

    static void all(Sentences of) {
        of.under("Texts");
        of.test("A text of at most 80 characters can be run:", SentencesOfTexts::eightyCharacters);
        of.test("a row of errands, each one letter and its numbers, ended by \";\":", SentencesOfTexts::rows);
        of.test("\"m\" size \",\" hook (make),", SentencesOfTexts::errandOfMake);
        of.test("\"l\" hook \",\" name \",\" hook (link),", SentencesOfTexts::errandOfLink);
        of.test("\"f\" hook \",\" name \",\" hook (follow),", SentencesOfTexts::errandOfFollow);
        of.test("\"d\" hook (drop),", SentencesOfTexts::errandOfDrop);
        of.test("\"b\" (begin),", SentencesOfTexts::errandOfBegin);
        of.test("\"s\" steps (carry).", SentencesOfTexts::errandOfCarry);
        of.test("A number is 1 to 2 digits", SentencesOfTexts::digits);
        of.test("without a 0 in front of another one;", SentencesOfTexts::zeroInFront);
        of.test("nothing else may stand in it.", SentencesOfTexts::nothingElse);
        of.test("The errands are read and run one by one, each as its \";\" is read.", SentencesOfTexts::oneByOne);
        of.test("The text fails at the first character that is not allowed where it stands",
                SentencesOfTexts::notAllowed);
        of.test("(also a digit too many),", SentencesOfTexts::digitTooMany);
        of.test("and at the first errand whose call returns an error code", SentencesOfTexts::errandsThatFail);
        of.test("(the place is then that of its letter);", SentencesOfTexts::placeOfTheLetter);
        of.test("the place is the offset (from 0) of this character,", SentencesOfTexts::offsets);
        of.test("or the length of the text if it ends where something is missing.", SentencesOfTexts::missing);
        of.test("If a text fails, nothing that it has done stays.", SentencesOfTexts::nothingStays);
    }

    /** Two things, as small texts ask for: 0 of 2 places on hook 0, 1 of 7 places on hook 1. */
    private static NamedMoves with(String text) {
        return Stores.withText(Stores.lightAndHeavy(), text);
    }

    private static void answers(Due due, String text, int answer) {
        due.same("run of " + text, with(text).run(), answer);
    }

    private static void eightyCharacters(Due due) {
        String moves = "b;".repeat(40);
        NamedMoves x = Stores.withText(new NamedMoves(), moves);
        due.same("length", x.count(13), 80);
        due.same("an 81st one", x.append('b'), -3);
        due.same("length", x.count(13), 80);
        due.same("all are run", x.run(), 40);
        due.same("moves", x.count(9), 40);
        due.same("then there is room again", Stores.withText(x, moves).run(), 40);
        due.same("moves", x.count(9), 80);
        NamedMoves y = Stores.withText(new NamedMoves(), "m1,0;".repeat(16));
        due.same("80 characters of makes", y.run(), 16);
        due.same("things", y.count(0), 16);
        NamedMoves z = Stores.withText(new NamedMoves(), "");
        due.same("no character", z.run(), 0);
        z.append('d');
        due.same("one", z.run(), -1001);
    }

    private static void rows(Due due) {
        answers(due, "d0;", 1);
        answers(due, "d0;d1;", 2);
        answers(due, "d0;d1;d2;d3;d4;d5;d6;d7;", 8);
        answers(due, "dd0;", -1001);
        answers(due, "0;", -1000);
        answers(due, "d0;;", -1003);
        answers(due, ";", -1000);
        answers(due, "d0,d1;", -1002);
        answers(due, "d0d1;", -1002);
        answers(due, "d0:", -1002);
        for (int character = 1; character <= 255; character++) {
            if (LETTERS.indexOf(character) < 0) {
                answers(due, (char) character + "0,0,0;", -1000);
                answers(due, "d0;" + (char) character, -1003);
            }
        }
    }

    private static void errandOfMake(Due due) {
        NamedMoves x = with("m3,7;m12,6;");
        due.same("run", x.run(), 2);
        due.same("light", x.hook(7), 2);
        due.same("heavy", x.hook(6), 207);
        due.same("its size", x.copy(207, 1), 12);
        answers(due, "m1;", -1002);
        answers(due, "m;", -1001);
        answers(due, "m,0;", -1001);
        answers(due, "m1,;", -1003);
        answers(due, "m1,0,0;", -1004);
        answers(due, "m1,0;", 1);
        answers(due, "m0,0;", -1000);
        answers(due, "m13,0;", -1000);
        answers(due, "m1,8;", -1000);
    }

    private static void errandOfLink(Due due) {
        NamedMoves x = with("l0,1,1;l1,0,0;l1,1,7;");
        due.same("run", x.run(), 3);
        due.same("name 1", x.copy(0, 5), 200);
        due.same("name 0", x.copy(0, 4), -9);
        due.same("name 0", x.copy(200, 4), 0);
        due.same("emptied", x.copy(200, 5), -9);
        answers(due, "l0;", -1002);
        answers(due, "l0,1;", -1004);
        answers(due, "l0,,1;", -1003);
        answers(due, "l0,1,1,1;", -1006);
        answers(due, "l2,0,0;", -1000);
        answers(due, "l0,2,0;", -1000);
        answers(due, "l0,0,8;", -1000);
        answers(due, "l8,0,0;", -1000);
    }

    private static void errandOfFollow(Due due) {
        NamedMoves x = with("l0,1,1;f0,1,7;f0,0,0;");
        due.same("run", x.run(), 3);
        due.same("followed", x.hook(7), 200);
        due.same("emptied", x.hook(0), -9);
        answers(due, "f0;", -1002);
        answers(due, "f0,1;", -1004);
        answers(due, "f0,1,;", -1005);
        answers(due, "f0,1,1,1;", -1006);
        answers(due, "f2,0,0;", -1000);
        answers(due, "f0,2,0;", -1000);
        answers(due, "f0,0,8;", -1000);
        answers(due, "f8,0,0;", -1000);
    }

    private static void errandOfDrop(Due due) {
        NamedMoves x = with("d1;d7;");
        due.same("run", x.run(), 2);
        due.same("empty now", x.hook(1), -9);
        due.same("the other one stays", x.hook(0), 0);
        answers(due, "d;", -1001);
        answers(due, "d0,0;", -1002);
        answers(due, "d8;", -1000);
        answers(due, "d7;", 1);
    }

    private static void errandOfBegin(Due due) {
        NamedMoves x = with("b;");
        due.same("run", x.run(), 1);
        due.same("a move goes on", x.count(2), 1);
        due.same("queue", x.count(6), 2);
        answers(due, "b0;", -1001);
        answers(due, "b,;", -1001);
        answers(due, "b;b;", -1002);
        answers(due, "d0;d1;b;b;", 4);
    }

    private static void errandOfCarry(Due due) {
        NamedMoves x = with("b;s1;");
        due.same("run", x.run(), 2);
        due.same("queue", x.count(6), 1);
        due.same("99 steps", Stores.withText(x, "s99;").run(), 1);
        due.same("ended", x.count(9), 1);
        answers(due, "b;s;", -1003);
        answers(due, "b;s1,1;", -1004);
        answers(due, "b;s0;", -1002);
        answers(due, "s1;", -1000);
        answers(due, "b;s2;s1;", -1005);
    }

    private static void digits(Due due) {
        for (int steps = 1; steps <= 99; steps++) {
            answers(due, "b;s" + steps + ";", 2);
            answers(due, "b;s" + steps + "0;", steps < 10 ? 2 : -1005);
        }
        NamedMoves x = with("m9,2;m10,3;m11,4;m12,5;");
        due.same("run", x.run(), 4);
        int[] sizes = {9, 10, 11, 12};
        for (int index = 0; index < 4; index++) {
            due.same("size", x.copy(x.hook(index + 2), 1), sizes[index]);
        }
        answers(due, "s;", -1001);
        answers(due, "d10;", -1000);
        answers(due, "d99;", -1000);
    }

    private static void zeroInFront(Due due) {
        answers(due, "d0;", 1);
        for (int digit = 0; digit <= 9; digit++) {
            answers(due, "d0" + digit + ";", -1002);
            answers(due, "m1,0" + digit + ";", -1004);
            answers(due, "l0,0" + digit + ",0;", -1004);
            answers(due, "b;s0" + digit + ";", -1004);
        }
        answers(due, "b;s10;", 2);
        answers(due, "b;s90;", 2);
    }

    private static void nothingElse(Due due) {
        for (int character = 1; character <= 255; character++) {
            boolean digit = character >= '0' && character <= '9';
            if (!digit) {
                answers(due, "d" + (char) character + "0;", -1001);
                answers(due, "m1," + (char) character + "0;", -1003);
            }
            if (!digit && character != ';') {
                answers(due, "d1" + (char) character + ";", -1002);
                answers(due, "b;s1" + (char) character + "1;", -1004);
            }
        }
    }

    private static void oneByOne(Due due) {
        answers(due, "l2,0,2;", -1000);
        answers(due, "m1,2;l2,0,2;", 2);
        answers(due, "d9;x", -1000);
        answers(due, "d9x;", -1002);
        answers(due, "d9", -1002);
        answers(due, "d0;d9;;;", -1003);
        NamedMoves x = with("d0;d1;b;m1,0;m6,1;b;s9;");
        due.same("in their order", x.run(), 7);
        due.same("moves", x.count(9), 2);
        due.same("half", x.hook(0), 0);
        due.same("floor", x.hook(1), 200);
    }

    private static void notAllowed(Due due) {
        String[] texts = {"x", "d0;x", "dx", "d0x", "d0;d1;d2x", "m1x", "m1,x", "m1,1x", "l0,0x", "l0,0,x",
            "l0,0,0x", "bx", "b;s1x", "D0;", "d0; ", "d0;0", "d0;,"};
        int[] places = {0, 3, 1, 2, 8, 2, 3, 4, 4, 5, 6, 1, 4, 0, 3, 3, 3};
        due.same("as many places as texts", places.length, texts.length);
        for (int index = 0; index < texts.length; index++) {
            answers(due, texts[index], -1000 - places[index]);
            answers(due, texts[index] + "xyz", -1000 - places[index]);
        }
    }

    private static void digitTooMany(Due due) {
        answers(due, "d123;", -1003);
        answers(due, "d00;", -1002);
        answers(due, "m100,0;", -1003);
        answers(due, "m12,100;", -1006);
        answers(due, "l10,10,100;", -1009);
        answers(due, "b;s999;", -1005);
        answers(due, "b;s99;", 2);
    }

    private static void errandsThatFail(Due due) {
        answers(due, "m0,0;", -1000);
        answers(due, "m12,2;".repeat(4) + "m5,2;", 5);
        answers(due, "m12,2;".repeat(5), -1024);
        answers(due, "m5,2;".repeat(12), 12);
        answers(due, "m5,2;".repeat(13), -1060);
        answers(due, "l0,0,0;l2,0,0;", -1007);
        answers(due, "f0,0,2;f2,0,0;", -1007);
        answers(due, "d7;d8;", -1003);
        answers(due, "b;b;", -1002);
        answers(due, "b;s99;s1;", -1006);
        answers(due, "d8;d9;", -1000);
        answers(due, "d2;l0,0,2;", 2);
    }

    private static void placeOfTheLetter(Due due) {
        answers(due, "d10;", -1000);
        answers(due, "d0;m1,8;", -1003);
        answers(due, "d0;l0,0,0;", -1003);
        answers(due, "d0;f0,0,0;", -1003);
        answers(due, "d0;s1;", -1003);
        answers(due, "b;m1,2;b;", -1007);
        answers(due, "b;" + "s1;".repeat(3), -1008);
        NamedMoves x = Stores.withText(new NamedMoves(), "b;".repeat(38) + "d8;");
        due.same("the letter near the end", x.run(), -1076);
    }

    private static void offsets(Due due) {
        StringBuilder text = new StringBuilder();
        for (int length = 0; length < 78; length += 2) {
            NamedMoves x = Stores.withText(new NamedMoves(), text + "x");
            due.same("behind " + length, x.run(), -1000 - length);
            NamedMoves y = Stores.withText(new NamedMoves(), text + "bx");
            due.same("behind " + (length + 1), y.run(), -1001 - length);
            text.append("b;");
        }
        NamedMoves last = Stores.withText(new NamedMoves(), text + "bx");
        due.same("the last one of 80", last.run(), -1079);
    }

    private static void missing(Due due) {
        String[] whole = {"m12,0;", "l0,0,0;", "f0,0,0;", "d0;", "b;", "s99;"};
        for (String errand : whole) {
            for (int length = 1; length < errand.length(); length++) {
                answers(due, errand.substring(0, length), -1000 - length);
                answers(due, "d7;" + errand.substring(0, length), -1003 - length);
            }
        }
        NamedMoves x = Stores.withText(new NamedMoves(), "b;".repeat(39) + "d0");
        due.same("80 characters and no end", x.run(), -1080);
        NamedMoves y = Stores.withText(new NamedMoves(), "b;".repeat(39) + "b");
        due.same("79 characters and no end", y.run(), -1079);
        NamedMoves z = Stores.withText(new NamedMoves(), "d0;d1;");
        for (int length = 1; length <= 5; length++) {
            int answer = length == 3 ? 1 : -1000 - length;
            due.same("what was cleared is missing", Stores.withText(z, "d0;d1;".substring(0, length)).run(), answer);
            Stores.withText(z, "d0;d1;");
            due.same("the whole text", z.run(), 2);
            z.append('d');
            due.same("what was run is missing", z.run(), -1001);
        }
    }

    private static void nothingStays(Due due) {
        String[] texts = {"m3,2;m8,3;l2,0,3;l3,1,2;f2,0,4;d0;b;s1;m1,5;s99;b;q", "m1,0;d8;", "b;s1;", "d0;d1;b;b;",
            "b;s9;b;s9;b;b;"};
        int[] answers = {-1050, -1005, 2, 4, -1012};
        for (int index = 0; index < texts.length; index++) {
            String text = texts[index];
            NamedMoves x = with(text);
            due.same("run of " + text, x.run(), answers[index]);
            boolean same = Told.state(x).equals(Told.state(Stores.lightAndHeavy()));
            due.holds(text + " changes something only if it doesn't fail", same == (answers[index] < 0));
        }
        Told.changesNothing(due, "a text that fails in a move",
                () -> Stores.withText(Stores.midMove(), "m1,5;s1;f1,0,4;d0;s1;s1;"), NamedMoves::run, -1021);
        Told.changesNothing(due, "a text that fails with twins",
                () -> Stores.withText(Stores.twins(), "l0,0,1;b;s1;d0;s99;x"), NamedMoves::run, -1019);
    }
}
