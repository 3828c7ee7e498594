/** DOC.md, Terms, part 1: each sentence that names a bound of the door or of its text has a test of its own. */
public final class DoorBoundsTest {
    public static void main(String[] args) {
        rooms();
        wide();
        places();
        placeOfTheHall();
        behindTheLast();
        hard();
        sorts();
        bulk();
        push();
        hundredLetters();
        blanksBetweenTokens();
        roomsFirstOfAll();
        hardOnce();
        howManyItems();
        tokensAreNoOtherLetters();
        numbersOfOneOrTwoDigits();
        endsTooEarly();
        firstFault();
        Script.end();
    }

    private static final String ROOMS = "THE DOOR has 3 to 6 ROOMS (4 at first)";

    private static void rooms() {
        Script.due(ROOMS, "count(0)", new WingDoor().count(0), 4);
        for (int n = 0; n <= 99; n++) {
            boolean fine = n >= 3 && n <= 6;
            WingDoor x = Script.told(ROOMS, "r" + n + " 1;", fine ? 1 : -11);
            Script.due(ROOMS, "count(0) behind r" + n, x.count(0), fine ? n : 4);
            Script.due(ROOMS, "count(1) behind r" + n, x.count(1), fine ? 1 : 2);
            Script.due(ROOMS, "count(6) behind r" + n, x.count(6), fine ? 0 : n < 10 ? 5 : 6);
        }
    }

    private static final String WIDE = "each as WIDE as is told (1 .. 5; 2 at first)";

    private static void wide() {
        Script.due(WIDE, "count(1)", new WingDoor().count(1), 2);
        for (int n = 0; n <= 99; n++) {
            boolean fine = n >= 1 && n <= 5;
            WingDoor x = Script.told(WIDE, "r3 " + n + ";", fine ? 1 : -13);
            Script.due(WIDE, "count(1) behind " + n, x.count(1), fine ? n : 2);
            Script.due(WIDE, "count(0) behind " + n, x.count(0), fine ? 3 : 4);
        }
    }

    private static final String PLACES = "PLACES 0 .. ROOMS less 1 are round it";

    private static void places() {
        for (int rooms = 3; rooms <= 6; rooms++) {
            WingDoor x = Script.told(PLACES, "r" + rooms + " 1;", 1);
            for (int place = -2; place <= 8; place++) {
                boolean fine = place >= 0 && place < rooms;
                Script.due(PLACES, rooms + ": room(" + place + ", 0)", x.room(place, 0), fine ? 0 : WingDoor.BAD);
                Script.due(PLACES, rooms + ": room(" + place + ", 1)", x.room(place, 1), fine ? 0 : WingDoor.BAD);
            }
        }
    }

    private static final String HALL = "0 is open to the STREET, the HALL's PLACE (ROOMS by 2, cut) to the HALL";
    private static final int[] HALL_PLACE = {-1, -1, -1, 1, 2, 2, 3};

    private static void placeOfTheHall() {
        for (int rooms = 3; rooms <= 6; rooms++) {
            WingDoor x = Script.told(HALL, "r" + rooms + " 1;h0;s1 9;", 3);
            int hall = HALL_PLACE[rooms];
            Script.due(HALL, "comes(0, 0)", x.comes(0, 0), 0);
            Script.due(HALL, "comes(0, 1)", x.comes(0, 1), 1);
            Script.due(HALL, "goer(0, 3)", x.goer(0, 3), 0);
            Script.due(HALL, rooms + " rooms: goer(1, 3)", x.goer(1, 3), hall);
            for (int place = 0; place < rooms; place++) {
                int who = place == 0 ? 1 : place == hall ? 2 : 0;
                Script.due(HALL, rooms + " rooms: room(" + place + ", 0)", x.room(place, 0), who);
            }
            Script.due(HALL, rooms + " rooms: goer(0, 5)", x.goer(0, 5), hall);
            Script.due(HALL, rooms + " rooms: goer(1, 5)", x.goer(1, 5), rooms - hall);
        }
    }

    private static final String LAST = "behind the last comes 0";

    private static void behindTheLast() {
        for (int rooms = 3; rooms <= 6; rooms++) {
            WingDoor x = Script.told(LAST, "r" + rooms + " 1;h0;s1 9;", 3);
            Script.due(LAST, "comes(0, 1)", x.comes(0, 1), 0);
            for (int place = HALL_PLACE[rooms] + 1; place < rooms; place++) {
                Script.due(LAST, "steps() to " + place, x.steps(), 0);
                Script.due(LAST, "goer(0, 3) at " + place, x.goer(0, 3), place);
            }
            // One fills the ROOM at 0, another WAITS until the ROOM that was the last comes there.
            Script.due(LAST, "comes(0, 0)", x.comes(0, 0), 1);
            Script.due(LAST, "comes(0, 0)", x.comes(0, 0), 2);
            Script.due(LAST, "room of the last", x.room(rooms - 1, 0), 1);
            Script.due(LAST, "steps() behind the last", x.steps(), rooms == 3 ? 2 : 1);
            Script.due(LAST, "goer(0, 2)", x.goer(0, 2), 2);
            Script.due(LAST, "goer(0, 3)", x.goer(0, 3), WingDoor.NONE);
            Script.due(LAST, "room(0, 0)", x.room(0, 0), 4);
            Script.due(LAST, "room(1, 0)", x.room(1, 0), rooms == 3 ? 0 : 2);
            Script.due(LAST, "room of the last, then", x.room(rooms - 1, 0), 0);
        }
    }

    private static final String HARD = "HARD (0 .. 20; 3 at first)";

    private static void hard() {
        Script.due(HARD, "count(2)", new WingDoor().count(2), 3);
        for (int n = 0; n <= 99; n++) {
            boolean fine = n <= 20;
            WingDoor x = Script.told(HARD, "h" + n + ";", fine ? 1 : -11);
            Script.due(HARD, "count(2) behind h" + n, x.count(2), fine ? n : 3);
            Script.due(HARD, "now(2) behind h" + n, x.now(2), fine ? n : 3);
        }
        Script.told(HARD, "h-1;", -11);
    }

    private static final String SORTS = "SORTS 0 .. (6 at most)";

    private static void sorts() {
        StringBuilder text = new StringBuilder();
        for (int many = 0; many <= 6; many++) {
            WingDoor x = Script.told(SORTS, text.toString(), many);
            Script.due(SORTS, "count(3)", x.count(3), many);
            Script.due(SORTS, "which()", x.which(), (1 << many) - 1);
            for (int s = -1; s <= 7; s++) {
                Script.due(SORTS, "sort(" + s + ", 1)", x.sort(s, 1), s >= 0 && s < many ? s + 1 : WingDoor.BAD);
            }
            text.append("s1 ").append(many + 1).append(';');
        }
        WingDoor x = Script.told(SORTS, text.toString(), -10 - 30);
        Script.due(SORTS, "count(3) behind a seventh", x.count(3), 0);
        Script.told(SORTS, text.substring(0, 31), -10 - 30);
        Script.told(SORTS, text.substring(0, 30) + "  h0;  s1 1;", -10 - 37);
        Script.told(SORTS, text.substring(0, 30) + "h0;", 7);
    }

    private static final String BULK = "BULK (1 .. 5, no more than WIDE)";

    private static void bulk() {
        for (int wide = 1; wide <= 5; wide++) {
            for (int n = 0; n <= 12; n++) {
                boolean fine = n >= 1 && n <= wide;
                WingDoor x = Script.told(BULK, "r3 " + wide + ";s" + n + " 0;", fine ? 2 : -10 - 6);
                Script.due(BULK, "sort(0, 0) behind " + n, x.sort(0, 0), fine ? n : WingDoor.BAD);
            }
        }
        for (int n = 0; n <= 12; n++) {
            Script.told(BULK, "s" + n + " 0;", n == 1 || n == 2 ? 1 : -11);
        }
        // WIDE as this text tells it, not as an earlier one did.
        WingDoor x = Script.told(BULK, "r3 5;s5 0;", 2);
        Script.typeAll(x, "s3 0;");
        Script.due(BULK, "door() of s3 0; behind r3 5;", x.door(), -11);
    }

    private static final String PUSH = "PUSH (0 .. 9)";

    private static void push() {
        for (int n = 0; n <= 99; n++) {
            WingDoor x = Script.told(PUSH, "s1 " + n + ";", n <= 9 ? 1 : -13);
            Script.due(PUSH, "sort(0, 1) behind " + n, x.sort(0, 1), n <= 9 ? n : WingDoor.BAD);
        }
    }

    private static final String LETTERS = "They are a text (100 letters at most), told letter by letter";

    private static void hundredLetters() {
        WingDoor x = new WingDoor();
        for (int n = 1; n <= 100; n++) {
            Script.due(LETTERS, "type(32)", x.type(32), n);
            Script.due(LETTERS, "count(6)", x.count(6), n);
        }
        Script.due(LETTERS, "type(32) again", x.type(32), WingDoor.FULL);
        Script.due(LETTERS, "type(59) again", x.type(59), WingDoor.FULL);
        Script.due(LETTERS, "count(6)", x.count(6), 100);
        Script.due(LETTERS, "door()", x.door(), 0);
        // The hundredth letter is read, one beyond it isn't.
        Script.told(LETTERS, " ".repeat(97) + "h7;", 1);
        Script.told(LETTERS, " ".repeat(98) + "h7;", -10 - 100);
        Script.told(LETTERS, " ".repeat(99) + "y", -10 - 99);
        Script.told(LETTERS, " ".repeat(100) + "y", 0);
        Script.told(LETTERS, " ".repeat(99) + "h", -10 - 100);
        Script.told(LETTERS, "h" + "1".repeat(99), -10 - 1);
        Script.told(LETTERS, "1".repeat(100), -10);
    }

    private static final String BLANKS = "blanks (32) between TOKENS";

    private static void blanksBetweenTokens() {
        Script.told(BLANKS, "", 0);
        Script.told(BLANKS, " ", 0);
        Script.told(BLANKS, "  r  3  1  ;  h  2  0  ;", -10 - 20);
        WingDoor x = Script.told(BLANKS, "  r  3  1  ;  h  20  ;  s  1  9  ;  ", 3);
        Script.due(BLANKS, "count(2)", x.count(2), 20);
        Script.due(BLANKS, "sort(0, 1)", x.sort(0, 1), 9);
        // A blank parts two NUMBERS; without one they are one NUMBER.
        Script.told(BLANKS, "r31;", -11);
        Script.told(BLANKS, "s11;", -11);
        Script.told(BLANKS, "h1 1;", -13);
        Script.told(BLANKS, "r3 1;h20;s1 9;", 3);
        for (int letter : new int[] {0, 9, 10, 13, 31, 33, 160}) {
            Script.told(BLANKS, "h" + (char) letter + "1;", -11);
            Script.told(BLANKS, "h1;" + (char) letter, -13);
        }
    }

    private static final String FIRST_OF_ALL = "r N W (ROOMS, WIDE; the first of all, if it is told)";

    private static void roomsFirstOfAll() {
        Script.told(FIRST_OF_ALL, "r5 3;", 1);
        Script.told(FIRST_OF_ALL, "r5 3;h1;s3 1;", 3);
        Script.told(FIRST_OF_ALL, "r5 3;r5 3;", -15);
        Script.told(FIRST_OF_ALL, "h1;r5 3;", -13);
        Script.told(FIRST_OF_ALL, "s1 1;r5 3;", -15);
        Script.told(FIRST_OF_ALL, "r5 3;h1;r5 3;", -18);
        WingDoor x = Script.told(FIRST_OF_ALL, "h1;", 1);
        Script.due(FIRST_OF_ALL, "ROOMS untold", x.count(0), 4);
        Script.due(FIRST_OF_ALL, "WIDE untold", x.count(1), 2);
    }

    private static final String ONCE = "h N (HARD; once at most)";

    private static void hardOnce() {
        WingDoor x = Script.told(ONCE, "s1 1;", 1);
        Script.due(ONCE, "HARD untold", x.count(2), 3);
        Script.told(ONCE, "h0;", 1);
        Script.told(ONCE, "h0;h0;", -13);
        Script.told(ONCE, "r3 1;h3;s1 1;h3;", -10 - 13);
        Script.told(ONCE, "s1 1;h20;", 2);
        // Once in each text, not once for ever.
        Script.typeAll(x, "h4;");
        Script.due(ONCE, "door() of h4;", x.door(), 1);
        Script.typeAll(x, "h5;");
        Script.due(ONCE, "door() of h5;", x.door(), 1);
        Script.due(ONCE, "HARD told anew", x.count(2), 5);
    }

    private static final String ITEMS = "THE TEXT tells all anew, and is empty then: how many ITEMS";

    private static void howManyItems() {
        String text = "r6 5;h20;s5 9;s5 9;s5 9;s5 9;s5 9;s5 9;";
        WingDoor x = Script.told(ITEMS, text, 8);
        Script.due(ITEMS, "count(3)", x.count(3), 6);
        Script.due(ITEMS, "count(6)", x.count(6), 0);
        Script.due(ITEMS, "door() again, of nothing", x.door(), 0);
        Script.due(ITEMS, "count(3), then", x.count(3), 0);
        Script.told(ITEMS, text + ";", -10 - 39);
        Script.told(ITEMS, text + "h", -10 - 39);
        Script.told(ITEMS, text + "r", -10 - 39);
        Script.told(ITEMS, text + "s", -10 - 39);
        Script.told(ITEMS, text + "0", -10 - 39);
    }

    private static final String TOKENS = "TOKENS are the letters r, h, s, NUMBERS and ; .. of any other letter .. that TOKEN's";

    private static void tokensAreNoOtherLetters() {
        for (int letter = 0; letter <= 255; letter++) {
            String sign = String.valueOf((char) letter);
            boolean blank = letter == 32;
            boolean digit = letter >= '0' && letter <= '9';
            boolean starts = letter == 'r' || letter == 'h' || letter == 's';
            Script.told(TOKENS, sign, blank ? 0 : starts ? -11 : -10);
            Script.told(TOKENS, "h1;" + sign, blank ? 1 : letter == 's' ? -14 : -13);
            Script.told(TOKENS, "h" + sign, blank || digit ? -12 : -11);
            Script.told(TOKENS, "h1" + sign, letter == ';' ? 1 : blank || digit ? -13 : -12);
            Script.told(TOKENS, "h1 " + sign, letter == ';' ? 1 : blank ? -14 : -13);
            Script.told(TOKENS, "s1 " + sign + ";", digit ? 1 : blank ? -14 : -13);
        }
    }

    private static final String NUMBERS = "a NUMBER above 99 or with a 0 ahead of others, that TOKEN's";

    private static void numbersOfOneOrTwoDigits() {
        for (int n = 0; n <= 9; n++) {
            Script.told(NUMBERS, "h" + n + ";", 1);
            Script.told(NUMBERS, "h0" + n + ";", -11);
            Script.told(NUMBERS, "h 00" + n + ";", -12);
            Script.told(NUMBERS, "h 10" + n + ";", -12);
            Script.told(NUMBERS, "s1 0" + n + ";", -13);
            Script.told(NUMBERS, "r03 1;", -11);
            Script.told(NUMBERS, "r3 0" + n + ";", -13);
        }
        Script.told(NUMBERS, "h10;", 1);
        Script.told(NUMBERS, "h20;", 1);
        Script.told(NUMBERS, "h99;", -11);
        Script.told(NUMBERS, "h100;", -11);
        Script.told(NUMBERS, "h   101;", -14);
        Script.told(NUMBERS, "h010;", -11);
        // What would be a small one, if it wrapped around.
        Script.told(NUMBERS, "h256;", -11);
        Script.told(NUMBERS, "h4294967296;", -11);
        Script.told(NUMBERS, "h18446744073709551617;", -11);
        // Where no NUMBER can stand, too.
        Script.told(NUMBERS, "100", -10);
        Script.told(NUMBERS, "h1 00", -13);
    }

    private static final String EARLY = "the text's length, if it ends too early";

    private static void endsTooEarly() {
        String text = " r 4 3 ; h 20 ;s2 9; ";
        for (int length = 0; length <= text.length(); length++) {
            String part = text.substring(0, length);
            String told = part.strip();
            boolean whole = told.isEmpty() || told.endsWith(";");
            int items = (int) told.chars().filter(c -> c == ';').count();
            WingDoor x = Script.told(EARLY, part, whole ? items : -10 - length);
            Script.due(EARLY, "count(6) behind '" + part + "'", x.count(6), whole ? 0 : length);
        }
    }

    private static final String FIRST = "the first letter of the first TOKEN that can't stand there";

    private static void firstFault() {
        Script.told(FIRST, "h21;y", -11);
        Script.told(FIRST, "y;h21;", -10);
        Script.told(FIRST, "h1;h21;", -13);
        Script.told(FIRST, "h 21 y 007", -12);
        Script.told(FIRST, "h 007 y", -12);
        Script.told(FIRST, "h1 y", -13);
        Script.told(FIRST, "r7 9;", -11);
        Script.told(FIRST, "r3 9", -13);
        Script.told(FIRST, "s9 99", -11);
        Script.told(FIRST, "s1 99", -13);
        Script.told(FIRST, ";;", -10);
        Script.told(FIRST, "h1;;;", -13);
    }
}
