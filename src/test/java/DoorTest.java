/** Promises 1 to 8: a new object, the text, and what is asked of the door. */
public final class DoorTest {
    public static void main(String[] args) {
        newObject();
        type();
        clear();
        doorReads();
        doorFaults();
        doorTellsAllAnew();
        sort();
        goer();
        room();
        now();
        Script.end();
    }

    private static void newObject() {
        Script.run("1 a new object", """
            count 0 = 4 | count 1 = 2 | count 2 = 3 | count 3 = 0 | count 4 = 0 | count 5 = 0 | count 6 = 0
            now 0 = 0 | now 1 = 0 | now 2 = 3 | now 3 = 0 | now 4 = 0 | now 5 = 0 | now 6 = 0 | now 7 = 0
            sort 0 0 = BAD | goer 0 0 = BAD | room 3 0 = 0 | room 3 1 = 0 | room 4 0 = BAD
            which = 0 | look 0 = NONE | look 1 = NONE | odds 5 0 = 0 | odds 5 1 = 1
            undo = STATE | back 0 = STATE | back 1 = STATE | trace = 0 | clear = 0 | forget = 0
            """);
    }

    private static void type() {
        Script.run("2 type", """
            type 0 = 1 | type 255 = 2 | type 32 = 3
            type 256 = BAD | type -1 = BAD | type 2147483647 = BAD | type -2147483648 = BAD
            count 6 = 3
            """);
        Script.run("2 type, full", "types " + " ".repeat(99) + " = 99" + """

            type 32 = 100 | type 32 = FULL | type 256 = BAD | type -1 = BAD | count 6 = 100
            clear = 100 | type 59 = 1
            """);
        Script.run("2 type, a full text is read", "types h1;" + " ".repeat(97) + " = 100" + """

            type 59 = FULL | door = 1 | count 2 = 1 | count 6 = 0 | type 59 = 1
            """);
    }

    private static void clear() {
        Script.run("3 clear", """
            clear = 0 | types r3 1; = 5 | count 6 = 5 | clear = 5 | clear = 0 | count 6 = 0
            door = 0 | count 0 = 4
            """);
    }

    private static void doorReads() {
        Script.run("4 door, least and most", """
            tell r3 1;h0;s1 0; = 3 | count 0 = 3 | count 1 = 1 | count 2 = 0 | count 3 = 1
            tell r6 5;h20;s5 9; = 3 | count 0 = 6 | count 1 = 5 | count 2 = 20 | sort 0 0 = 5 | sort 0 1 = 9
            tell s1 0;s2 9;s1 3;s1 4;s2 5;s1 6; = 6 | count 3 = 6 | count 0 = 4 | count 1 = 2 | count 2 = 3
            sort 5 0 = 1 | sort 5 1 = 6 | sort 1 0 = 2 | sort 1 1 = 9
            tell   s 1   7 ; h  10 ;s2 0;  = 3 | count 2 = 10 | sort 0 1 = 7 | count 3 = 2
            tell r4 5;s3 1;h7;s4 2; = 4 | count 2 = 7 | sort 1 0 = 4 | count 6 = 0
            """);
        Script.run("4 door, an empty text tells the first door", """
            tell r6 5;h20;s5 9; = 3 | comes 0 0 = 0 | door = 0
            count 0 = 4 | count 1 = 2 | count 2 = 3 | count 3 = 0 | count 4 = 0
            types    = 2 | door = 0 | count 6 = 0
            """);
    }

    private static void fault(String text, int place) {
        WingDoor x = new WingDoor();
        Script.typeAll(x, "r5 3;h9;s3 8;");
        Script.due("4 door", "the door ahead of " + text, x.door(), 3);
        Script.due("4 door", "comes(0, 1)", x.comes(0, 1), 0);
        Script.due("4 door", "steps()", x.steps(), 0);
        Script.due("4 door", "sees(0, 1, 0)", x.sees(0, 1, 0), 1);
        Script.due("4 door", "keep(0)", x.keep(0), 1);
        Script.typeAll(x, text);
        Script.due("4 door", "'" + text + "'", x.door(), -10 - place);
        Script.due("4 door", "rooms behind a fault", x.count(0), 5);
        Script.due("4 door", "wide behind a fault", x.count(1), 3);
        Script.due("4 door", "hard behind a fault", x.count(2), 9);
        Script.due("4 door", "sorts behind a fault", x.count(3), 1);
        Script.due("4 door", "the sort behind a fault", x.sort(0, 0) * 10 + x.sort(0, 1), 38);
        Script.due("4 door", "goers behind a fault", x.count(4), 1);
        Script.due("4 door", "seen behind a fault", x.count(5), 1);
        Script.due("4 door", "the text behind a fault", x.count(6), text.length());
        Script.due("4 door", "the step behind a fault", x.now(0), 1);
        Script.due("4 door", "undone behind a fault", x.now(7), 2);
        Script.due("4 door", "the image behind a fault", x.back(0), 1);
    }

    private static void doorFaults() {
        // A NUMBER beyond what it may be.
        fault("r2 1;", 1);
        fault("r7 1;", 1);
        fault("r0 1;", 1);
        fault("r3 0;", 3);
        fault("r3 6;", 3);
        fault("h21;", 1);
        fault("h99;", 1);
        fault("s0 1;", 1);
        fault("s3 1;", 1);
        fault("r4 4;s5 1;", 6);
        fault("s1 10;", 3);
        // A NUMBER above 99, or with a 0 ahead of others.
        fault("h100;", 1);
        fault("h 007;", 2);
        fault("h00;", 1);
        fault("h01;", 1);
        fault("s1 09;", 3);
        fault("s1 99999999999999999999999999999999999999999;", 3);
        fault("h4294967297;", 1);
        // A TOKEN that can't stand there.
        fault(";", 0);
        fault("  ;", 2);
        fault("5;", 0);
        fault("h1;;", 3);
        fault("h;", 1);
        fault("r3;", 2);
        fault("s1;", 2);
        fault("r3 1 1;", 5);
        fault("h1 1;", 3);
        fault("s1 1 1;", 5);
        fault("hh1;", 1);
        fault("s1 1 h1;", 5);
        fault("rs", 1);
        // r behind another ITEM, h again, a seventh s.
        fault("r3 1;r3 1;", 5);
        fault("h1;r3 1;", 3);
        fault("s1 1; r3 1;", 6);
        fault("h1;s1 1;h1;", 8);
        fault("s1 0;s1 0;s1 0;s1 0;s1 0;s1 0;s1 0;", 30);
        fault("s1 0;s1 0;s1 0;s1 0;s1 0;s1 0;s", 30);
        // Any other letter.
        fault("y", 0);
        fault("R3 1;", 0);
        fault("h1;\t", 3);
        fault("h-1;", 1);
        fault("h1,", 2);
        fault("h1" + (char) 255, 2);
        fault("s1 " + (char) 0 + ";", 3);
        // The first of several.
        fault("h21;y", 1);
        fault("y h21;", 0);
        // It ends too early.
        fault("r", 1);
        fault("r3", 2);
        fault("r3 1", 4);
        fault("h", 1);
        fault("h20", 3);
        fault("h1;s", 4);
        fault("s1 ", 3);
        fault("s1 9   ", 7);
    }

    private static void doorTellsAllAnew() {
        Script.run("4 door, anew", """
            tell r3 2;h0;s1 5;s1 6; = 4 | comes 1 0 = 0 | steps = 1 | comes 0 1 = 1 | sees 1 5 1 = 1
            keep 0 = 1 | keep 1 = 1 | rate 1 0 = 7 | trace = 11 | now 7 = 3
            tell s2 1; = 1
            count 0 = 4 | count 1 = 2 | count 2 = 3 | count 3 = 1 | count 4 = 0 | count 5 = 0 | count 6 = 0
            now 0 = 0 | now 3 = 0 | now 4 = 0 | now 7 = 0 | undo = STATE | back 0 = STATE | back 1 = STATE
            which = 1 | room 0 0 = 0 | trace = 11 | comes 0 0 = 0
            """);
    }

    private static void sort() {
        Script.run("5 sort", """
            tell r5 3;s1 0;s3 9;s2 4; = 4
            sort 0 0 = 1 | sort 0 1 = 0 | sort 1 0 = 3 | sort 1 1 = 9 | sort 2 0 = 2 | sort 2 1 = 4
            sort 0 2 = 0 | comes 1 0 = 0 | comes 1 0 = 1 | comes 2 1 = 2 | leaves 1 = 0
            sort 0 2 = 0 | sort 1 2 = 2 | sort 2 2 = 1
            steps = 0 | steps = 1 | sort 1 2 = 2 | undo = 5 | undo = 4 | undo = 3 | undo = 2 | sort 2 2 = 0
            sort 3 0 = BAD | sort -1 0 = BAD | sort 0 3 = BAD | sort 0 -1 = BAD
            sort 2147483647 0 = BAD | sort -2147483648 2 = BAD
            """);
    }

    /** ROOMS 5: from the STREET two STEPS, from the HALL three. */
    private static final String FIVE = """
            tell r5 2;h0;s1 2;s2 5; = 4
            comes 0 0 = 0 | comes 1 0 = 1 | comes 0 0 = 2 | comes 1 1 = 3 | comes 0 1 = 4
            """;

    private static void goer() {
        Script.run("6 goer", FIVE + """
            goer 0 0 = 0 | goer 1 0 = 1 | goer 0 1 = 0 | goer 3 1 = 1 | goer 4 0 = 0 | goer 4 1 = 1
            goer 0 2 = 1 | goer 1 2 = 0 | goer 2 2 = 0 | goer 3 2 = 1 | goer 4 2 = 0
            goer 0 3 = 0 | goer 1 3 = NONE | goer 3 3 = 2
            goer 0 4 = NONE | goer 1 4 = 0 | goer 2 4 = 1 | goer 3 4 = NONE | goer 4 4 = 0
            goer 0 5 = 2 | goer 1 5 = 3 | goer 2 5 = 4 | goer 3 5 = 3 | goer 4 5 = 4
            steps = 0 | goer 0 3 = 1 | goer 3 3 = 3 | goer 1 3 = 0 | goer 4 3 = 2 | goer 2 4 = 0 | goer 2 5 = 3
            steps = 1 | goer 0 2 = 2 | goer 0 3 = NONE | goer 0 4 = NONE | goer 0 5 = 0 | goer 3 3 = 4
            steps = 2 | goer 3 2 = 2 | goer 1 2 = 2 | goer 1 5 = 0
            goer 5 0 = BAD | goer -1 0 = BAD | goer 0 6 = BAD | goer 0 -1 = BAD | goer 2147483647 5 = BAD
            """);
        Script.run("6 goer, one who is gone", FIVE + """
            leaves 4 = 2 | goer 4 2 = 3 | goer 4 3 = NONE | goer 4 4 = NONE | goer 4 5 = NONE | goer 4 1 = 1
            """);
        Script.run("6 goer, it sticks", """
            tell h3;s1 2; = 2 | comes 0 0 = 0 | goer 0 5 = NONE | comes 0 1 = 1 | goer 0 5 = NONE
            comes 0 1 = 2 | goer 0 5 = 2 | goer 2 5 = 2 | comes 0 0 = 3 | goer 3 5 = 2
            """);
    }

    private static void room() {
        Script.run("7 room", FIVE + """
            room 0 0 = 1 | room 0 1 = 1 | room 1 0 = 0 | room 1 1 = 0 | room 2 0 = 8 | room 2 1 = 2 | room 4 0 = 0
            steps = 0
            room 0 0 = 2 | room 0 1 = 2 | room 1 0 = 1 | room 1 1 = 1 | room 2 0 = 16 | room 2 1 = 1 | room 3 0 = 8
            steps = 1 | room 0 0 = 4 | room 1 0 = 2 | room 2 0 = 0 | room 3 0 = 16 | room 4 0 = 8 | room 4 1 = 2
            steps = 2 | room 0 0 = 0 | room 1 0 = 4 | room 4 0 = 16
            room 5 0 = BAD | room -1 0 = BAD | room 0 2 = BAD | room 0 -1 = BAD | room 2147483647 0 = BAD
            """);
        Script.run("7 room, several in one", """
            tell r6 5;s2 1;s1 1; = 3 | comes 0 1 = 0 | comes 1 1 = 1 | comes 0 1 = 2 | comes 1 1 = 3
            room 3 0 = 7 | room 3 1 = 5 | room 0 0 = 0 | room 5 0 = 0 | room 6 0 = BAD
            """);
    }

    private static void now() {
        Script.run("8 now", FIVE + """
            now 0 = 0 | now 1 = 7 | now 2 = 2 | now 3 = 22 | now 4 = 0 | now 5 = 4 | now 6 = 4 | now 7 = 5
            steps = 0 | now 0 = 1 | now 1 = 14 | now 2 = 4 | now 3 = 4 | now 4 = 0 | now 5 = 3 | now 6 = 3
            steps = 1 | now 1 = 14 | now 2 = 4 | now 3 = 0 | now 4 = 1 | now 5 = 2 | now 6 = 2
            steps = 2 | now 1 = 4 | now 2 = 2 | now 4 = 11 | now 5 = 1 | now 6 = 1
            steps = 2 | now 0 = 4 | now 1 = 0 | now 2 = 0 | now 4 = 31 | now 5 = 0 | now 6 = 0 | now 7 = 9
            now 8 = BAD | now -1 = BAD | now 2147483647 = BAD | now -2147483648 = BAD
            """);
        Script.run("8 now, it sticks on the way", """
            tell r4 1;h3;s1 4;s1 0; = 4 | comes 0 0 = 0 | now 5 = 2 | now 6 = 2
            comes 1 0 = 1 | now 5 = 1 | now 6 = NONE | steps = 0 | now 5 = 0 | now 6 = NONE
            undo = 2 | leaves 1 = 0 | now 5 = 2 | now 6 = 2
            """);
        Script.run("8 now, as hard as it is pushed it goes", """
            tell h4;s1 5;s1 4; = 3 | comes 0 0 = 0 | now 1 = 5 | now 2 = 5 | now 5 = 2
            undo = 0 | comes 1 0 = 0 | now 1 = 4 | now 2 = 5 | now 5 = 0 | now 6 = NONE
            """);
    }
}
