/** Promises 9 to 13: what is done, and undone. */
public final class DoneTest {
    public static void main(String[] args) {
        comes();
        steps();
        leaves();
        lets();
        undo();
        Script.end();
    }

    /** 0 is IN at the STREET, 1 (too wide) and 2 WAIT; 3 is IN at the HALL, 4 (too wide) and 5 WAIT. */
    private static final String ROWS = """
            tell r4 3;h0;s2 4;s3 5;s1 6; = 5
            comes 0 0 = 0 | comes 1 0 = 1 | comes 2 0 = 2 | comes 0 1 = 3 | comes 1 1 = 4 | comes 2 1 = 5
            """;

    private static void comes() {
        Script.run("9 comes", ROWS + """
            now 3 = 54 | room 0 0 = 1 | room 2 0 = 8 | count 4 = 6
            comes 2 0 = 6 | goer 6 4 = 2 | goer 6 2 = 0 | comes 3 0 = BAD | comes -1 0 = BAD
            comes 0 2 = BAD | comes 0 -1 = BAD | comes 2147483647 0 = BAD | count 4 = 7 | now 7 = 7
            comes 2 1 = 7 | comes 0 0 = 8 | comes 0 0 = FULL | comes 3 0 = BAD | comes 0 2 = BAD
            count 4 = 9 | now 7 = 9 | leaves 8 = 6 | comes 0 0 = FULL | now 7 = 10
            """);
        Script.run("9 comes, no sorts", "comes 0 0 = BAD | comes 0 1 = BAD | now 7 = 0 | count 4 = 0");
        Script.run("9 comes, filled at once", """
            tell r3 2;s1 1; = 2 | comes 0 1 = 0 | goer 0 3 = 1 | comes 0 1 = 1 | goer 1 3 = 1
            comes 0 1 = 2 | goer 2 2 = 0 | comes 0 0 = 3 | goer 3 3 = 0
            """);
    }

    private static void steps() {
        Script.run("10 steps", ROWS + """
            steps = 0 | room 0 0 = 2 | room 1 0 = 1 | room 2 0 = 16 | room 3 0 = 8 | now 3 = 36
            steps = 2 | now 4 = 9 | room 0 0 = 4 | room 1 0 = 2 | room 2 0 = 32 | room 3 0 = 16
            steps = 2 | steps = 2 | now 0 = 4 | now 4 = 63 | steps = 0 | now 0 = 5 | now 4 = 63
            """);
        Script.run("10 steps, three rooms", """
            tell r3 1;h0;s1 1;s1 2; = 4 | comes 1 0 = 0 | comes 1 1 = 1 | comes 1 1 = 2
            steps = 1 | goer 0 2 = 2 | goer 1 3 = 2 | goer 2 3 = 1 | steps = 1 | goer 1 2 = 2 | goer 2 3 = 2
            steps = 1 | goer 2 2 = 2 | now 6 = 0
            """);
        Script.run("10 steps, six rooms", """
            tell r6 1;h0;s1 1;s1 2; = 4 | comes 0 0 = 0 | comes 0 1 = 1
            steps = 0 | steps = 0 | goer 0 3 = 2 | goer 1 3 = 5 | steps = 2
            """);
        Script.run("10 steps, it sticks", """
            tell h2;s1 1;s1 8; = 3 | comes 0 0 = 0 | steps = 0 | steps = 0 | now 0 = 2 | goer 0 3 = 0
            comes 1 1 = 1 | steps = 0 | goer 0 3 = 1 | goer 1 3 = 3 | steps = 2
            steps = 0 | now 0 = 5 | undo = 6
            """);
        manySteps();
    }

    private static void manySteps() {
        WingDoor x = new WingDoor();
        for (int i = 1; i <= 500; i++) {
            Script.due("10 steps", "steps() of nobody", x.steps(), 0);
        }
        Script.due("10 steps", "now(0)", x.now(0), 500);
        Script.due("10 steps", "now(7)", x.now(7), 10);
        // What lies behind the 512th call is free; this is what the program makes of the 999th STEP.
        for (int i = 501; i <= 999; i++) {
            x.steps();
        }
        Script.due("10 steps", "steps() behind 999", x.steps(), WingDoor.STATE);
        Script.due("10 steps", "now(0) behind 999", x.now(0), 999);
    }

    private static void leaves() {
        Script.run("11 leaves", ROWS + """
            leaves 2 = 3 | goer 2 2 = 3 | goer 2 4 = NONE | now 3 = 50
            leaves 2 = STATE | leaves 0 = STATE | leaves 6 = BAD | leaves -1 = BAD | leaves 2147483647 = BAD
            now 7 = 7
            leaves 4 = 1 | goer 5 2 = 1 | goer 5 3 = 2 | now 3 = 2 | room 2 0 = 40
            steps = 0 | steps = 3 | leaves 3 = STATE | now 4 = 41
            """);
    }

    private static void lets() {
        Script.run("12 lets", ROWS + """
            comes 1 0 = 6 | goer 6 4 = 2 | lets 6 = 2 | goer 6 4 = 0 | goer 1 4 = 1 | goer 2 4 = 2 | now 3 = 118
            lets 6 = STATE | lets 0 = STATE | lets 4 = STATE | lets 7 = BAD | lets -1 = BAD | now 7 = 8
            lets 1 = 1 | goer 1 4 = 0 | goer 6 4 = 1 | comes 1 0 = 7 | goer 7 4 = 3
            lets 2 = 2 | goer 2 2 = 1 | goer 2 3 = 0 | room 0 0 = 5 | room 0 1 = 3 | goer 1 4 = 0 | goer 7 4 = 2
            lets 2 = STATE | leaves 7 = 4 | lets 7 = STATE
            """);
    }

    private static void undo() {
        Script.run("13 undo", ROWS + """
            lets 2 = 1 | leaves 4 = 1 | steps = 0 | now 7 = 9
            undo = 8 | now 0 = 0 | goer 0 3 = 0 | goer 4 2 = 3 | goer 5 2 = 1
            undo = 7 | goer 4 2 = 0 | goer 4 4 = 0 | goer 5 4 = 1
            undo = 6 | goer 2 2 = 0 | goer 2 4 = 1 | goer 1 4 = 0 | room 0 0 = 1
            lets 1 = STATE | leaves 0 = STATE | comes 3 0 = BAD | now 7 = 6
            undo = 5 | count 4 = 5 | goer 5 0 = BAD | undo = 4 | undo = 3 | undo = 2 | undo = 1 | undo = 0
            count 4 = 0 | undo = STATE | comes 1 1 = 0 | undo = 0 | undo = STATE
            """);
        Script.run("13 undo, ten are known", ROWS + """
            steps = 0 | steps = 2 | steps = 2 | steps = 2 | now 7 = 10 | steps = 0 | steps = 0 | steps = 0 | now 7 = 10
            undo = 9 | now 0 = 6 | undo = 8 | undo = 7 | now 0 = 4 | now 4 = 63 | undo = 6 | now 4 = 27
            undo = 5 | undo = 4 | undo = 3 | now 0 = 0 | count 4 = 6 | undo = 2 | undo = 1 | undo = 0
            count 4 = 3 | goer 2 4 = 1 | undo = STATE | steps = 0 | now 7 = 1
            """);
        Script.run("13 undo, what is seen and told stays", """
            tell s1 1; = 1 | comes 0 0 = 0 | sees 0 1 1 = 1 | keep 0 = 0 | types ab = 2
            undo = 0 | count 5 = 1 | count 6 = 2 | back 0 = 0 | count 4 = 1
            """);
    }
}
