/**
 * "Refused, and nothing changes, the first of these: BAD (a number is not as told, or there is no such thing),
 * STATE (as told), FULL." Each refusal of each call is held against an object that never got that call.
 */
public final class RefusedTest {
    public static void main(String[] args) {
        theDoor();
        whatIsDone();
        whatIsBest();
        whichSort();
        kindsAndImages();
        stateAtItsBounds();
        fullAtItsBounds();
        badAheadOfState();
        badAheadOfFull();
        askingChangesNothing();
        Script.end();
    }

    private static final String TITLE = "Refused, and nothing changes";
    private static final String WHERES = NowBoundsTest.ALL_WHERES;

    private static void theDoor() {
        Twins.unchanged(TITLE, WHERES, """
            type -1 = BAD | type 256 = BAD | type 2147483647 = BAD | type -2147483648 = BAD
            door = -14
            sort -1 0 = BAD | sort 3 0 = BAD | sort 0 -1 = BAD | sort 0 3 = BAD
            goer -1 0 = BAD | goer 9 0 = BAD | goer 0 -1 = BAD | goer 0 6 = BAD
            room -1 0 = BAD | room 4 0 = BAD | room 0 -1 = BAD | room 0 2 = BAD
            now -1 = BAD | now 8 = BAD
            """);
    }

    private static void whatIsDone() {
        Twins.unchanged(TITLE, WHERES, """
            comes -1 0 = BAD | comes 3 0 = BAD | comes 0 -1 = BAD | comes 0 2 = BAD | comes 0 0 = FULL | comes 2 1 = FULL
            leaves -1 = BAD | leaves 9 = BAD | leaves 0 = STATE | leaves 1 = STATE | leaves 8 = STATE
            lets -1 = BAD | lets 9 = BAD | lets 0 = STATE | lets 1 = STATE | lets 8 = STATE | lets 6 = STATE
            """);
    }

    private static void whatIsBest() {
        Twins.unchanged(TITLE, WHERES, """
            spare -1 = BAD | spare 9 = BAD | ahead -1 = BAD | ahead 9 = BAD
            odds -1 0 = BAD | odds 11 0 = BAD | odds 0 -1 = BAD | odds 0 2 = BAD
            """);
    }

    private static void whichSort() {
        Twins.unchanged(TITLE, WHERES, """
            sees -1 1 0 = BAD | sees 2 1 0 = BAD | sees 0 0 0 = BAD | sees 0 6 0 = BAD | sees 1 -1 0 = BAD | sees 1 10 0 = BAD
            sees 0 1 -1 = BAD | sees 0 1 2 = BAD | look -1 = BAD | look 2 = BAD
            """);
    }

    private static void kindsAndImages() {
        Twins.unchanged(TITLE, WHERES, """
            rate -1 0 = NO | rate 6 0 = NO | rate 0 -1 = NO | rate 0 9 = NO
            keep -1 = BAD | keep 2 = BAD | back -1 = BAD | back 2 = BAD | count -1 = BAD | count 7 = BAD
            """);
    }

    private static void stateAtItsBounds() {
        Twins.unchanged(TITLE + ": STATE, nothing is done yet", "tell s1 1;s2 2; = 2 | sees 0 1 1 = 1 | types h = 1", """
            undo = STATE | back 0 = STATE | back 1 = STATE
            """);
        Twins.unchanged(TITLE + ": STATE, one image is kept", """
            tell s1 1;s2 2; = 2 | comes 0 0 = 0 | keep 1 = 0 | steps = 0 | comes 1 1 = 1
            """, "back 0 = STATE | leaves 0 = STATE | lets 1 = STATE");
        Twins.unchanged(TITLE + ": STATE, all ten are UNDONE", """
            tell s1 1;s2 2; = 2 | comes 0 0 = 0 | comes 0 0 = 1 | comes 0 0 = 2 | keep 0 = 0 | comes 0 0 = 3 | steps = 0 | steps = 0
            steps = 0 | steps = 0 | steps = 0 | steps = 0 | steps = 0 | steps = 0 | undo = 9 | undo = 8 | undo = 7 | undo = 6
            undo = 5 | undo = 4 | undo = 3 | undo = 2 | undo = 1 | undo = 0 | count 4 = 2
            """, "undo = STATE | back 1 = STATE");
    }

    private static final String FULL_TEXT = "types " + "h".repeat(100) + " = 100\n";
    private static final String SIX_SEEN = """
            sees 0 2 1 = 1 | sees 1 0 0 = 2 | sees 1 9 1 = 3 | sees 0 5 1 = 4 | sees 0 5 1 = 5 | sees 0 5 1 = 6
            """;
    private static final String NINE = """
            comes 0 0 = 0 | comes 1 0 = 1 | comes 0 1 = 2 | comes 1 1 = 3 | comes 0 0 = 4 | comes 0 0 = 5 | comes 0 0 = 6
            comes 1 1 = 7 | comes 0 0 = 8
            """;

    private static void fullAtItsBounds() {
        String sorts = "tell r4 2;s1 7;s2 8; = 3\n";
        Twins.unchanged(TITLE + ": FULL, the text", sorts + FULL_TEXT, "type 0 = FULL | type 32 = FULL | type 255 = FULL");
        Twins.unchanged(TITLE + ": FULL, what is SEEN", sorts + SIX_SEEN, """
            sees 0 1 1 = FULL | sees 0 5 0 = FULL | sees 1 0 1 = FULL | sees 1 9 0 = FULL
            """);
        Twins.unchanged(TITLE + ": FULL, GOERS", sorts + NINE, "comes 0 0 = FULL | comes 1 1 = FULL");
    }

    private static void badAheadOfState() {
        Twins.unchanged("BAD ahead of STATE", "tell s1 1; = 1", """
            leaves 0 = BAD | leaves -1 = BAD | lets 0 = BAD | lets -1 = BAD | back 2 = BAD | back -1 = BAD
            """);
        Twins.unchanged("BAD ahead of STATE", "tell s1 1; = 1 | comes 0 0 = 0", """
            leaves 0 = STATE | leaves 1 = BAD | lets 0 = STATE | lets 1 = BAD
            """);
    }

    private static void badAheadOfFull() {
        String sorts = "tell r4 2;s1 7;s2 8; = 3\n";
        Twins.unchanged("BAD ahead of FULL, the text", sorts + FULL_TEXT, "type -1 = BAD | type 256 = BAD");
        Twins.unchanged("BAD ahead of FULL, what is SEEN", sorts + SIX_SEEN, """
            sees 2 1 1 = BAD | sees -1 1 1 = BAD | sees 0 0 1 = BAD | sees 0 6 1 = BAD | sees 1 -1 1 = BAD | sees 1 10 1 = BAD
            sees 0 1 2 = BAD | sees 0 1 -1 = BAD
            """);
        Twins.unchanged("BAD ahead of FULL, GOERS", sorts + NINE, """
            comes 2 0 = BAD | comes -1 0 = BAD | comes 0 2 = BAD | comes 0 -1 = BAD
            """);
    }

    private static void askingChangesNothing() {
        Twins.unchanged("asking changes nothing", WHERES, """
            sort 0 0 = 2 | sort 0 1 = 4 | sort 0 2 = 2 | goer 6 0 = 1 | goer 6 1 = 0 | goer 6 2 = 0 | goer 6 3 = NONE
            goer 6 4 = 0 | goer 6 5 = 3 | room 0 0 = 4 | room 0 1 = 1 | now 0 = 2 | now 1 = 22 | now 2 = 4 | now 3 = 192
            now 4 = 9 | now 5 = 4 | now 6 = 4 | now 7 = 10 | count 0 = 4 | count 5 = 1 | count 6 = 4 | trace = 0
            """);
    }
}
