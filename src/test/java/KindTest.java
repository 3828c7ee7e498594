/** Promises 21 to 25: kinds, images, counts and the trace. */
public final class KindTest {
    public static void main(String[] args) {
        rate();
        trace();
        images();
        count();
        Script.end();
    }

    /** 0 and 3 are IN, 1, 2 and 4 WAIT. */
    private static final String FIVE = """
            tell r5 2;h0;s1 2;s2 5; = 4
            comes 0 0 = 0 | comes 1 0 = 1 | comes 0 0 = 2 | comes 1 1 = 3 | comes 0 1 = 4
            """;

    private static void rate() {
        Script.run("21 rate", FIVE + """
            rate 0 3 = 2 | rate 1 3 = 7 | rate 2 3 = -1 | rate 3 3 = 14 | rate 4 3 = 2 | rate 5 3 = 2
            rate 0 0 = 1 | rate 1 0 = 3 | rate 2 0 = -2 | rate 3 0 = 6 | rate 4 0 = -2 | rate 5 0 = 1
            rate 4 4 = 2
            steps = 0 | rate 2 3 = 1 | rate 4 3 = 4 | rate 5 3 = 3 | rate 5 2 = 2
            steps = 1 | rate 0 0 = 1 | rate 5 0 = 3 | rate 2 0 = 1
            rate 6 0 = NO | rate -1 0 = NO | rate 0 5 = NO | rate 0 -1 = NO | rate 2147483647 0 = NO
            rate 0 2147483647 = NO | rate -2147483648 -2147483648 = NO
            """);
        Script.run("21 rate, no goers", "rate 0 0 = NO | trace = 0");
    }

    private static void trace() {
        Script.run("25 trace", FIVE + """
            trace = 0 | rate 0 3 = 2 | trace = 1 | rate 1 3 = 7 | trace = 12 | rate 2 3 = -1 | trace = 113
            rate 3 3 = 14 | trace = 1124 | rate 4 3 = 2 | trace = 11225 | rate 5 3 = 2 | trace = 111226
            rate 6 3 = NO | rate 5 5 = NO | trace = 111226
            undo = 4 | trace = 111226 | keep 0 = 0 | rate 0 0 = 1 | back 0 = 0 | trace = 111227
            """);
    }

    private static void images() {
        Script.run("22 keep", FIVE + """
            keep 0 = 0 | keep 1 = 0 | keep 2 = BAD | keep -1 = BAD | keep 2147483647 = BAD | now 7 = 5
            steps = 0 | keep 1 = 1 | steps = 1 | steps = 2 | keep 2 = BAD
            back 1 = 1 | now 0 = 1 | now 3 = 4 | room 1 0 = 1 | keep 1 = 1
            """);
        Script.run("23 back", FIVE + """
            back 0 = STATE | back 1 = STATE | back 2 = BAD | back -1 = BAD | now 7 = 5
            keep 0 = 0 | back 1 = STATE | lets 2 = 1 | goer 2 2 = 1 | steps = 0 | leaves 4 = STATE | keep 1 = 1
            comes 0 0 = 5 | sees 0 1 1 = 1 | types r3 = 2
            back 0 = 0 | now 0 = 0 | count 4 = 5 | goer 2 2 = 0 | goer 2 4 = 1 | room 0 0 = 1 | now 3 = 22
            now 7 = 0 | undo = STATE | count 5 = 1 | count 6 = 2 | now 5 = 4
            steps = 0 | now 7 = 1 | undo = 0 | back 1 = 1 | count 4 = 5 | goer 2 3 = 1 | goer 2 2 = 1
            back 0 = 0 | goer 2 4 = 1 | back 0 = 0 | steps = 0 | steps = 1 | back 0 = 0 | now 4 = 0
            """);
        Script.run("23 back, nobody", "keep 0 = 0 | tell s1 1; = 1 | back 0 = STATE | keep 1 = 0 | comes 0 0 = 0 | back 1 = 0 | count 4 = 0");
        Script.run("23 back, the step", "steps = 0 | steps = 0 | keep 0 = 2 | steps = 0 | back 0 = 2 | now 0 = 2 | undo = STATE");
        Script.run("23 back, the row's order", """
            tell s2 1; = 1 | comes 0 0 = 0 | comes 0 0 = 1 | comes 0 0 = 2 | lets 2 = 1 | keep 0 = 0 | lets 1 = 1
            goer 2 4 = 1 | back 0 = 0 | goer 2 4 = 0 | goer 1 4 = 1
            """);
    }

    private static void count() {
        Script.run("24 count", """
            tell r6 4;h12;s1 1;s4 2; = 4 | comes 0 0 = 0 | comes 1 1 = 1 | comes 0 0 = 2 | sees 0 3 1 = 1 | types r = 1
            count 0 = 6 | count 1 = 4 | count 2 = 12 | count 3 = 2 | count 4 = 3 | count 5 = 1 | count 6 = 1
            count 7 = BAD | count -1 = BAD | count 2147483647 = BAD | count -2147483648 = BAD
            """);
    }
}
