/** Promises 17 to 20: of which sort one is. */
public final class SightTest {
    public static void main(String[] args) {
        sees();
        forget();
        which();
        look();
        Script.end();
    }

    private static final String SIX = "tell r4 5;s1 9;s2 3;s3 3;s4 0;s5 1;s5 9; = 7\n";

    private static void sees() {
        Script.run("17 sees", SIX + """
            sees 0 1 0 = 1 | sees 0 5 1 = 2 | sees 1 0 0 = 3 | sees 1 9 1 = 4 | count 5 = 4
            sees 2 1 0 = BAD | sees -1 1 0 = BAD | sees 0 0 0 = BAD | sees 0 6 0 = BAD
            sees 1 -1 0 = BAD | sees 1 10 0 = BAD | sees 0 1 2 = BAD | sees 0 1 -1 = BAD | count 5 = 4
            sees 0 1 0 = 5 | sees 0 1 0 = 6 | sees 0 1 0 = FULL | sees 0 6 0 = BAD | sees 2 1 0 = BAD
            sees 0 1 1 = FULL | count 5 = 6 | which = 54
            """);
        Script.run("17 sees, no sorts", "sees 0 1 1 = 1 | sees 1 0 1 = 2 | which = 0 | forget = 2");
    }

    private static void forget() {
        Script.run("18 forget", SIX + """
            forget = 0 | sees 0 2 1 = 1 | sees 1 3 0 = 2 | which = 1 | forget = 2 | count 5 = 0 | which = 63
            forget = 0 | sees 0 2 1 = 1 | which = 3
            """);
    }

    private static void which() {
        Script.run("19 which", SIX + """
            which = 63 | sees 0 2 0 = 1 | which = 60 | sees 1 2 1 = 2 | which = 24 | sees 1 0 0 = 3 | which = 16
            sees 0 4 1 = 4 | which = 0 | forget = 4
            sees 0 2 1 = 1 | which = 3 | forget = 1 | sees 0 3 1 = 1 | which = 7 | forget = 1
            sees 1 3 1 = 1 | which = 30 | forget = 1 | sees 1 3 0 = 1 | which = 33 | forget = 1
            sees 1 9 1 = 1 | which = 63 | sees 1 9 0 = 2 | which = 0
            """);
    }

    private static void look() {
        Script.run("20 look", SIX + """
            look 0 = 3 | look 1 = 1
            sees 0 3 0 = 1 | look 0 = 4 | look 1 = 0 | sees 0 4 0 = 2 | which = 48 | look 0 = 1 | look 1 = 1
            sees 1 5 0 = 3 | which = 32 | look 0 = NONE | look 1 = NONE
            sees 1 5 1 = 4 | which = 0 | look 0 = NONE | look 1 = NONE
            look 2 = BAD | look -1 = BAD | look 2147483647 = BAD | count 5 = 4
            """);
        Script.run("20 look, all alike", """
            tell r4 5;s5 9;s5 9; = 3 | look 0 = 1 | look 1 = 0 | which = 3
            """);
        Script.run("20 look, three", """
            tell s1 7;s1 8;s2 9; = 3 | look 0 = 1 | look 1 = 7
            sees 0 1 1 = 1 | look 1 = 7 | look 0 = 1
            """);
        Script.run("20 look, no sorts and one", "look 0 = NONE | tell s1 1; = 1 | look 0 = NONE | look 1 = NONE");
    }
}
