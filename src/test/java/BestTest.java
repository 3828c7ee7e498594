/** Promises 14 to 16: whom to have give up, whom to let ahead, and the odds. */
public final class BestTest {
    public static void main(String[] args) {
        spare();
        ahead();
        odds();
        Script.end();
    }

    /** At the STREET 0 fills the ROOM; behind him 1 (narrow), 2 (wide), 3 (narrow), 4 (wide) WAIT. */
    private static final String ONE_ROW = """
            tell r5 2;h0;s1 2;s2 5; = 4
            comes 1 0 = 0 | comes 0 0 = 1 | comes 1 0 = 2 | comes 0 0 = 3 | comes 1 0 = 4
            """;

    /** 0 alone doesn't move the door; behind 1, who is too wide, 2 and 3 PUSH hard. */
    private static final String WEAK = """
            tell r3 3;h2;s1 0;s3 0;s1 9; = 5
            comes 0 0 = 0 | comes 1 0 = 1 | comes 2 0 = 2 | comes 2 0 = 3
            """;

    private static void spare() {
        Script.run("14 spare, the least and the lowest", ONE_ROW + """
            goer 0 5 = 2 | goer 1 5 = 3 | goer 2 5 = 4 | goer 3 5 = 5 | goer 4 5 = 6
            spare 0 = NONE | spare 1 = NONE | spare 2 = 1 | spare 3 = 2 | spare 4 = 2
            leaves 2 = 3 | spare 2 = NONE | now 7 = 6
            """);
        Script.run("14 spare, it sticks", WEAK + """
            goer 0 5 = NONE | spare 0 = 1 | spare 1 = NONE | spare 2 = 1 | spare 3 = 1
            now 3 = 14 | now 0 = 0 | now 7 = 4 | goer 0 5 = NONE
            leaves 1 = 0 | goer 0 5 = 1 | spare 0 = NONE | steps = 3 | spare 0 = NONE | spare 1 = NONE
            spare 4 = BAD | spare -1 = BAD | spare 2147483647 = BAD
            """);
        Script.run("14 spare, one of the other side", """
            tell r3 1;h2;s1 4;s1 0; = 4 | comes 1 1 = 0 | comes 1 1 = 1 | comes 0 0 = 2 | comes 0 0 = 3 | comes 0 0 = 4
            # with 1 IN too it STICKS behind a STEP
            now 5 = 1 | goer 0 5 = NONE | goer 1 5 = NONE | goer 2 5 = 1 | goer 3 5 = NONE | goer 4 5 = NONE
            spare 0 = 1 | spare 1 = NONE | spare 2 = NONE | spare 3 = 1 | spare 4 = 1
            leaves 1 = 2 | goer 0 5 = 2 | goer 3 5 = 2 | goer 4 5 = 3
            """);
        Script.run("14 spare, no goers", "spare 0 = BAD | ahead 0 = BAD");
    }

    private static void ahead() {
        Script.run("15 ahead, the least and the lowest", ONE_ROW + """
            ahead 0 = NONE | ahead 1 = NONE | ahead 2 = NONE | ahead 3 = 2 | ahead 4 = 2
            now 3 = 30 | goer 4 5 = 6 | goer 2 4 = 1 | now 7 = 5
            lets 2 = 1 | goer 3 5 = 4 | goer 4 5 = 5 | ahead 3 = NONE | ahead 4 = NONE
            """);
        Script.run("15 ahead, it sticks", WEAK + """
            ahead 0 = 2 | ahead 1 = NONE | ahead 2 = NONE | ahead 3 = NONE | goer 2 4 = 1
            lets 2 = 1 | goer 0 5 = 1 | ahead 0 = NONE
            ahead 4 = BAD | ahead -1 = BAD | ahead -2147483648 = BAD
            """);
        Script.run("15 ahead, one is through or gone", WEAK + """
            lets 2 = 1 | steps = 2 | ahead 0 = NONE | leaves 3 = 0 | ahead 3 = NONE | spare 3 = NONE
            """);
    }

    private static void odds() {
        Script.run("16 odds", """
            tell h3;s1 5;s1 3;s1 0; = 4 | odds 0 0 = 0 | odds 0 1 = 1 | odds 10 0 = 0 | odds 10 1 = 1
            comes 0 0 = 0
            odds 0 0 = 1 | odds 0 1 = 1 | odds 3 0 = 7 | odds 3 1 = 10 | odds 5 0 = 1 | odds 5 1 = 2
            odds 4 0 = 3 | odds 4 1 = 5 | odds 10 0 = 0 | odds 10 1 = 1
            comes 1 1 = 1
            # DRAG 5: the first must push, the other may
            odds 3 0 = 7 | odds 3 1 = 10
            comes 1 1 = 2
            # DRAG 6: the first and one more, or the two others
            odds 3 0 = 98 | odds 3 1 = 125 | odds 5 0 = 1 | odds 5 1 = 2
            odds 0 0 = 1 | odds 0 1 = 1 | odds 10 0 = 0 | odds 10 1 = 1
            comes 1 0 = 3 | comes 0 0 = 4 | now 3 = 16
            odds -1 0 = BAD | odds 11 0 = BAD | odds 0 2 = BAD | odds 0 -1 = BAD | odds 2147483647 1 = BAD
            """);
        Script.run("16 odds, it can't go", """
            tell h20;s1 9;s1 0; = 3 | comes 0 0 = 0 | comes 0 1 = 1 | odds 0 0 = 0 | odds 0 1 = 1 | odds 3 0 = 0
            odds 3 1 = 1 | comes 1 0 = 2 | odds 3 0 = 0 | odds 3 1 = 1
            """);
        Script.run("16 odds, nine", """
            tell r6 5;h0;s1 9; = 3
            comes 0 0 = 0 | comes 0 0 = 1 | comes 0 0 = 2 | comes 0 0 = 3 | comes 0 0 = 4
            comes 0 1 = 5 | comes 0 1 = 6 | comes 0 1 = 7 | comes 0 1 = 8 | now 3 = 0 | now 1 = 81 | now 2 = 9
            odds 1 0 = 999999999 | odds 1 1 = 1000000000 | odds 3 0 = 999980317 | odds 3 1 = 1000000000
            odds 5 0 = 511 | odds 5 1 = 512 | odds 0 0 = 1 | odds 10 0 = 0
            """);
        Script.run("16 odds, who doesn't push when he does", """
            tell h0;s1 0;s1 2; = 3 | comes 0 0 = 0 | odds 0 0 = 0 | odds 0 1 = 1 | comes 1 0 = 1
            odds 1 0 = 9 | odds 1 1 = 10
            """);
    }
}
