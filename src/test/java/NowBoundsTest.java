/** DOC.md, Terms, part 3: each sentence that names a bound of what is asked of NOW has a test of its own. */
public final class NowBoundsTest {
    public static void main(String[] args) {
        nothingIsChanged();
        when();
        whenAtTheFarthest();
        sticks();
        all();
        spareLessThanItIs();
        spareOfTheOthersWhoWait();
        spareOfSeveralTheLowest();
        aheadLessThanItIs();
        aheadOfTheOthersWhoWait();
        aheadOfSeveralTheLowest();
        sixAreSeen();
        seenAtMostOrMore();
        which();
        lookByTwo();
        lookByParts();
        lookNone();
        oddsByX();
        oddsIfNobodyIsIn();
        oddsInLeastTerms();
        oddsDragAsItIs();
        Script.end();
    }

    /** 0 and 3 are THROUGH, 1, 4, 2 and 5 IN, 6 and 7 WAIT (7 behind 6, who is too wide), 8 is GONE. */
    static final String ALL_WHERES = """
            tell r4 3;h0;s2 4;s3 5;s1 6; = 5
            comes 0 0 = 0 | comes 1 0 = 1 | comes 2 0 = 2 | comes 0 1 = 3 | comes 1 1 = 4 | comes 2 1 = 5
            keep 0 = 0 | steps = 0 | steps = 2 | comes 1 0 = 6 | comes 2 0 = 7 | comes 1 0 = 8 | leaves 8 = 2 | keep 1 = 2
            sees 0 2 1 = 1 | types s1 1 = 4
            """;

    private static void nothingIsChanged() {
        Twins.unchanged("(As things are NOW; nothing is changed; STEPS go by alone.)", ALL_WHERES, """
            goer 7 5 = 4 | goer 6 5 = 3 | goer 1 5 = 1 | goer 0 5 = 0 | goer 8 5 = NONE | now 5 = 4 | now 6 = 4
            spare 7 = 6 | spare 6 = NONE | ahead 6 = NONE | ahead 7 = NONE | ahead 0 = NONE
            odds 3 0 = 9919 | odds 3 1 = 10000 | which = 5 | look 0 = 1 | look 1 = 4
            """);
    }

    private static void when() {
        Script.run("WHEN of one: behind how many STEPS (0 .. 60) he is THROUGH first; NONE", ALL_WHERES + """
            goer 0 5 = 0 | goer 3 5 = 0 | goer 1 5 = 1 | goer 4 5 = 1 | goer 2 5 = 2 | goer 6 5 = 3 | goer 7 5 = 4
            goer 8 5 = NONE | steps = 2 | goer 1 5 = 0 | goer 6 5 = 2 | goer 0 5 = 0
            """);
        Script.run("WHEN .. NONE: it STICKS at once, or on the way", """
            tell r3 1;h2;s1 3;s1 2; = 4 | comes 1 1 = 0 | goer 0 5 = NONE | steps = 0 | goer 0 5 = NONE
            comes 0 0 = 1 | now 1 = 5 | now 2 = 4 | goer 1 5 = 1 | goer 0 5 = NONE | steps = 1
            goer 0 2 = 1 | goer 0 5 = NONE | goer 1 5 = 0
            comes 0 0 = 2 | goer 0 5 = 1 | goer 2 5 = 1
            """);
    }

    /** Nine GOERS are all there may be, so that nobody is ever farther from being THROUGH than these. */
    private static void whenAtTheFarthest() {
        String title = "WHEN, STICKS, ALL: (0 .. 60), as far as nine can be";
        WingDoor x = Script.told(title, "r6 1;h0;s1 9;", 3);
        for (int g = 0; g < 9; g++) {
            Script.due(title, "comes(0, 1)", x.comes(0, 1), g);
            Script.due(title, "goer(" + g + ", 5)", x.goer(g, 5), g + 3);
            Script.due(title, "now(5)", x.now(5), g + 3);
            Script.due(title, "now(6)", x.now(6), g + 3);
        }
        for (int step = 1; step <= 11; step++) {
            Script.due(title, "steps()", x.steps(), step < 3 ? 0 : 1);
            Script.due(title, "goer(8, 5)", x.goer(8, 5), 11 - step);
            Script.due(title, "goer(0, 5)", x.goer(0, 5), Math.max(0, 3 - step));
            Script.due(title, "now(5)", x.now(5), 11 - step);
            Script.due(title, "now(6)", x.now(6), 11 - step);
        }
        // Far beyond 60 STEPS nothing is other than it was.
        for (int step = 12; step <= 130; step++) {
            Script.due(title, "steps() of nobody", x.steps(), 0);
        }
        Script.due(title, "goer(8, 5), later", x.goer(8, 5), 0);
        Script.due(title, "now(5), later", x.now(5), 0);
        Script.due(title, "now(6), later", x.now(6), 0);
    }

    private static void sticks() {
        Script.run("STICKS: behind how many STEPS the next one first STICKS (0: the next one does)", """
            now 5 = 0 | tell r4 1;h3;s1 4;s1 3;s1 0; = 5 | now 5 = 0
            comes 1 0 = 0 | now 5 = 0 | undo = 0 | comes 0 0 = 0 | now 5 = 2
            # with 1 IN, who doesn't PUSH, it STICKS one STEP on
            comes 2 0 = 1 | now 5 = 1 | steps = 0 | now 5 = 0 | steps = 0 | now 5 = 0 | goer 0 3 = 1
            # one more at the HALL: it goes once more, and STICKS then
            comes 0 1 = 2 | now 5 = 1 | steps = 1 | now 5 = 0 | now 6 = NONE
            """);
    }

    private static void all() {
        Script.run("ALL: behind how many STEPS nobody WAITS or is IN; NONE", """
            now 6 = 0 | tell h0;s2 9;s1 0; = 3 | now 6 = 0 | comes 0 0 = 0 | now 6 = 2 | comes 0 0 = 1 | now 6 = 3
            leaves 1 = 0 | now 6 = 2 | steps = 0 | now 6 = 1 | steps = 1 | now 6 = 0 | steps = 0 | now 6 = 0
            comes 1 0 = 2 | now 6 = NONE | steps = 0 | now 6 = NONE
            # those who WAIT count, too: the last one alone doesn't move it
            comes 0 0 = 3 | comes 1 0 = 4 | now 3 = 24 | now 6 = NONE
            """);
    }

    private static void spareLessThanItIs() {
        Script.run("SPARE: .. least, and less than it is (NONE counts as 61)", """
            tell r4 2;h0;s2 9;s1 9; = 4 | comes 0 0 = 0 | comes 1 0 = 1 | spare 0 = NONE | spare 1 = NONE
            # 1 WAITS ahead of 2, and would be IN with him: no less by his giving up
            comes 1 0 = 2 | goer 2 5 = 3 | spare 2 = NONE
            # 3 is IN one STEP later than they: he is sooner if one of them gives up
            comes 1 0 = 3 | goer 3 5 = 4 | spare 3 = 1
            # one behind him, one of the other SIDE
            comes 0 1 = 4 | comes 0 1 = 5 | spare 2 = NONE | spare 5 = NONE
            """);
        Script.run("SPARE: .. least", """
            tell r4 2;h0;s2 9;s1 9; = 4 | comes 0 0 = 0 | comes 1 0 = 1 | comes 0 0 = 2 | comes 1 0 = 3
            goer 3 5 = 5 | leaves 1 = 2 | goer 3 5 = 4 | undo = 4 | leaves 2 = 2 | goer 3 5 = 3 | undo = 4 | spare 3 = 2
            """);
        Script.run("SPARE: .. NONE counts as 61", """
            tell r4 2;h1;s1 1;s2 0;s1 9; = 5 | comes 0 0 = 0 | comes 1 0 = 1 | comes 2 0 = 2 | goer 0 5 = NONE
            spare 0 = 1 | leaves 1 = 0 | goer 0 5 = 2 | spare 0 = NONE
            """);
        Script.run("SPARE: .. NONE, if it STICKS anyway", """
            tell h20;s2 9; = 2 | comes 0 0 = 0 | comes 0 0 = 1 | comes 0 0 = 2
            spare 0 = NONE | spare 1 = NONE | spare 2 = NONE | ahead 0 = NONE | ahead 1 = NONE | ahead 2 = NONE
            """);
    }

    private static void spareOfTheOthersWhoWait() {
        // 0, who is IN and doesn't PUSH, is the only one by whom it STICKS: he can't give up.
        Script.run("SPARE: who of the others who WAIT (nobody else does)", """
            tell r4 1;h3;s1 0;s1 4; = 4 | comes 0 0 = 0 | comes 1 1 = 1 | now 1 = 4 | now 2 = 5
            spare 1 = NONE | spare 0 = NONE | comes 1 1 = 2 | spare 2 = NONE | spare 1 = NONE
            """);
        Script.run("SPARE for one who is THROUGH, or GONE", ALL_WHERES + """
            spare 0 = NONE | spare 8 = NONE | spare 7 = 6 | spare 6 = NONE | spare 1 = NONE
            """);
    }

    private static void spareOfSeveralTheLowest() {
        Script.run("SPARE: .. of several the lowest", """
            tell h0;s2 9; = 2 | comes 0 0 = 0 | comes 0 0 = 1 | comes 0 0 = 2 | comes 0 0 = 3 | spare 3 = 1
            # by number, not by who is ahead
            lets 2 = 1 | spare 3 = 1 | spare 1 = 2 | lets 3 = 2 | spare 1 = 2 | spare 2 = 3 | spare 3 = NONE
            """);
    }

    private static void aheadLessThanItIs() {
        Script.run("AHEAD: .. least, and less than it is", """
            tell r4 2;h0;s2 9;s1 9; = 4 | comes 0 0 = 0 | comes 1 0 = 1 | comes 0 0 = 2 | comes 1 0 = 3
            # 3 ahead: IN together with 1, so that 2 is no later
            goer 2 5 = 4 | goer 3 5 = 5 | ahead 0 = NONE | ahead 1 = NONE | ahead 2 = NONE
            # 2 ahead: 1 and 3 are IN together, one STEP sooner
            ahead 3 = 2 | lets 2 = 1 | goer 3 5 = 4 | goer 1 5 = 4 | ahead 3 = NONE
            # 3 ahead now would put 1 later, 1 ahead would put 2 later
            ahead 2 = NONE | ahead 1 = NONE
            """);
        Script.run("AHEAD: .. NONE counts as 61", """
            tell r4 2;h1;s1 1;s2 0;s1 9; = 5 | comes 0 0 = 0 | comes 1 0 = 1 | comes 2 0 = 2 | goer 0 5 = NONE
            ahead 0 = 2 | ahead 1 = NONE | ahead 2 = NONE | lets 2 = 1 | goer 0 5 = 2 | ahead 0 = NONE
            """);
    }

    private static void aheadOfTheOthersWhoWait() {
        Script.run("AHEAD: who of the others who WAIT (not he himself)", """
            tell h0;s2 9; = 2 | comes 0 0 = 0 | comes 0 0 = 1 | comes 0 0 = 2 | goer 2 5 = 4
            ahead 2 = NONE | ahead 1 = NONE | ahead 0 = NONE | lets 2 = 1 | goer 2 5 = 3
            """);
        Script.run("AHEAD for one who is THROUGH, or GONE", ALL_WHERES + """
            ahead 0 = NONE | ahead 8 = NONE | ahead 6 = NONE | ahead 7 = NONE | ahead 2 = NONE
            """);
    }

    private static void aheadOfSeveralTheLowest() {
        // 0 alone doesn't move it; 2, 3 and 4 could, who WAIT behind 1.
        Script.run("AHEAD: .. of several the lowest", """
            tell r4 2;h1;s1 1;s2 0;s1 9; = 5 | comes 0 0 = 0 | comes 1 0 = 1 | comes 2 0 = 2 | comes 2 0 = 3 | comes 2 0 = 4
            ahead 0 = 2 | now 3 = 30
            """);
        Script.run("AHEAD: .. of several the lowest, by number, not by who is ahead", """
            tell r4 2;h1;s1 1;s2 0;s1 9; = 5 | comes 0 0 = 0 | comes 1 0 = 1 | comes 1 0 = 2 | comes 2 0 = 3 | comes 2 0 = 4
            lets 2 = 1 | ahead 0 = 3 | goer 3 4 = 2 | goer 4 4 = 3
            """);
        // 1 would be IN alone, and doesn't PUSH: 2 ahead helps, but 3 ahead, IN with him, helps sooner.
        Script.run("AHEAD: .. least, though a lower one makes it less, too", """
            tell r3 2;h3;s1 0;s2 9;s1 9; = 5 | comes 1 0 = 0 | comes 0 0 = 1 | comes 1 0 = 2 | comes 2 0 = 3
            goer 1 5 = NONE | lets 2 = 1 | goer 1 5 = 3 | undo = 4 | lets 3 = 2 | goer 1 5 = 2 | undo = 4 | ahead 1 = 3
            """);
    }

    private static final String SIX = "SEEN (6 at most)";

    private static void sixAreSeen() {
        WingDoor x = Script.told(SIX, "r3 5;s1 1;s2 2;s3 3;s4 4;s5 5;s5 6;", 7);
        int[] which = {63, 62, 60, 56, 48, 32, 32};
        for (int n = 1; n <= 6; n++) {
            Script.due(SIX, "which()", x.which(), which[n - 1]);
            Script.due(SIX, "sees(1, " + n + ", 0)", x.sees(1, Math.min(n, 5), 0), n);
            Script.due(SIX, "count(5)", x.count(5), n);
        }
        Script.due(SIX, "which()", x.which(), which[6]);
        Script.due(SIX, "sees(1, 9, 0), the seventh", x.sees(1, 9, 0), WingDoor.FULL);
        Script.due(SIX, "count(5)", x.count(5), 6);
        Script.due(SIX, "which() behind it", x.which(), 32);
        Script.due(SIX, "forget()", x.forget(), 6);
        Script.due(SIX, "sees(1, 9, 0), the first", x.sees(1, 9, 0), 1);
        Script.due(SIX, "which(), then", x.which(), 0);
    }

    private static final String AT_MOST = "as much ROOM as v at most (1), or more (0); as hard as v at most (1), or harder (0)";

    private static void seenAtMostOrMore() {
        for (int bulk = 1; bulk <= 5; bulk++) {
            for (int v = 1; v <= 5; v++) {
                seenOnce("r3 5;s" + bulk + " 9;", 0, v, bulk <= v);
            }
        }
        for (int push = 0; push <= 9; push++) {
            for (int v = 0; v <= 9; v++) {
                seenOnce("r3 5;s5 " + push + ";", 1, v, push <= v);
            }
        }
    }

    private static void seenOnce(String text, int what, int v, boolean atMost) {
        WingDoor x = Script.told(AT_MOST, text, 2);
        Script.due(AT_MOST, "sees(" + what + ", " + v + ", 1)", x.sees(what, v, 1), 1);
        Script.due(AT_MOST, text + ": which() at most " + v, x.which(), atMost ? 1 : 0);
        Script.due(AT_MOST, "forget()", x.forget(), 1);
        Script.due(AT_MOST, "sees(" + what + ", " + v + ", 0)", x.sees(what, v, 0), 1);
        Script.due(AT_MOST, text + ": which() above " + v, x.which(), atMost ? 0 : 1);
        Script.due(AT_MOST, "sees(" + what + ", " + v + ", 1)", x.sees(what, v, 1), 2);
        Script.due(AT_MOST, "which() by both", x.which(), 0);
    }

    private static void which() {
        Script.run("WHICH: SORTS (bits) by which all that was SEEN is so", """
            which = 0 | sees 0 5 1 = 1 | which = 0 | tell r4 5;s1 1;s3 3;s5 5; = 4 | which = 7
            sees 0 1 0 = 1 | which = 6 | sees 0 4 1 = 2 | which = 2 | sees 1 3 1 = 3 | which = 2 | sees 1 3 0 = 4 | which = 0
            # goers of a SORT, or none, are the same to it
            comes 1 0 = 0 | which = 0 | forget = 4 | which = 7
            """);
    }

    private static final String LOOK = "LOOK: the v by which, at most or not, the greater part of these is smallest";

    private static void lookByTwo() {
        for (int a = 0; a <= 9; a++) {
            for (int b = 0; b <= 9; b++) {
                WingDoor x = Script.told(LOOK, "s1 " + a + ";s1 " + b + ";", 2);
                Script.due(LOOK, "look(1) of " + a + ", " + b, x.look(1), a == b ? 0 : Math.min(a, b));
                Script.due(LOOK, "look(0) of two alike", x.look(0), 1);
            }
        }
        for (int a = 1; a <= 5; a++) {
            for (int b = 1; b <= 5; b++) {
                WingDoor x = Script.told(LOOK, "r3 5;s" + a + " 7;s" + b + " 7;", 3);
                Script.due(LOOK, "look(0) of " + a + ", " + b, x.look(0), a == b ? 1 : Math.min(a, b));
                Script.due(LOOK, "look(1) of two alike", x.look(1), 0);
            }
        }
    }

    private static void lookByParts() {
        Script.run(LOOK + ", of several the least", """
            # 1, 2, 3: by 1 as by 2; 1 of three at most, or two
            tell r4 5;s1 9;s2 8;s3 8; = 4 | look 0 = 1 | look 1 = 8
            tell r4 5;s5 0;s5 1;s5 2;s4 9; = 5 | look 0 = 4 | look 1 = 1
            tell r4 5;s1 0;s1 0;s1 0;s5 0;s5 9;s5 9; = 7 | look 0 = 1 | look 1 = 0
            # of the SORTS that can be alone
            sees 0 1 0 = 1 | which = 56 | look 1 = 0 | look 0 = 1 | sees 1 0 0 = 2 | which = 48 | look 1 = 0 | look 0 = 1
            """);
    }

    private static void lookNone() {
        Script.run("LOOK: .. NONE (one can be at most)", """
            look 0 = NONE | look 1 = NONE | tell s1 4; = 1 | look 0 = NONE | look 1 = NONE
            tell s1 4;s2 4; = 2 | look 0 = 1 | look 1 = 0 | sees 0 1 1 = 1 | which = 1 | look 0 = NONE | look 1 = NONE
            sees 0 1 0 = 2 | which = 0 | look 0 = NONE | look 1 = NONE | forget = 2 | look 0 = 1
            """);
    }

    private static final String BY_X = "ODDS by x (0 .. 10): each who is IN doesn't PUSH by x of 10";

    private static void oddsByX() {
        int[] upper = {1, 9, 4, 7, 3, 1, 2, 3, 1, 1, 0};
        int[] lower = {1, 10, 5, 10, 5, 2, 5, 10, 5, 10, 1};
        WingDoor x = Script.told(BY_X, "h0;s1 9;", 2);
        Script.due(BY_X, "comes(0, 0)", x.comes(0, 0), 0);
        for (int n = -2; n <= 12; n++) {
            boolean fine = n >= 0 && n <= 10;
            Script.due(BY_X, "odds(" + n + ", 0)", x.odds(n, 0), fine ? upper[n] : WingDoor.BAD);
            Script.due(BY_X, "odds(" + n + ", 1)", x.odds(n, 1), fine ? lower[n] : WingDoor.BAD);
            Script.due(BY_X, "odds(" + n + ", 2)", x.odds(n, 2), WingDoor.BAD);
            Script.due(BY_X, "odds(" + n + ", -1)", x.odds(n, -1), WingDoor.BAD);
        }
    }

    private static void oddsIfNobodyIsIn() {
        String title = "ODDS: .. (0 by 1, if nobody is IN)";
        WingDoor x = Script.told(title, "h0;s1 9;", 2);
        for (int n = 0; n <= 10; n++) {
            Script.due(title, "odds(" + n + ", 0) of nobody", x.odds(n, 0), 0);
            Script.due(title, "odds(" + n + ", 1) of nobody", x.odds(n, 1), 1);
        }
        x.comes(0, 0);
        x.steps();
        Script.due(title, "steps()", x.steps(), 1);
        for (int n = 0; n <= 10; n++) {
            Script.due(title, "odds(" + n + ", 0), all are THROUGH", x.odds(n, 0), 0);
            Script.due(title, "odds(" + n + ", 1), all are THROUGH", x.odds(n, 1), 1);
        }
    }

    private static void oddsInLeastTerms() {
        Script.run("ODDS: a fraction in least terms, of nine at most", """
            tell r4 5;h0;s1 9; = 3 | comes 0 0 = 0 | comes 0 0 = 1 | odds 5 0 = 3 | odds 5 1 = 4 | odds 2 0 = 24 | odds 2 1 = 25
            comes 0 0 = 2 | comes 0 0 = 3 | comes 0 0 = 4 | comes 0 1 = 5 | comes 0 1 = 6 | comes 0 1 = 7 | comes 0 1 = 8
            # DRAG 9: one who PUSHES is enough; none of nine does by x to the power of 9
            odds 0 0 = 1 | odds 0 1 = 1 | odds 10 0 = 0 | odds 10 1 = 1 | odds 9 0 = 612579511 | odds 9 1 = 1000000000
            odds 1 0 = 999999999 | odds 1 1 = 1000000000 | odds 5 0 = 511 | odds 5 1 = 512 | odds 2 0 = 1953124 | odds 2 1 = 1953125
            """);
        Script.run("ODDS of nine, all of whom must PUSH", """
            tell r4 5;h0;s1 1; = 3 | comes 0 0 = 0 | comes 0 0 = 1 | comes 0 0 = 2 | comes 0 0 = 3 | comes 0 0 = 4
            comes 0 1 = 5 | comes 0 1 = 6 | comes 0 1 = 7 | comes 0 1 = 8 | now 1 = 9 | now 2 = 9
            odds 0 0 = 1 | odds 0 1 = 1 | odds 9 0 = 1 | odds 9 1 = 1000000000 | odds 1 0 = 387420489 | odds 1 1 = 1000000000
            odds 10 0 = 0 | odds 10 1 = 1 | odds 8 0 = 1 | odds 8 1 = 1953125
            """);
    }

    private static void oddsDragAsItIs() {
        Script.run("ODDS: (DRAG as it is), for those who are IN alone", """
            tell r4 1;h3;s1 4;s1 5; = 4 | comes 0 0 = 0 | comes 0 0 = 1 | odds 1 0 = 9 | odds 1 1 = 10
            # two are IN: DRAG 5, though one of them doesn't PUSH; 4 alone isn't enough
            comes 0 1 = 2 | odds 1 0 = 81 | odds 1 1 = 100
            undo = 2 | comes 1 1 = 2 | odds 1 0 = 9 | odds 1 1 = 10
            """);
    }
}
