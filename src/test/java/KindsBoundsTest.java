/** DOC.md, Terms, part 4: each sentence that names a bound of kinds, images and reading anew has a test of its own. */
public final class KindsBoundsTest {
    public static void main(String[] args) {
        kinds();
        rateBelowNothing();
        rateOfEachWhere();
        traceOfEachBody();
        traceIsKept();
        twoImages();
        imagesKeepNow();
        imagesKeepNothingElse();
        nothingUndoneBehindBack();
        readAnew();
        readAnewIsFirstDoor();
        Script.end();
    }

    private static final String KINDS = "KINDS of DOORS: 0 DOOR; 1 BANK, 2 HOTEL, 5 STORE; 3 COURT; 4 GRAND";

    private static void kinds() {
        WingDoor x = Script.told(KINDS, "r4 5;s4 7;", 2);
        Script.due(KINDS, "rate(0, 0) of nobody", x.rate(0, 0), WingDoor.NO);
        Script.due(KINDS, "comes(0, 0)", x.comes(0, 0), 0);
        Script.due(KINDS, "comes(0, 0)", x.comes(0, 0), 1);
        Script.due(KINDS, "steps()", x.steps(), 0);
        Script.due(KINDS, "comes(0, 1)", x.comes(0, 1), 2);
        Script.due(KINDS, "comes(0, 1)", x.comes(0, 1), 3);
        int[] due = {4, 11, 3, 22, 5, 5};
        for (int kind = -2; kind <= 8; kind++) {
            boolean fine = kind >= 0 && kind <= 5;
            Script.due(KINDS, "rate(" + kind + ", 2)", x.rate(kind, 2), fine ? due[kind] : WingDoor.NO);
            Script.due(KINDS, "rate(" + kind + ", 4)", x.rate(kind, 4), WingDoor.NO);
            Script.due(KINDS, "rate(" + kind + ", -1)", x.rate(kind, -1), WingDoor.NO);
        }
    }

    private static void rateBelowNothing() {
        Script.run("NO: What is BAD, where a number may be below 0", """
            tell r3 1;s1 0; = 2 | comes 0 0 = 0 | comes 0 0 = 1 | rate 2 0 = 0 | comes 0 0 = 2 | rate 2 0 = -1
            comes 0 0 = 3 | rate 2 0 = -2 | comes 0 0 = 4 | rate 2 0 = -3 | comes 0 0 = 5 | comes 0 0 = 6 | comes 0 0 = 7
            comes 0 0 = 8 | rate 2 0 = -7 | rate 4 0 = -7 | rate 4 7 = 0 | rate 4 8 = 1 | rate 2 8 = -7
            rate 2 9 = NO | rate 6 8 = NO
            """);
    }

    private static void rateOfEachWhere() {
        Script.run("RATE of one of GOERS: be he THROUGH, IN, WAITING or GONE", NowBoundsTest.ALL_WHERES + """
            rate 0 0 = 2 | rate 0 8 = 3 | rate 1 0 = 6 | rate 2 0 = 0 | rate 3 8 = 16 | rate 4 8 = 9 | rate 5 8 = 5
            rate 1 7 = 7 | rate 2 7 = -1 | rate 3 7 = 14 | rate 4 7 = 6 | rate 5 7 = 3 | rate 3 1 = 16 | rate 0 9 = NO
            """);
    }

    private static final String TRACE = "numbers in brackets are added to THE TRACE .. each once";

    private static void traceOfEachBody() {
        int[] added = {1, 11, 101, 1011, 10101, 100001};
        for (int kind = 0; kind <= 5; kind++) {
            WingDoor x = Script.told(TRACE, "s1 1;", 1);
            Script.due(TRACE, "trace() at first", x.trace(), 0);
            x.comes(0, 0);
            for (int n = 1; n <= 20; n++) {
                x.rate(kind, 0);
                Script.due(TRACE, n + " times kind " + kind, x.trace(), (long) n * added[kind]);
            }
            x.rate(kind, 1);
            x.rate(kind, -1);
            x.rate(-1, 0);
            x.rate(6, 0);
            Script.due(TRACE, "trace() behind what is refused", x.trace(), 20L * added[kind]);
        }
    }

    private static void traceIsKept() {
        Script.run("THE TRACE (nothing but rate() changes it)", """
            tell s1 1;s2 2; = 2 | comes 0 0 = 0 | comes 1 0 = 1 | comes 1 0 = 2 | rate 3 0 = 4 | trace = 1011
            keep 0 = 0 | lets 2 = 1 | leaves 1 = 1 | steps = 0 | undo = 5 | spare 0 = NONE | ahead 0 = NONE | trace = 1011
            rate 5 0 = 1 | back 0 = 0 | trace = 101012 | forget = 0 | clear = 0 | door = 0 | trace = 101012
            """);
    }

    private static void twoImages() {
        Script.run("IMAGES 0, 1", """
            back 0 = STATE | back 1 = STATE | keep -1 = BAD | keep 2 = BAD | back -1 = BAD | back 2 = BAD
            back 0 = STATE | back 1 = STATE | keep 1 = 0 | back 0 = STATE | back 1 = 0 | steps = 0
            keep 0 = 1 | steps = 0 | back 1 = 0 | back 0 = 1 | back 0 = 1 | back 1 = 0
            # kept once more: the older one is lost, the other image stays
            steps = 0 | steps = 0 | keep 1 = 2 | back 0 = 1 | back 1 = 2 | back 2 = BAD | keep 2 = BAD
            """);
    }

    private static void imagesKeepNow() {
        Script.run("IMAGES keep NOW (GOERS, where all are, the STEP)", NowBoundsTest.ALL_WHERES + """
            lets 7 = 1 | steps = 2 | steps = 3 | steps = 1 | now 3 = 0 | now 4 = 255
            back 1 = 2 | now 0 = 2 | count 4 = 9 | now 3 = 192 | now 4 = 9 | goer 6 4 = 0 | goer 7 4 = 1 | goer 8 2 = 3
            room 0 0 = 4 | room 1 0 = 2 | room 2 0 = 32 | room 3 0 = 16 | goer 6 5 = 3 | goer 7 5 = 4
            back 0 = 0 | now 0 = 0 | count 4 = 6 | now 3 = 54 | now 4 = 0 | room 0 0 = 1 | room 2 0 = 8 | goer 6 0 = BAD
            # what is done then doesn't touch what is kept
            leaves 1 = 2 | steps = 0 | back 0 = 0 | now 3 = 54 | back 1 = 2 | now 3 = 192
            """);
        Script.run("IMAGES keep NOW: nobody", """
            tell s1 1; = 1 | keep 0 = 0 | comes 0 0 = 0 | back 0 = 0 | count 4 = 0 | room 0 0 = 0 | comes 0 1 = 0
            """);
    }

    private static void imagesKeepNothingElse() {
        Script.run("IMAGES keep .. nothing else", """
            tell s1 1;s2 2; = 2 | comes 0 0 = 0 | sees 0 1 1 = 1 | types ab = 2 | keep 0 = 0
            sees 0 1 0 = 2 | type 99 = 3 | rate 0 0 = 1 | keep 1 = 0
            back 0 = 0 | count 5 = 2 | count 6 = 3 | trace = 1 | which = 0 | back 1 = 0 | back 0 = 0
            """);
    }

    private static void nothingUndoneBehindBack() {
        Script.run("(nothing can be UNDONE behind back())", """
            tell s2 9; = 1 | comes 0 0 = 0 | comes 0 0 = 1 | keep 0 = 0 | now 7 = 2 | steps = 0 | now 7 = 3
            # what is refused keeps it
            back 1 = STATE | back 2 = BAD | back -1 = BAD | keep 2 = BAD | now 7 = 3
            back 0 = 0 | now 7 = 0 | undo = STATE | count 4 = 2 | steps = 0 | now 7 = 1 | undo = 0 | undo = STATE | count 4 = 2
            # keep() leaves what may be UNDONE
            steps = 0 | keep 1 = 1 | now 7 = 1 | undo = 0
            """);
    }

    private static void readAnew() {
        Script.run("(Read anew: as told, no GOERS, STEP 0, nothing SEEN, IMAGES are gone.)", """
            tell r3 2;h0;s1 9;s2 9; = 4 | comes 0 0 = 0 | comes 1 1 = 1 | comes 1 1 = 2 | steps = 1 | sees 1 9 0 = 1
            keep 0 = 1 | keep 1 = 1 | which = 0
            # a FAULT: nothing changes
            tell r3 2;h1;x = -18 | count 4 = 3 | count 2 = 0 | now 0 = 1 | count 5 = 1 | now 7 = 4 | count 6 = 9 | clear = 9
            tell r5 1;s1 8; = 2 | count 0 = 5 | count 1 = 1 | count 2 = 3 | count 3 = 1 | sort 0 1 = 8 | sort 0 2 = 0 | sort 1 0 = BAD
            count 4 = 0 | goer 0 0 = BAD | now 0 = 0 | now 1 = 0 | now 3 = 0 | now 4 = 0 | count 5 = 0 | which = 1
            back 0 = STATE | back 1 = STATE | now 7 = 0 | undo = STATE | count 6 = 0
            room 0 0 = 0 | room 1 0 = 0 | room 2 0 = 0 | room 3 0 = 0 | room 4 0 = 0 | room 5 0 = BAD
            comes 0 1 = 0 | goer 0 3 = 2 | goer 0 5 = 3
            """);
    }

    private static void readAnewIsFirstDoor() {
        Script.run("Read anew: what isn't told is as at first", """
            tell r6 5;h20;s5 9; = 3 | door = 0 | count 0 = 4 | count 1 = 2 | count 2 = 3 | count 3 = 0
            comes 0 0 = BAD | tell h20; = 1 | tell s1 1; = 1 | count 2 = 3
            """);
    }
}
