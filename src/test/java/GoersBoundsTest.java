/** DOC.md, Terms, part 2: each sentence that names a bound of goers and of what is done has a test of its own. */
public final class GoersBoundsTest {
    public static void main(String[] args) {
        nineGoers();
        sides();
        waitsBehindThoseWhoDo();
        filledByWhatIsLeft();
        filledByTheFirstAlone();
        filledBehindAllThatIsDone();
        loadAndDrag();
        sticksIfNobodyIsIn();
        sticksAndNothingMoves();
        throughAtTheOtherSide();
        stepIsOneMoreEitherWay();
        givesUp();
        letAhead();
        tenMayBeUndone();
        refusedIsNotUndone();
        undoneEachOfFour();
        Script.end();
    }

    private static final String NINE = "GOERS 0 .. (9 at most), as they come";

    private static void nineGoers() {
        WingDoor x = Script.told(NINE, "r3 1;h0;s1 9;", 3);
        for (int g = 0; g < 9; g++) {
            Script.due(NINE, "goer(" + g + ", 0) ahead of him", x.goer(g, 0), WingDoor.BAD);
            Script.due(NINE, "comes(0, 0)", x.comes(0, 0), g);
            Script.due(NINE, "goer(" + g + ", 0)", x.goer(g, 0), 0);
            Script.due(NINE, "count(4)", x.count(4), g + 1);
        }
        Script.due(NINE, "comes(0, 0), the tenth", x.comes(0, 0), WingDoor.FULL);
        Script.due(NINE, "comes(0, 1), the tenth", x.comes(0, 1), WingDoor.FULL);
        Script.due(NINE, "goer(9, 0)", x.goer(9, 0), WingDoor.BAD);
        Script.due(NINE, "count(4)", x.count(4), 9);
        Script.due(NINE, "sort(0, 2)", x.sort(0, 2), 9);
        // Those who are THROUGH or GONE are among the nine.
        Script.due(NINE, "leaves(8)", x.leaves(8), 7);
        for (int n = 1; n <= 8; n++) {
            Script.due(NINE, "steps()", x.steps(), 1);
        }
        Script.due(NINE, "now(4)", x.now(4), 255);
        Script.due(NINE, "comes(0, 0), nobody WAITS", x.comes(0, 0), WingDoor.FULL);
        // One who is UNDONE isn't.
        for (int n = 9; n >= 0; n--) {
            Script.due(NINE, "undo()", x.undo(), n);
        }
        Script.due(NINE, "count(4) behind undo()", x.count(4), 8);
        Script.due(NINE, "comes(0, 1) behind undo()", x.comes(0, 1), 8);
    }

    private static void sides() {
        Script.run("a SIDE (0 the STREET, 1 the HALL)", """
            tell s1 1; = 1 | comes 0 -1 = BAD | comes 0 2 = BAD | count 4 = 0
            comes 0 0 = 0 | comes 0 1 = 1 | goer 0 1 = 0 | goer 1 1 = 1 | room 0 0 = 1 | room 2 0 = 2
            comes 0 2 = BAD | comes 0 -1 = BAD | count 4 = 2
            """);
    }

    private static void waitsBehindThoseWhoDo() {
        Script.run("Each WAITS (0) on his SIDE behind those who do", """
            tell s2 1; = 1 | comes 0 0 = 0 | comes 0 1 = 1 | goer 0 4 = NONE | goer 1 4 = NONE
            comes 0 0 = 2 | comes 0 0 = 3 | comes 0 1 = 4 | comes 0 0 = 5 | comes 0 1 = 6
            goer 2 4 = 0 | goer 3 4 = 1 | goer 5 4 = 2 | goer 4 4 = 0 | goer 6 4 = 1
            # behind one who was LET AHEAD, too, and behind those whom that one passed
            lets 5 = 2 | comes 0 0 = 7 | goer 5 4 = 0 | goer 2 4 = 1 | goer 3 4 = 2 | goer 7 4 = 3
            lets 7 = 3 | comes 0 0 = 8 | goer 7 4 = 0 | goer 5 4 = 1 | goer 2 4 = 2 | goer 3 4 = 3 | goer 8 4 = 4
            goer 4 4 = 0 | goer 6 4 = 1
            """);
    }

    private static final String LEFT = "as long as the first one who WAITS has enough of WIDE left by the BULK of those IN";

    private static void filledByWhatIsLeft() {
        for (int wide = 1; wide <= 5; wide++) {
            for (int bulk = 1; bulk <= wide; bulk++) {
                for (int side = 0; side <= 1; side++) {
                    oneSideFills(wide, bulk, side);
                }
            }
        }
    }

    private static void oneSideFills(int wide, int bulk, int side) {
        WingDoor x = Script.told(LEFT, "r4 " + wide + ";s" + bulk + " 1;", 2);
        int fits = wide / bulk;
        for (int g = 0; g < 8; g++) {
            Script.due(LEFT, "comes(0, " + side + ")", x.comes(0, side), g);
            Script.due(LEFT, bulk + " in " + wide + ": goer(" + g + ", 2)", x.goer(g, 2), g < fits ? 1 : 0);
            int in = Math.min(g + 1, fits);
            Script.due(LEFT, bulk + " in " + wide + ": room", x.room(2 * side, 0), (1 << in) - 1);
            Script.due(LEFT, bulk + " in " + wide + ": its bulk", x.room(2 * side, 1), in * bulk);
        }
        // The other SIDE's ROOM is another one.
        Script.due(LEFT, "comes() to the other side", x.comes(0, 1 - side), 8);
        Script.due(LEFT, "goer(8, 2)", x.goer(8, 2), 1);
    }

    private static void filledByTheFirstAlone() {
        Script.run("the first one who WAITS (none behind him passes him)", """
            tell r4 5;s3 1;s2 1;s1 1;s4 1; = 5
            comes 0 0 = 0 | comes 0 0 = 1 | comes 1 0 = 2 | comes 2 0 = 3 | now 3 = 14 | room 0 1 = 3
            comes 3 1 = 4 | comes 1 1 = 5 | comes 2 1 = 6 | now 3 = 110 | room 2 1 = 4
            # exactly what is left
            lets 6 = 1 | goer 6 3 = 2 | room 2 1 = 5 | lets 2 = 1 | goer 2 3 = 0 | room 0 1 = 5 | now 3 = 42
            """);
    }

    private static void filledBehindAllThatIsDone() {
        Script.run("at first, and behind all that is done", """
            tell r4 2;h0;s2 9;s1 9; = 4 | now 3 = 0
            # comes()
            comes 1 0 = 0 | goer 0 2 = 1 | comes 0 0 = 1 | comes 1 0 = 2 | comes 1 0 = 3 | comes 0 1 = 4 | comes 0 1 = 5
            goer 4 2 = 1 | now 3 = 46
            # leaves(): the one behind him is IN, but not the next one
            leaves 1 = 2 | now 3 = 40 | goer 2 3 = 0 | goer 3 2 = 0 | undo = 6
            # lets()
            lets 3 = 2 | now 3 = 38 | goer 3 3 = 0 | undo = 6
            # steps(): one at the STREET, one at the HALL
            steps = 0 | now 3 = 12 | goer 1 3 = 0 | goer 5 3 = 2
            # two at once
            steps = 2 | now 3 = 0 | goer 2 3 = 0 | goer 3 3 = 0
            undo = 7 | now 3 = 12 | undo = 6 | now 3 = 46
            """);
        Script.run("behind all that is done: more than one by one leaves()", """
            tell r4 3;s1 1;s3 1; = 3 | comes 0 1 = 0 | comes 1 1 = 1 | comes 0 1 = 2 | comes 0 1 = 3 | comes 0 1 = 4
            leaves 1 = 1 | room 2 0 = 13 | now 3 = 16
            """);
    }

    private static final String LOAD = "LOAD is less than DRAG, it STICKS (DRAG: HARD, and 1 for each who is IN)";

    private static void loadAndDrag() {
        for (int hard = 0; hard <= 20; hard++) {
            for (int push = 0; push <= 9; push++) {
                int goers = 1 + (hard + push) % 3;
                loadAgainstDrag(hard, push, goers);
            }
        }
    }

    private static void loadAgainstDrag(int hard, int push, int goers) {
        WingDoor x = Script.told(LOAD, "r4 5;h" + hard + ";s1 " + push + ";", 3);
        for (int g = 0; g < goers; g++) {
            Script.due(LOAD, "comes(0, " + g % 2 + ")", x.comes(0, g % 2), g);
        }
        boolean goes = goers * push >= hard + goers;
        String who = goers + " of push " + push + ", hard " + hard + ": ";
        Script.due(LOAD, who + "now(1)", x.now(1), goers * push);
        Script.due(LOAD, who + "now(2)", x.now(2), hard + goers);
        Script.due(LOAD, who + "now(5)", x.now(5), goes ? 2 : 0);
        Script.due(LOAD, who + "now(6)", x.now(6), goes ? 2 : WingDoor.NONE);
        Script.due(LOAD, who + "goer(0, 5)", x.goer(0, 5), goes ? 2 : WingDoor.NONE);
        Script.due(LOAD, who + "odds(0, 0)", x.odds(0, 0), goes ? 1 : 0);
        Script.due(LOAD, who + "steps()", x.steps(), 0);
        Script.due(LOAD, who + "goer(0, 3)", x.goer(0, 3), goes ? 1 : 0);
        Script.due(LOAD, who + "steps() again", x.steps(), goes ? goers : 0);
    }

    private static void sticksIfNobodyIsIn() {
        Script.run("if nobody is IN .. it STICKS", """
            tell h0; = 1 | now 1 = 0 | now 2 = 0 | now 5 = 0 | now 6 = 0 | steps = 0 | now 0 = 1 | odds 0 0 = 0
            tell h0;s1 9; = 2 | comes 0 0 = 0 | now 5 = 2 | steps = 0 | steps = 1 | now 1 = 0 | now 2 = 0
            now 5 = 0 | steps = 0 | now 0 = 3 | now 4 = 1
            """);
    }

    private static void sticksAndNothingMoves() {
        Script.run("it STICKS: nothing moves", """
            tell r4 1;h3;s1 4;s1 3; = 4 | comes 1 0 = 0 | comes 0 0 = 1 | comes 1 1 = 2 | comes 0 1 = 3
            now 1 = 6 | now 2 = 5 | undo = 3 | undo = 2 | now 1 = 3 | now 2 = 4
            steps = 0 | goer 0 3 = 0 | goer 1 4 = 0 | now 3 = 2 | now 4 = 0 | now 0 = 1 | room 0 0 = 1 | room 1 0 = 0
            steps = 0 | steps = 0 | goer 0 3 = 0 | goer 1 4 = 0 | now 0 = 3 | now 5 = 0
            # one more who PUSHES, and it goes
            comes 0 1 = 2 | now 1 = 7 | now 2 = 5 | steps = 0 | goer 0 3 = 1 | goer 1 3 = 0 | goer 2 3 = 3
            """);
    }

    private static void throughAtTheOtherSide() {
        Script.run("all who are IN a ROOM at the PLACE of the other SIDE than theirs are THROUGH then", """
            tell r5 2;h0;s1 9; = 3 | comes 0 0 = 0 | comes 0 0 = 1 | comes 0 1 = 2 | comes 0 1 = 3
            steps = 0 | goer 0 2 = 1 | goer 2 2 = 1 | now 4 = 0
            steps = 2 | now 4 = 3 | goer 2 2 = 1 | goer 3 3 = 4
            steps = 2 | now 4 = 15 | now 6 = 0
            """);
        // Those of one SIDE come into the very ROOM that those of the other have left.
        Script.run("all who are IN .. are THROUGH then (the ROOM is free)", """
            tell r4 2;h0;s2 9; = 3 | comes 0 0 = 0 | steps = 0 | comes 0 1 = 1 | comes 0 1 = 2
            goer 1 3 = 2 | goer 2 2 = 0 | steps = 1 | goer 0 2 = 2 | goer 2 3 = 2 | goer 1 3 = 3 | room 2 0 = 4
            """);
    }

    private static void stepIsOneMoreEitherWay() {
        Script.run("The STEP is one more, either way", """
            now 0 = 0 | steps = 0 | now 0 = 1 | tell h0;s1 9; = 2 | now 0 = 0 | comes 0 0 = 0 | now 0 = 0
            steps = 0 | now 0 = 1 | steps = 1 | now 0 = 2 | steps = 0 | now 0 = 3 | undo = 3 | now 0 = 2
            """);
    }

    private static void givesUp() {
        Script.run("GIVES UP: one who WAITS is GONE", """
            tell h0;s2 9; = 2 | comes 0 0 = 0 | comes 0 0 = 1 | comes 0 0 = 2 | comes 0 1 = 3
            # one who is IN, on either SIDE
            leaves 0 = STATE | leaves 3 = STATE | goer 0 2 = 1
            # the first one, the last one, the only one
            leaves 1 = 1 | goer 1 2 = 3 | goer 2 4 = 0 | undo = 4 | leaves 2 = 1 | goer 1 4 = 0 | leaves 1 = 0
            now 3 = 0 | leaves 1 = STATE | leaves 2 = STATE
            steps = 0 | steps = 2 | leaves 0 = STATE | goer 1 2 = 3 | goer 0 2 = 2
            """);
    }

    private static void letAhead() {
        Script.run("LET AHEAD: one who WAITS is the first one of those who WAIT on his SIDE", """
            tell h0;s2 9; = 2 | comes 0 0 = 0 | lets 0 = STATE | comes 0 0 = 1
            # the only one who WAITS is the first one; one of the other SIDE isn't ahead of him
            lets 1 = STATE | comes 0 1 = 2 | comes 0 1 = 3 | lets 3 = STATE | lets 2 = STATE
            comes 0 0 = 4 | lets 1 = STATE | lets 4 = 1 | lets 4 = STATE | goer 1 4 = 1 | goer 3 4 = 0
            comes 0 0 = 5 | comes 0 0 = 6 | lets 6 = 3 | goer 6 4 = 0 | goer 4 4 = 1 | goer 1 4 = 2 | goer 5 4 = 3
            lets 5 = 3 | lets 1 = 3 | goer 1 4 = 0 | goer 5 4 = 1 | goer 6 4 = 2 | goer 4 4 = 3 | now 3 = 122
            """);
    }

    private static final String TEN = "UNDONE: .. (10 are known, older ones are lost)";

    private static void tenMayBeUndone() {
        for (int done = 0; done <= 25; done++) {
            WingDoor x = Script.told(TEN, "s1 1;", 1);
            int known = Math.min(done, 10);
            for (int n = 1; n <= done; n++) {
                Script.due(TEN, "steps()", x.steps(), 0);
                Script.due(TEN, "now(7) behind " + n, x.now(7), Math.min(n, 10));
            }
            for (int n = known - 1; n >= 0; n--) {
                Script.due(TEN, done + " are done: undo()", x.undo(), n);
                Script.due(TEN, "now(7)", x.now(7), n);
                Script.due(TEN, "now(0)", x.now(0), done - known + n);
            }
            Script.due(TEN, done + " are done: undo() once more", x.undo(), WingDoor.STATE);
            Script.due(TEN, "now(0) behind it", x.now(0), done - known);
            Script.due(TEN, "now(7) behind it", x.now(7), 0);
        }
        undoneByTurns();
    }

    /** The ten wrap around at each place of what holds them. */
    private static void undoneByTurns() {
        WingDoor x = Script.told(TEN, "s1 1;", 1);
        int step = 0;
        int known = 0;
        for (int turn = 1; turn <= 14; turn++) {
            for (int n = 0; n < 11; n++) {
                Script.due(TEN, "steps()", x.steps(), 0);
            }
            step += 11;
            known = 10;
            for (int n = 0; n < turn % 11; n++) {
                step--;
                known--;
                Script.due(TEN, "undo(), by turns", x.undo(), known);
                Script.due(TEN, "now(0), by turns", x.now(0), step);
            }
            if (turn % 11 == 10) {
                Script.due(TEN, "undo(), by turns, none", x.undo(), WingDoor.STATE);
            }
        }
    }

    private static void refusedIsNotUndone() {
        Script.run("the latest .. that was not refused", """
            tell h0;s2 9; = 2 | comes 0 0 = 0 | comes 0 0 = 1 | comes 0 0 = 2 | now 7 = 3
            comes 1 0 = BAD | comes 0 2 = BAD | leaves 0 = STATE | leaves 3 = BAD | lets 1 = STATE | lets 0 = STATE
            lets 9 = BAD | now 7 = 3 | undo = 2 | count 4 = 2 | goer 1 2 = 0
            # nor what isn't among the four
            keep 0 = 0 | sees 0 1 1 = 1 | forget = 1 | type 32 = 1 | clear = 1 | rate 0 0 = 2 | spare 1 = NONE
            now 7 = 2 | undo = 1 | count 4 = 1
            """);
        Script.run("the latest .. that was not refused: FULL", """
            tell s1 1; = 1 | comes 0 0 = 0 | comes 0 0 = 1 | comes 0 0 = 2 | comes 0 0 = 3 | comes 0 0 = 4
            comes 0 0 = 5 | comes 0 0 = 6 | comes 0 0 = 7 | comes 0 0 = 8 | now 7 = 9 | comes 0 0 = FULL | now 7 = 9
            undo = 8 | count 4 = 8
            """);
    }

    private static void undoneEachOfFour() {
        Script.run("UNDONE: the latest comes(), steps(), leaves(), lets()", """
            tell r4 2;h0;s2 9;s1 9; = 4 | comes 1 0 = 0 | comes 0 0 = 1 | comes 1 0 = 2 | comes 0 0 = 3
            # steps() that goes, one that STICKS
            steps = 0 | undo = 4 | now 0 = 0 | goer 0 3 = 0 | goer 1 2 = 0
            leaves 1 = 1 | goer 2 2 = 1 | undo = 4 | goer 1 2 = 0 | goer 1 4 = 0 | goer 2 2 = 0 | goer 2 4 = 1
            lets 3 = 2 | undo = 4 | goer 1 4 = 0 | goer 2 4 = 1 | goer 3 4 = 2
            lets 2 = 1 | goer 2 2 = 1 | undo = 4 | goer 2 4 = 1 | room 0 0 = 1
            comes 1 1 = 4 | undo = 4 | count 4 = 4 | room 2 0 = 0 | sort 1 2 = 2
            undo = 3 | undo = 2 | undo = 1 | undo = 0 | undo = STATE | count 4 = 0 | room 0 0 = 0
            steps = 0 | now 0 = 1 | undo = 0 | now 0 = 0
            """);
    }
}
