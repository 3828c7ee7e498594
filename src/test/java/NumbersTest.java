/**
 * Promises 2 to 24: each number of each call, at its bounds, one beyond them on either side, and far beyond;
 * what is beyond is BAD (NO in rate()), what is within is not.
 */
public final class NumbersTest {
    /** What a number that wraps around, or is cut, would take for a small one. */
    private static final int[] FAR = {
        Integer.MIN_VALUE, Integer.MIN_VALUE + 1, -1000000, -65536, -256, -100, -32, -10, -9, -3, -2, -1,
        10, 11, 12, 16, 31, 32, 33, 60, 61, 63, 64, 65, 100, 254, 255, 256, 257, 512, 1000, 65535, 65536,
        1000000, 1 << 30, Integer.MAX_VALUE - 1, Integer.MAX_VALUE
    };

    public static void main(String[] args) {
        theDoor();
        whatIsDone();
        whatIsBest();
        whichSort();
        kindsAndImages();
        ofNothing();
        Script.end();
    }

    /** Three SORTS, four ROOMS, five GOERS: 0 and 3 are IN, 1, 2 and 4 WAIT; an image is kept. */
    private static WingDoor object() {
        return Script.run("numbers", """
            tell r4 2;h0;s1 2;s2 5;s2 9; = 5
            comes 0 0 = 0 | comes 1 0 = 1 | comes 0 0 = 2 | comes 1 1 = 3 | comes 2 1 = 4 | keep 0 = 0 | keep 1 = 0
            """);
    }

    /** The call, with ? for the number that goes from below least to above most. */
    private static void bounds(String call, int least, int most) {
        long bad = call.startsWith("rate") ? WingDoor.NO : WingDoor.BAD;
        for (int n = least - 2; n <= most + 2; n++) {
            one(call, n, n >= least && n <= most, bad);
        }
        for (int n : FAR) {
            one(call, n, n >= least && n <= most, bad);
        }
    }

    private static void one(String call, int n, boolean fine, long bad) {
        String asked = call.replace("?", Integer.toString(n));
        boolean refused = Script.ask(object(), asked) == bad;
        Script.due("numbers", asked + (fine ? " is not refused" : " is refused"), refused ? 0 : 1, fine ? 1 : 0);
    }

    private static void theDoor() {
        bounds("type ?", 0, 255);
        bounds("sort ? 0", 0, 2);
        bounds("sort ? 1", 0, 2);
        bounds("sort ? 2", 0, 2);
        bounds("sort 0 ?", 0, 2);
        for (int what = 0; what <= 5; what++) {
            bounds("goer ? " + what, 0, 4);
        }
        bounds("goer 0 ?", 0, 5);
        bounds("goer 4 ?", 0, 5);
        bounds("room ? 0", 0, 3);
        bounds("room ? 1", 0, 3);
        bounds("room 0 ?", 0, 1);
        bounds("room 3 ?", 0, 1);
        bounds("now ?", 0, 7);
    }

    private static void whatIsDone() {
        bounds("comes ? 0", 0, 2);
        bounds("comes ? 1", 0, 2);
        bounds("comes 0 ?", 0, 1);
        bounds("comes 2 ?", 0, 1);
        bounds("leaves ?", 0, 4);
        bounds("lets ?", 0, 4);
    }

    private static void whatIsBest() {
        bounds("spare ?", 0, 4);
        bounds("ahead ?", 0, 4);
        bounds("odds ? 0", 0, 10);
        bounds("odds ? 1", 0, 10);
        bounds("odds 0 ?", 0, 1);
        bounds("odds 10 ?", 0, 1);
    }

    private static void whichSort() {
        bounds("sees ? 1 0", 0, 1);
        bounds("sees ? 5 1", 0, 1);
        bounds("sees 0 ? 0", 1, 5);
        bounds("sees 0 ? 1", 1, 5);
        bounds("sees 1 ? 0", 0, 9);
        bounds("sees 1 ? 1", 0, 9);
        bounds("sees 0 1 ?", 0, 1);
        bounds("sees 0 5 ?", 0, 1);
        bounds("sees 1 0 ?", 0, 1);
        bounds("sees 1 9 ?", 0, 1);
        bounds("look ?", 0, 1);
    }

    private static void kindsAndImages() {
        bounds("rate ? 0", 0, 5);
        bounds("rate ? 4", 0, 5);
        for (int kind = 0; kind <= 5; kind++) {
            bounds("rate " + kind + " ?", 0, 4);
        }
        bounds("keep ?", 0, 1);
        bounds("back ?", 0, 1);
        bounds("count ?", 0, 6);
    }

    /** There is no such SORT and no such one, at first. */
    private static void ofNothing() {
        for (int n : FAR) {
            nothing(n);
        }
        for (int n = 0; n <= 9; n++) {
            nothing(n);
        }
    }

    private static void nothing(int n) {
        WingDoor x = new WingDoor();
        for (int what = 0; what <= 5; what++) {
            Script.due("numbers", "sort(" + n + ", " + what + ") of none", x.sort(n, what), WingDoor.BAD);
            Script.due("numbers", "goer(" + n + ", " + what + ") of none", x.goer(n, what), WingDoor.BAD);
            Script.due("numbers", "rate(" + what + ", " + n + ") of none", x.rate(what, n), WingDoor.NO);
        }
        Script.due("numbers", "comes(" + n + ", 0) of none", x.comes(n, 0), WingDoor.BAD);
        Script.due("numbers", "comes(" + n + ", 1) of none", x.comes(n, 1), WingDoor.BAD);
        Script.due("numbers", "leaves(" + n + ") of none", x.leaves(n), WingDoor.BAD);
        Script.due("numbers", "lets(" + n + ") of none", x.lets(n), WingDoor.BAD);
        Script.due("numbers", "spare(" + n + ") of none", x.spare(n), WingDoor.BAD);
        Script.due("numbers", "ahead(" + n + ") of none", x.ahead(n), WingDoor.BAD);
        Script.due("numbers", "trace() behind it", x.trace(), 0);
        Script.due("numbers", "now(7) behind it", x.now(7), 0);
    }
}
