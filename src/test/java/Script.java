import java.util.ArrayList;
import java.util.List;

/** Runs of calls told as text, each call with the answer that is due. */
final class Script {
    private static int wrong;
    private static int calls;

    private Script() {
    }

    /**
     * Runs the calls on a new object: "name numbers = answer", one a line or several with | between;
     * "tell TEXT = answer" types the text and asks door(), "types TEXT = answer" types it alone.
     */
    static WingDoor run(String title, String block) {
        WingDoor x = new WingDoor();
        for (String told : calls(block)) {
            run(title, x, told);
        }
        return x;
    }

    /** One call with its answer, on an object that is there already. */
    static void run(String title, WingDoor x, String told) {
        int cut = told.lastIndexOf(" = ");
        if (cut < 0) {
            throw new IllegalArgumentException("no answer is told: " + told);
        }
        due(title, told.substring(0, cut), ask(x, told.substring(0, cut)), answer(told.substring(cut + 3)));
    }

    static List<String> calls(String block) {
        List<String> all = new ArrayList<>();
        for (String line : block.split("[\n|]")) {
            String told = line.strip();
            if (!told.isEmpty() && !told.startsWith("#")) {
                all.add(told);
            }
        }
        return all;
    }

    /** A new object to which a text is told that has as many ITEMS, or its FAULT there (as door() answers it). */
    static WingDoor told(String title, String text, int answer) {
        WingDoor x = new WingDoor();
        typeAll(x, text);
        due(title, "door() of '" + text + "'", x.door(), answer);
        return x;
    }

    static void due(String title, String call, long got, long want) {
        calls++;
        if (got != want) {
            wrong++;
            System.out.println(title + ": " + call + " answered " + got + ", due is " + want);
        }
    }

    /** Ends the test, with exit code 1 if an answer was wrong. */
    static void end() {
        System.out.println(calls + " answers, " + wrong + " wrong");
        if (wrong != 0 || calls == 0) {
            System.exit(1);
        }
    }

    static long answer(String told) {
        switch (told.strip()) {
            case "BAD": return WingDoor.BAD;
            case "STATE": return WingDoor.STATE;
            case "FULL": return WingDoor.FULL;
            case "NONE": return WingDoor.NONE;
            case "NO": return WingDoor.NO;
            default: return Long.parseLong(told.strip());
        }
    }

    static int typeAll(WingDoor x, String text) {
        int last = x.count(6);
        for (int i = 0; i < text.length(); i++) {
            last = x.type(text.charAt(i));
        }
        return last;
    }

    static long ask(WingDoor x, String call) {
        String[] words = call.split(" ", 2);
        if (words[0].equals("tell") || words[0].equals("types")) {
            int last = typeAll(x, words.length > 1 ? words[1] : "");
            return words[0].equals("tell") ? x.door() : last;
        }
        String[] parts = call.strip().split(" +");
        int[] n = new int[parts.length - 1];
        for (int i = 0; i < n.length; i++) {
            n[i] = Integer.parseInt(parts[i + 1]);
        }
        return ask(x, parts[0], n);
    }

    static long ask(WingDoor x, String name, int[] n) {
        switch (name) {
            case "type": return x.type(n[0]);
            case "clear": return x.clear();
            case "door": return x.door();
            case "sort": return x.sort(n[0], n[1]);
            case "goer": return x.goer(n[0], n[1]);
            case "room": return x.room(n[0], n[1]);
            case "now": return x.now(n[0]);
            case "comes": return x.comes(n[0], n[1]);
            case "steps": return x.steps();
            case "leaves": return x.leaves(n[0]);
            case "lets": return x.lets(n[0]);
            case "undo": return x.undo();
            case "spare": return x.spare(n[0]);
            case "ahead": return x.ahead(n[0]);
            case "odds": return x.odds(n[0], n[1]);
            case "sees": return x.sees(n[0], n[1], n[2]);
            case "forget": return x.forget();
            case "which": return x.which();
            case "look": return x.look(n[0]);
            case "rate": return x.rate(n[0], n[1]);
            case "keep": return x.keep(n[0]);
            case "back": return x.back(n[0]);
            case "count": return x.count(n[0]);
            case "trace": return x.trace();
            default: throw new IllegalArgumentException("no such call: " + name);
        }
    }
}
