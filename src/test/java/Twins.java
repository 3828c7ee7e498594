import java.util.ArrayList;
import java.util.List;

/** Two objects with the same calls behind them; one of them gets one call more, which must change nothing. */
final class Twins {
    private static final int MOST_CALLS = 512;
    private static final int WAYS = 6;

    private final WingDoor door = new WingDoor();
    private final List<String> asked = new ArrayList<>();
    private final List<Long> answers = new ArrayList<>();
    private int calls;

    private Twins() {
    }

    /** Each of the calls, told with its answer, is tried alone behind those that are ahead. */
    static void unchanged(String title, String ahead, String calls) {
        Script.run(title, ahead);
        for (String call : Script.calls(calls)) {
            for (int way = 0; way < WAYS; way++) {
                compare(title, ahead, call, way);
            }
        }
    }

    private static void compare(String title, String ahead, String call, int way) {
        Twins without = new Twins();
        Twins with = new Twins();
        without.prepare(ahead);
        with.prepare(ahead);
        with.calls++;
        Script.run(title, with.door, call);
        without.show(way);
        with.show(way);
        for (int i = 0; i < without.asked.size(); i++) {
            Script.due(title, without.asked.get(i) + " behind " + call, with.answers.get(i), without.answers.get(i));
        }
        Script.due(title, "as many answers behind " + call, with.asked.size(), without.asked.size());
        Script.due(title, "no more calls than are promised", with.calls <= MOST_CALLS ? 1 : 0, 1);
    }

    private void prepare(String ahead) {
        for (String told : Script.calls(ahead)) {
            String call = told.substring(0, told.lastIndexOf(" = "));
            boolean types = call.startsWith("tell ") || call.startsWith("types ");
            calls += types ? call.length() - 4 : 1;
            Script.ask(door, call);
        }
    }

    private long ask(String call) {
        calls++;
        long answer = Script.ask(door, call);
        asked.add(call);
        answers.add(answer);
        return answer;
    }

    /** Some ways to look are the end of others (what was UNDONE is lost), so that each has objects of its own. */
    private void show(int way) {
        switch (way) {
            case 0: showAll(); break;
            case 1: showPast(); break;
            case 2: ask("back 0"); showGoers(); break;
            case 3: ask("back 1"); showGoers(); break;
            case 4: showText(); break;
            default: showSeen();
        }
    }

    private void showAll() {
        askEach("count", 7);
        askEach("now", 8);
        askEach("look", 2);
        askEach("spare", door.count(4));
        askEach("ahead", door.count(4));
        askPairs("sort", door.count(3), 3);
        askPairs("goer", door.count(4), 6);
        askPairs("room", door.count(0), 2);
        askPairs("odds", 11, 2);
        ask("which");
        ask("trace");
    }

    private void showGoers() {
        ask("count 4");
        askEach("now", 5);
        ask("now 7");
        askPairs("room", door.count(0), 1);
        for (int g = 0; g < 9; g++) {
            ask("goer " + g + " 0");
            ask("goer " + g + " 2");
            ask("goer " + g + " 4");
        }
    }

    private void showPast() {
        for (int n = 0; n <= 10 && ask("undo") >= 0; n++) {
            ask("count 4");
            ask("now 0");
            ask("now 3");
            ask("now 4");
            askPairs("room", door.count(0), 1);
            for (int g = 0; g < door.count(4); g++) {
                ask("goer " + g + " 4");
            }
        }
    }

    private void showText() {
        ask("door");
        askEach("count", 7);
        askPairs("sort", 6, 2);
        ask("clear");
    }

    private void showSeen() {
        ask("which");
        ask("sees 0 3 1");
        ask("which");
        ask("forget");
        ask("which");
    }

    private void askEach(String name, int most) {
        for (int n = 0; n < most; n++) {
            ask(name + " " + n);
        }
    }

    private void askPairs(String name, int most, int mostBehind) {
        for (int n = 0; n < most; n++) {
            askEach(name + " " + n, mostBehind);
        }
    }
}
