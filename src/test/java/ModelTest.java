import java.util.Arrays;
import java.util.Random;

/** Runs of chance, always the same ones, in which the program must answer as the model does. */
public final class ModelTest {
    private static final int RUNS = 600;
    /** As many as an object is used for. */
    private static final int CALLS = 512;
    private static final String[] ASKS = {"sort", "goer", "room", "now", "spare", "ahead", "odds", "which", "look",
        "rate", "count", "trace"};
    private static final String[] DOES = {"comes", "comes", "steps", "steps", "leaves", "lets", "undo", "sees",
        "forget", "keep", "back"};
    private static final int[] FAR = {-1, -2, 10, 11, 60, 256, Integer.MAX_VALUE, Integer.MIN_VALUE};

    private final Random chance;
    private final WingDoor door = new WingDoor();
    private final Model model = new Model();
    private final String title;
    private int left = CALLS;

    private ModelTest(int seed) {
        chance = new Random(seed);
        title = "run " + seed;
    }

    public static void main(String[] args) {
        for (int seed = 1; seed <= RUNS; seed++) {
            new ModelTest(seed).run();
        }
        Script.end();
    }

    private void run() {
        while (left > 0) {
            tell();
            int rounds = 20 + chance.nextInt(120);
            for (int i = 0; i < rounds && left > 0; i++) {
                boolean does = chance.nextInt(3) == 0;
                same(does ? DOES[chance.nextInt(DOES.length)] : ASKS[chance.nextInt(ASKS.length)]);
            }
        }
    }

    private void same(String name, int... numbers) {
        int[] n = numbers.length > 0 ? numbers : numbersFor(name);
        left--;
        Script.due(title, name + Arrays.toString(n), Script.ask(door, name, n), model.ask(name, n));
    }

    private int[] numbersFor(String name) {
        int[] most = mostFor(name);
        for (int i = 0; i < most.length; i++) {
            most[i] = chance.nextInt(40) == 0 ? FAR[chance.nextInt(FAR.length)] : chance.nextInt(most[i] + 1);
        }
        return most;
    }

    private int[] mostFor(String name) {
        int goer = Math.max(0, Math.min(8, model.count(4)));
        int sort = Math.max(0, model.count(3) - 1);
        switch (name) {
            case "sort": return new int[] {sort, 2};
            case "goer": return new int[] {goer, 5};
            case "room": return new int[] {6, 1};
            case "now": return new int[] {7};
            case "comes": return new int[] {sort, 1};
            case "leaves": case "lets": case "spare": case "ahead": return new int[] {goer};
            case "odds": return new int[] {10, 1};
            case "sees": return new int[] {1, 9, 1};
            case "look": return new int[] {1};
            case "rate": return new int[] {5, goer};
            case "keep": case "back": return new int[] {1};
            case "count": return new int[] {6};
            default: return new int[0];
        }
    }

    private void tell() {
        StringBuilder text = new StringBuilder();
        if (chance.nextInt(4) != 0) {
            text.append('r').append(3 + chance.nextInt(4)).append(' ').append(1 + chance.nextInt(5)).append(';');
        }
        int wide = text.length() == 0 ? 2 : text.charAt(3) - '0';
        int sorts = chance.nextInt(7);
        int hardAt = chance.nextInt(7);
        for (int s = 0; s <= sorts; s++) {
            if (s == hardAt) {
                text.append('h').append(chance.nextInt(chance.nextInt(20) + 1)).append(';');
            }
            if (s < sorts) {
                text.append('s').append(1 + chance.nextInt(wide)).append(' ').append(chance.nextInt(10)).append(';');
            }
        }
        boolean spoilt = chance.nextInt(3) == 0;
        if (spoilt) {
            spoil(text);
        }
        for (int i = 0; i < text.length() && left > 1; i++) {
            same("type", text.charAt(i));
        }
        same("door");
        if (spoilt && left > 0) {
            same("clear");
        }
    }

    private void spoil(StringBuilder text) {
        String signs = "rhs; 0123456789x";
        for (int n = chance.nextInt(3); n >= 0; n--) {
            int at = chance.nextInt(text.length() + 1);
            char sign = signs.charAt(chance.nextInt(signs.length()));
            switch (chance.nextInt(4)) {
                case 0: text.insert(at, sign); break;
                case 1: text.setLength(at); break;
                case 2: text.append(sign); break;
                default:
                    if (at < text.length()) {
                        text.setCharAt(at, sign);
                    }
            }
        }
    }
}
