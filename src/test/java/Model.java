import java.math.BigInteger;
import java.util.ArrayDeque;
import java.util.ArrayList;
import java.util.Deque;
import java.util.List;
import java.util.regex.Matcher;
import java.util.regex.Pattern;

/**
 * The document once more, written another way (rows and rooms are lists, odds go over all subsets),
 * so that the program can be held against it in runs of chance.
 */
final class Model {
    private static final int BAD = -1, STATE = -2, FULL = -3, NONE = -9, NO = -1000000;

    private record Sort(int bulk, int push) { }

    private record Seen(int what, int v, int most) { }

    private record Goer(int sort, int side) { }

    private final class World {
        final List<Goer> goers = new ArrayList<>();
        final List<List<Integer>> rows = List.of(new ArrayList<>(), new ArrayList<>());
        final List<List<Integer>> places = new ArrayList<>();
        final List<Integer> through = new ArrayList<>();
        int step;

        World() {
            for (int p = 0; p < rooms; p++) {
                places.add(new ArrayList<>());
            }
        }

        World copy() {
            World w = new World();
            w.goers.addAll(goers);
            for (int side = 0; side < 2; side++) {
                w.rows.get(side).addAll(rows.get(side));
            }
            for (int p = 0; p < rooms; p++) {
                w.places.get(p).addAll(places.get(p));
            }
            w.through.addAll(through);
            w.step = step;
            return w;
        }

        List<Integer> inside() {
            List<Integer> all = new ArrayList<>();
            places.forEach(all::addAll);
            return all;
        }

        int bulk(List<Integer> those) {
            return those.stream().mapToInt(g -> sorts.get(goers.get(g).sort).bulk).sum();
        }

        int load(List<Integer> those) {
            return those.stream().mapToInt(g -> sorts.get(goers.get(g).sort).push).sum();
        }

        int drag() {
            return hard + inside().size();
        }

        boolean sticks() {
            return inside().isEmpty() || load(inside()) < drag();
        }

        void fill() {
            for (int side = 0; side < 2; side++) {
                List<Integer> room = places.get(side == 0 ? 0 : rooms / 2);
                List<Integer> row = rows.get(side);
                while (!row.isEmpty() && bulk(room) + bulk(row.subList(0, 1)) <= wide) {
                    room.add(row.remove(0));
                }
            }
        }

        int step() {
            step++;
            if (sticks()) {
                return 0;
            }
            places.add(0, places.remove(rooms - 1));
            int before = through.size();
            for (int side = 0; side < 2; side++) {
                final int other = side;
                List<Integer> room = places.get(side == 0 ? rooms / 2 : 0);
                List<Integer> out = room.stream().filter(g -> goers.get(g).side == other).toList();
                room.removeAll(out);
                through.addAll(out);
            }
            fill();
            return through.size() - before;
        }

        int waiting() {
            return rows.get(0).size() + rows.get(1).size();
        }

        boolean waits(int g) {
            return rows.get(0).contains(g) || rows.get(1).contains(g);
        }

        List<Integer> row(int g) {
            return rows.get(goers.get(g).side);
        }

        void leave(int g) {
            row(g).remove((Integer) g);
            fill();
        }

        void let(int g) {
            List<Integer> row = row(g);
            row.remove((Integer) g);
            row.add(0, g);
            fill();
        }

        int when(int g) {
            World w = copy();
            for (int n = 0; n <= 60; n++, w.step()) {
                if (w.through.contains(g)) {
                    return n;
                }
            }
            return 61;
        }

        int firstStick() {
            World w = copy();
            for (int n = 0; n <= 60; n++, w.step()) {
                if (w.sticks()) {
                    return n;
                }
            }
            return NONE;
        }

        int all() {
            World w = copy();
            for (int n = 0; n <= 60; n++, w.step()) {
                if (w.waiting() + w.inside().size() == 0) {
                    return n;
                }
            }
            return NONE;
        }
    }

    private int rooms = 4, wide = 2, hard = 3;
    private List<Sort> sorts = new ArrayList<>();
    private final StringBuilder text = new StringBuilder();
    private World world = new World();
    private final Deque<World> past = new ArrayDeque<>();
    private final World[] images = new World[2];
    private final List<Seen> seen = new ArrayList<>();
    private long trace;

    int type(int letter) {
        if (letter < 0 || letter > 255) {
            return BAD;
        }
        if (text.length() == 100) {
            return FULL;
        }
        return text.append((char) letter).length();
    }

    int clear() {
        int had = text.length();
        text.setLength(0);
        return had;
    }

    /** By what may come next: i an ITEM, then the NUMBERS of each ITEM, then its end. */
    int door() {
        Matcher m = Pattern.compile("[0-9]+|[^ 0-9]").matcher(text);
        int r = 4, w = 2, h = 3, items = 0;
        boolean hTold = false;
        List<Sort> told = new ArrayList<>();
        List<Integer> numbers = new ArrayList<>();
        char item = 'i';
        while (m.find()) {
            String token = m.group();
            boolean fine;
            if (item == 'i') {
                fine = token.equals("r") && items == 0 || token.equals("h") && !hTold
                    || token.equals("s") && told.size() < 6;
                item = token.charAt(0);
            } else if (numbers.size() < (item == 'h' ? 1 : 2)) {
                fine = token.matches("0|[1-9][0-9]?");
                if (fine) {
                    int n = Integer.parseInt(token);
                    int k = numbers.size();
                    int least = item == 'r' ? (k == 0 ? 3 : 1) : item == 's' && k == 0 ? 1 : 0;
                    int most = item == 'r' ? (k == 0 ? 6 : 5) : item == 'h' ? 20 : k == 0 ? w : 9;
                    fine = n >= least && n <= most;
                    numbers.add(n);
                }
            } else {
                fine = token.equals(";");
                if (fine && item == 'r') {
                    r = numbers.get(0);
                    w = numbers.get(1);
                } else if (fine && item == 'h') {
                    h = numbers.get(0);
                    hTold = true;
                } else if (fine) {
                    told.add(new Sort(numbers.get(0), numbers.get(1)));
                }
                items++;
                item = 'i';
                numbers.clear();
            }
            if (!fine) {
                return -10 - m.start();
            }
        }
        if (item != 'i') {
            return -10 - text.length();
        }
        rooms = r;
        wide = w;
        hard = h;
        sorts = told;
        text.setLength(0);
        world = new World();
        past.clear();
        seen.clear();
        images[0] = null;
        images[1] = null;
        return items;
    }

    int sort(int s, int what) {
        if (s < 0 || s >= sorts.size() || what < 0 || what > 2) {
            return BAD;
        }
        return what == 0 ? sorts.get(s).bulk : what == 1 ? sorts.get(s).push
            : (int) world.goers.stream().filter(g -> g.sort == s).count();
    }

    private boolean none(int g) {
        return g < 0 || g >= world.goers.size();
    }

    int goer(int g, int what) {
        if (none(g) || what < 0 || what > 5) {
            return BAD;
        }
        int place = NONE;
        for (int p = 0; p < rooms; p++) {
            place = world.places.get(p).contains(g) ? p : place;
        }
        switch (what) {
            case 0: return world.goers.get(g).sort;
            case 1: return world.goers.get(g).side;
            case 2: return world.waits(g) ? 0 : place != NONE ? 1 : world.through.contains(g) ? 2 : 3;
            case 3: return place;
            case 4: return world.waits(g) ? world.row(g).indexOf(g) : NONE;
            default: return world.when(g) == 61 ? NONE : world.when(g);
        }
    }

    private static int bits(List<Integer> those) {
        return those.stream().mapToInt(g -> 1 << g).sum();
    }

    int room(int place, int what) {
        if (place < 0 || place >= rooms || what < 0 || what > 1) {
            return BAD;
        }
        return what == 0 ? bits(world.places.get(place)) : world.bulk(world.places.get(place));
    }

    int now(int what) {
        switch (what) {
            case 0: return world.step;
            case 1: return world.load(world.inside());
            case 2: return world.drag();
            case 3: return bits(world.rows.get(0)) + bits(world.rows.get(1));
            case 4: return bits(world.through);
            case 5: return world.firstStick();
            case 6: return world.all();
            case 7: return past.size();
            default: return BAD;
        }
    }

    private void remember() {
        past.push(world.copy());
        if (past.size() > 10) {
            past.removeLast();
        }
    }

    int comes(int sort, int side) {
        if (sort < 0 || sort >= sorts.size() || side != 0 && side != 1) {
            return BAD;
        }
        if (world.goers.size() == 9) {
            return FULL;
        }
        remember();
        world.goers.add(new Goer(sort, side));
        world.rows.get(side).add(world.goers.size() - 1);
        world.fill();
        return world.goers.size() - 1;
    }

    int steps() {
        remember();
        return world.step();
    }

    int leaves(int g) {
        if (none(g)) {
            return BAD;
        }
        if (!world.waits(g)) {
            return STATE;
        }
        remember();
        world.leave(g);
        return world.waiting();
    }

    int lets(int g) {
        if (none(g)) {
            return BAD;
        }
        if (!world.waits(g) || world.row(g).indexOf(g) == 0) {
            return STATE;
        }
        remember();
        int ahead = world.row(g).indexOf(g);
        world.let(g);
        return ahead;
    }

    int undo() {
        if (past.isEmpty()) {
            return STATE;
        }
        world = past.pop();
        return past.size();
    }

    private int help(int g, boolean let) {
        if (none(g)) {
            return BAD;
        }
        int best = world.when(g);
        int who = NONE;
        for (int o = 0; o < world.goers.size(); o++) {
            if (o != g && world.waits(o)) {
                World w = world.copy();
                if (let) {
                    w.let(o);
                } else {
                    w.leave(o);
                }
                if (w.when(g) < best) {
                    best = w.when(g);
                    who = o;
                }
            }
        }
        return who;
    }

    int spare(int g) {
        return help(g, false);
    }

    int ahead(int g) {
        return help(g, true);
    }

    int odds(int x, int what) {
        if (x < 0 || x > 10 || what < 0 || what > 1) {
            return BAD;
        }
        List<Integer> in = world.inside();
        BigInteger upper = BigInteger.ZERO;
        for (int set = 1; set < 1 << in.size(); set++) {
            List<Integer> push = new ArrayList<>();
            for (int i = 0; i < in.size(); i++) {
                if ((set >> i & 1) == 1) {
                    push.add(in.get(i));
                }
            }
            if (world.load(push) >= world.drag()) {
                upper = upper.add(BigInteger.valueOf(10 - x).pow(push.size())
                    .multiply(BigInteger.valueOf(x).pow(in.size() - push.size())));
            }
        }
        BigInteger lower = BigInteger.TEN.pow(in.size());
        BigInteger gcd = upper.gcd(lower);
        return (what == 0 ? upper : lower).divide(gcd).intValueExact();
    }

    int sees(int what, int v, int most) {
        if (what != 0 && what != 1 || most != 0 && most != 1 || v < 1 - what || v > (what == 0 ? 5 : 9)) {
            return BAD;
        }
        if (seen.size() == 6) {
            return FULL;
        }
        seen.add(new Seen(what, v, most));
        return seen.size();
    }

    int forget() {
        int was = seen.size();
        seen.clear();
        return was;
    }

    private List<Sort> possible() {
        return sorts.stream().filter(this::fits).toList();
    }

    private boolean fits(Sort s) {
        return seen.stream().allMatch(o -> {
            int is = o.what == 0 ? s.bulk : s.push;
            return o.most == 1 ? is <= o.v : is > o.v;
        });
    }

    int which() {
        int bits = 0;
        for (int s = 0; s < sorts.size(); s++) {
            bits += fits(sorts.get(s)) ? 1 << s : 0;
        }
        return bits;
    }

    int look(int what) {
        if (what != 0 && what != 1) {
            return BAD;
        }
        List<Sort> these = possible();
        if (these.size() < 2) {
            return NONE;
        }
        int best = -1;
        long least = 99;
        for (int v = what == 0 ? 5 : 9; v >= 1 - what; v--) {
            final int bound = v;
            long low = these.stream().filter(s -> (what == 0 ? s.bulk : s.push) <= bound).count();
            long part = Math.max(low, these.size() - low);
            if (part <= least) {
                least = part;
                best = v;
            }
        }
        return best;
    }

    int rate(int kind, int g) {
        if (kind < 0 || kind > 5 || none(g)) {
            return NO;
        }
        Sort s = sorts.get(world.goers.get(g).sort);
        trace += new long[] {1, 11, 101, 1011, 10101, 100001}[kind];
        return new int[] {s.bulk, s.bulk + s.push, s.bulk - world.waiting(), 2 * (s.bulk + s.push),
            s.bulk - world.waiting() + g, s.bulk + world.step}[kind];
    }

    int keep(int image) {
        if (image != 0 && image != 1) {
            return BAD;
        }
        images[image] = world.copy();
        return world.step;
    }

    int back(int image) {
        if (image != 0 && image != 1) {
            return BAD;
        }
        if (images[image] == null) {
            return STATE;
        }
        world = images[image].copy();
        past.clear();
        return world.step;
    }

    int count(int what) {
        int[] all = {rooms, wide, hard, sorts.size(), world.goers.size(), seen.size(), text.length()};
        return what < 0 || what > 6 ? BAD : all[what];
    }

    long trace() {
        return trace;
    }

    long ask(String name, int[] n) {
        switch (name) {
            case "type": return type(n[0]);
            case "clear": return clear();
            case "door": return door();
            case "sort": return sort(n[0], n[1]);
            case "goer": return goer(n[0], n[1]);
            case "room": return room(n[0], n[1]);
            case "now": return now(n[0]);
            case "comes": return comes(n[0], n[1]);
            case "steps": return steps();
            case "leaves": return leaves(n[0]);
            case "lets": return lets(n[0]);
            case "undo": return undo();
            case "spare": return spare(n[0]);
            case "ahead": return ahead(n[0]);
            case "odds": return odds(n[0], n[1]);
            case "sees": return sees(n[0], n[1], n[2]);
            case "forget": return forget();
            case "which": return which();
            case "look": return look(n[0]);
            case "rate": return rate(n[0], n[1]);
            case "keep": return keep(n[0]);
            case "back": return back(n[0]);
            case "count": return count(n[0]);
            case "trace": return trace();
            default: throw new IllegalArgumentException("no such call: " + name);
        }
    }
}
