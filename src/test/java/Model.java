import java.util.ArrayList;
import java.util.HashMap;
import java.util.HashSet;
import java.util.List;
import java.util.Map;
import java.util.Set;
import java.util.TreeMap;
import java.util.TreeSet;
import java.util.regex.Pattern;

/** The document once more, in collections and without thought of room, to compare the class with. */
final class Model {
    static final int NONE = -1;

    enum Kind { FILED, EXPIRED, REFUSED, CANCELLED }

    record Written(Set<Integer> groups, int date, int size, int cancels) { }

    record Receiving(int id, int first, int size, int stored, int path, int sender) { }

    record Held(int first, int size, int path, int arrival, Map<Integer, Integer> numbers) { }

    record Entry(Kind kind, int until) { }

    static final class Host {
        final Map<Integer, Integer> keep = new HashMap<>();
        final Map<Integer, Integer> high = new HashMap<>();
        final Map<Integer, Entry> history = new TreeMap<>();
        final Map<Integer, Held> held = new TreeMap<>();
        final Map<Integer, String> feeds = new TreeMap<>();
        final Map<Integer, List<Integer>> backlogs = new TreeMap<>();
        Receiving receiving;
        Integer selected;
        Integer current;

        boolean[] blocks() {
            boolean[] taken = new boolean[24];
            for (Held h : held.values()) {
                java.util.Arrays.fill(taken, h.first, h.first + h.size, true);
            }
            if (receiving != null) {
                java.util.Arrays.fill(taken, receiving.first, receiving.first + receiving.size, true);
            }
            return taken;
        }

        int room(int size) {
            boolean[] taken = blocks();
            for (int first = 0; first + size <= 24; first++) {
                boolean free = true;
                for (int b = first; b < first + size; b++) {
                    free &= !taken[b];
                }
                if (free) {
                    return first;
                }
            }
            return NONE;
        }

        boolean lacksRoom(int size) {
            return history.size() == 24 || room(size) == NONE;
        }

        void remove(int id, Kind becomes) {
            held.remove(id);
            history.put(id, new Entry(becomes, history.get(id).until));
            for (List<Integer> backlog : backlogs.values()) {
                backlog.remove((Integer) id);
            }
        }

        /** The articles in a group: IDs by their numbers. */
        TreeMap<Integer, Integer> in(int g) {
            TreeMap<Integer, Integer> ids = new TreeMap<>();
            for (Map.Entry<Integer, Held> h : held.entrySet()) {
                Integer number = h.getValue().numbers.get(g);
                if (number != null) {
                    ids.put(number, h.getKey());
                }
            }
            return ids;
        }
    }

    final int n;
    final int cutoff;
    int clock;
    final List<String> groups = new ArrayList<>();
    final Map<Integer, Written> written = new HashMap<>();
    final Set<Integer> sentOff = new HashSet<>();
    final List<Host> hosts = new ArrayList<>();

    Model(int servers, int cutoff) {
        n = servers < 2 ? 2 : servers > 4 ? 4 : servers;
        this.cutoff = cutoff < 1 ? 1 : cutoff > 100 ? 100 : cutoff;
        for (int s = 0; s < n; s++) {
            hosts.add(new Host());
        }
    }

    /** The characters of a text, or null if it is none. */
    static String characters(long text) {
        StringBuilder found = new StringBuilder();
        boolean ended = false;
        for (int k = 0; k < 8; k++) {
            char c = (char) (text >>> 8 * k & 0xff);
            ended |= c == 0;
            if (ended && c != 0) {
                return null;
            }
            if (!ended) {
                found.append(c);
            }
        }
        return found.length() == 0 ? null : found.toString();
    }

    static boolean isName(long text) {
        String name = characters(text);
        return name != null && name.matches("[a-z.]+");
    }

    static boolean isPattern(long text) {
        String pattern = characters(text);
        return pattern != null && pattern.matches("[a-z.*?!,]+");
    }

    static boolean patternMatches(String pattern, String name) {
        boolean matched = false;
        for (String part : pattern.split(",", -1)) {
            boolean negated = part.startsWith("!");
            String text = negated ? part.substring(1) : part;
            StringBuilder expression = new StringBuilder();
            for (char c : text.toCharArray()) {
                expression.append(c == '*' ? ".*" : c == '?' ? "." : Pattern.quote(String.valueOf(c)));
            }
            if (Pattern.matches(expression.toString(), name)) {
                matched = !negated;
            }
        }
        return matched;
    }

    Host host(int s) {
        return s < 0 || s >= n ? null : hosts.get(s);
    }

    int carry(int s, long name, int keep) {
        Host host = host(s);
        if (host == null || !isName(name) || keep < 1 || keep > 1000) {
            return NONE;
        }
        String text = characters(name);
        if (!groups.contains(text)) {
            if (groups.size() == 6) {
                return NONE;
            }
            groups.add(text);
        }
        int g = groups.indexOf(text);
        host.keep.put(g, keep);
        host.high.putIfAbsent(g, 0);
        return g;
    }

    boolean peer(int s, int t, long pattern) {
        Host host = host(s);
        if (host == null || host(t) == null || s == t || pattern != 0 && !isPattern(pattern)) {
            return false;
        }
        if (pattern == 0) {
            host.feeds.remove(t);
            host.backlogs.remove(t);
        } else {
            host.feeds.put(t, characters(pattern));
            host.backlogs.putIfAbsent(t, new ArrayList<>());
        }
        return true;
    }

    boolean matches(long pattern, long name) {
        return isPattern(pattern) && isName(name) && patternMatches(characters(pattern), characters(name));
    }

    boolean write(int id, int groupBits, int date, int size, int cancels) {
        if (id < 1 || id > 40 || sentOff.contains(id) || groupBits < 1 || date < 0 || date > 1000000) {
            return false;
        }
        if (size < 1 || size > 8 || cancels < 0 || cancels > 40 || cancels == id) {
            return false;
        }
        Set<Integer> its = new TreeSet<>();
        for (int g = 0; g < 31; g++) {
            if ((groupBits & 1 << g) != 0) {
                its.add(g);
                if (g >= groups.size()) {
                    return false;
                }
            }
        }
        written.put(id, new Written(its, date, size, cancels));
        return true;
    }

    boolean cantUse(Host host, Written article) {
        if (article.date < clock - cutoff || article.date > clock + 10) {
            return true;
        }
        for (int g : article.groups) {
            if (host.keep.containsKey(g)) {
                return false;
            }
        }
        return true;
    }

    int until(Written article) {
        return Math.max(clock + cutoff, article.date + cutoff);
    }

    int post(int s, int id, int path) {
        Host host = host(s);
        Written article = written.get(id);
        if (host == null || article == null || path < 0 || path > (int) Math.pow(2, n) - 1) {
            return NONE;
        }
        if (host.receiving != null || host.history.containsKey(id)) {
            return 441;
        }
        if (cantUse(host, article) || host.lacksRoom(article.size)) {
            return 441;
        }
        sentOff.add(id);
        host.receiving = new Receiving(id, host.room(article.size), article.size, 0, path | 1 << s, NONE);
        return 340;
    }

    int offer(int s, int t) {
        Host from = host(s);
        Host to = host(t);
        if (from == null || to == null || !from.backlogs.containsKey(t) || from.backlogs.get(t).isEmpty()) {
            return NONE;
        }
        List<Integer> backlog = from.backlogs.get(t);
        int id = backlog.get(0);
        Written article = written.get(id);
        if (to.receiving != null) {
            return 431;
        }
        if (to.history.containsKey(id)) {
            backlog.remove(0);
            return 438;
        }
        if (cantUse(to, article)) {
            backlog.remove(0);
            if (to.history.size() < 24) {
                to.history.put(id, new Entry(Kind.REFUSED, until(article)));
            }
            return 439;
        }
        if (to.lacksRoom(article.size)) {
            return 431;
        }
        int path = from.held.get(id).path | 1 << t;
        to.receiving = new Receiving(id, to.room(article.size), article.size, 0, path, s);
        return 335;
    }

    int receive(int s, int blocks) {
        Host host = host(s);
        if (host == null || host.receiving == null || blocks < 1) {
            return NONE;
        }
        Receiving r = host.receiving;
        int stored = (int) Math.min((long) r.stored + blocks, r.size);
        host.receiving = new Receiving(r.id, r.first, r.size, stored, r.path, r.sender);
        if (stored == r.size) {
            host.receiving = null;
            file(s, host, r);
        }
        return r.size - stored;
    }

    void file(int s, Host host, Receiving r) {
        Written article = written.get(r.id);
        Map<Integer, Integer> numbers = new HashMap<>();
        for (int g : article.groups) {
            if (host.keep.containsKey(g)) {
                host.high.merge(g, 1, Integer::sum);
                numbers.put(g, host.high.get(g));
            }
        }
        host.held.put(r.id, new Held(r.first, r.size, r.path, clock, numbers));
        host.history.put(r.id, new Entry(Kind.FILED, until(article)));
        if (r.sender != NONE && hosts.get(r.sender).backlogs.containsKey(s)) {
            hosts.get(r.sender).backlogs.get(s).remove((Integer) r.id);
        }
        for (int t : host.feeds.keySet()) {
            boolean wanted = false;
            for (int g : article.groups) {
                wanted |= patternMatches(host.feeds.get(t), groups.get(g));
            }
            if (wanted && (r.path & 1 << t) == 0) {
                host.backlogs.get(t).add(r.id);
            }
        }
        int cancels = article.cancels;
        if (cancels == 0) {
            return;
        }
        if (host.held.containsKey(cancels)) {
            host.remove(cancels, Kind.CANCELLED);
        } else if (host.history.containsKey(cancels)) {
            host.history.put(cancels, new Entry(Kind.CANCELLED, host.history.get(cancels).until));
        } else if (host.history.size() < 24) {
            host.history.put(cancels, new Entry(Kind.CANCELLED, clock + cutoff));
        }
    }

    int crash(int s) {
        Host host = host(s);
        if (host == null) {
            return NONE;
        }
        int lost = host.receiving == null ? 0 : 1;
        host.receiving = null;
        for (Host other : hosts) {
            if (other.receiving != null && other.receiving.sender == s) {
                other.receiving = null;
                lost++;
            }
        }
        host.selected = null;
        host.current = null;
        return lost;
    }

    int tick(int ticks) {
        clock += ticks < 1 || ticks > 1000 ? 0 : ticks;
        return clock;
    }

    int expire(int s) {
        Host host = host(s);
        if (host == null) {
            return NONE;
        }
        int removed = 0;
        for (int id : new ArrayList<>(host.held.keySet())) {
            Held h = host.held.get(id);
            h.numbers.keySet().removeIf(g -> clock - h.arrival > host.keep.get(g));
            if (h.numbers.isEmpty()) {
                host.remove(id, Kind.EXPIRED);
                removed++;
            }
        }
        host.history.values().removeIf(e -> e.kind != Kind.FILED && e.until < clock);
        return removed;
    }

    int select(int s, int g) {
        Host host = host(s);
        if (host == null || !host.keep.containsKey(g)) {
            return NONE;
        }
        host.selected = g;
        host.current = host.in(g).isEmpty() ? null : host.in(g).firstKey();
        return host.in(g).size();
    }

    int step(int s, boolean forward) {
        Host host = host(s);
        if (host == null || host.current == null) {
            return NONE;
        }
        TreeMap<Integer, Integer> ids = host.in(host.selected);
        Integer next = forward ? ids.higherKey(host.current) : ids.lowerKey(host.current);
        if (next == null) {
            return NONE;
        }
        host.current = next;
        return ids.get(next);
    }

    int stat(int s, int number) {
        Host host = host(s);
        if (host == null || host.selected == null || number == 0 && host.current == null) {
            return NONE;
        }
        int wanted = number == 0 ? host.current : number;
        Integer id = host.in(host.selected).get(wanted);
        if (id == null) {
            return NONE;
        }
        host.current = wanted;
        return id;
    }

    int over(int s, int from, int to) {
        Host host = host(s);
        if (host == null || host.selected == null || from > to) {
            return 0;
        }
        return host.in(host.selected).subMap(from, true, to, true).size();
    }

    int group(int s, int g, int what) {
        Host host = host(s);
        if (host == null || !host.keep.containsKey(g)) {
            return NONE;
        }
        TreeMap<Integer, Integer> ids = host.in(g);
        return switch (what) {
            case 0 -> host.high.get(g);
            case 1 -> ids.isEmpty() ? host.high.get(g) + 1 : ids.firstKey();
            case 2 -> ids.size();
            case 3 -> host.keep.get(g);
            default -> NONE;
        };
    }

    int history(int s, int id, int what) {
        Host host = host(s);
        if (host == null || id < 1 || id > 40) {
            return NONE;
        }
        Entry entry = host.history.get(id);
        return switch (what) {
            case 0 -> entry == null ? 0 : entry.kind.ordinal() + 1;
            case 1 -> entry == null ? NONE : entry.until;
            default -> NONE;
        };
    }

    int article(int s, int id, int what) {
        Host host = host(s);
        if (host == null || !host.held.containsKey(id) || what < 0 || what > 8) {
            return NONE;
        }
        Held h = host.held.get(id);
        return switch (what) {
            case 0 -> h.first;
            case 1 -> h.path;
            case 2 -> h.arrival;
            default -> h.numbers.getOrDefault(what - 3, 0);
        };
    }

    int backlog(int s, int t, int k) {
        Host host = host(s);
        if (host == null || !host.backlogs.containsKey(t)) {
            return NONE;
        }
        List<Integer> ids = host.backlogs.get(t);
        return k < 0 || k >= ids.size() ? NONE : ids.get(k);
    }

    int about(int s, int what) {
        Host host = host(s);
        if (host == null) {
            return NONE;
        }
        Receiving r = host.receiving;
        int free = 0;
        for (boolean taken : host.blocks()) {
            free += taken ? 0 : 1;
        }
        int longest = 24;
        while (longest > 0 && host.room(longest) == NONE) {
            longest--;
        }
        return switch (what) {
            case 0 -> host.held.size();
            case 1 -> free;
            case 2 -> longest;
            case 3 -> host.history.size();
            case 4 -> r == null ? 0 : r.size - r.stored;
            case 5 -> r == null ? 0 : r.id;
            case 6 -> host.selected == null ? NONE : host.selected;
            case 7 -> host.current == null ? NONE : host.current;
            default -> NONE;
        };
    }
}
