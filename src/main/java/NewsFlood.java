/** A few news servers on one clock: articles are posted at one of them and flood to the others. */
public final class NewsFlood {
    public static final int NONE = -1;

    private static final int LEAST_SERVERS = 2;
    private static final int MOST_SERVERS = 4;
    private static final int MOST_CUTOFF = 100;
    private static final int MOST_GROUPS = 6;
    private static final int MOST_KEEP = 1000;
    private static final int MOST_TICKS = 1000;
    private static final int MOST_DATE = 1000000;
    private static final int MOST_SIZE = 8;
    private static final int LAST_ID = 40;
    private static final int DATE_AHEAD = 10;

    private static final int FILED = 1;
    private static final int EXPIRED = 2;
    private static final int REFUSED = 3;
    private static final int CANCELLED = 4;

    private static final int POST_BEGUN = 340;
    private static final int POST_FAILED = 441;
    private static final int OFFER_BEGUN = 335;
    private static final int OFFER_LATER = 431;
    private static final int OFFER_KNOWN = 438;
    private static final int OFFER_USELESS = 439;

    private final int cutoff;
    private final Server[] servers;
    /** By ID; the article 0 is never written and stands there so that no row holds null. */
    private final Article[] articles;
    private final long[] groupNames;
    private int groupCount;
    private int clock;

    public NewsFlood(int servers, int cutoff) {
        int count = Math.max(LEAST_SERVERS, Math.min(MOST_SERVERS, servers));
        this.cutoff = Math.max(1, Math.min(MOST_CUTOFF, cutoff));
        this.servers = new Server[count];
        for (int s = 0; s < count; s++) {
            this.servers[s] = new Server(count);
        }
        this.articles = new Article[LAST_ID + 1];
        for (int id = 0; id <= LAST_ID; id++) {
            this.articles[id] = new Article();
        }
        this.groupNames = new long[MOST_GROUPS];
    }

    public int carry(int s, long name, int keep) {
        if (!isServer(s) || !Text.isName(name) || keep < 1 || keep > MOST_KEEP) {
            return NONE;
        }
        int g = placeOfGroup(name);
        if (g >= MOST_GROUPS) {
            return NONE;
        }
        if (g == groupCount) {
            groupNames[g] = name;
            groupCount++;
        }
        servers[s].keep[g] = keep;
        return g;
    }

    public boolean peer(int s, int t, long pattern) {
        if (!isServer(s) || !isServer(t) || s == t) {
            return false;
        }
        if (pattern != 0 && !Text.isPattern(pattern)) {
            return false;
        }
        servers[s].patterns[t] = pattern;
        if (pattern == 0) {
            servers[s].backlogs[t].clear();
        }
        return true;
    }

    public boolean matches(long pattern, long name) {
        return Text.isPattern(pattern) && Text.isName(name) && Text.patternMatches(pattern, name);
    }

    public boolean write(int id, int groups, int date, int size, int cancels) {
        if (!isId(id) || articles[id].sentOff) {
            return false;
        }
        if (groups < 1 || groups >> groupCount != 0 || date < 0 || date > MOST_DATE) {
            return false;
        }
        if (size < 1 || size > MOST_SIZE || cancels < 0 || cancels > LAST_ID || cancels == id) {
            return false;
        }
        articles[id].put(groups, date, size, cancels);
        return true;
    }

    public int post(int s, int id, int path) {
        if (!isServer(s) || !isId(id) || !articles[id].written) {
            return NONE;
        }
        if (path < 0 || path >= 1 << servers.length) {
            return NONE;
        }
        Server server = servers[s];
        Article article = articles[id];
        if (server.intake.isOpen() || server.entries.knows(id)) {
            return POST_FAILED;
        }
        if (!canUse(server, article) || server.lacksRoom(article.size)) {
            return POST_FAILED;
        }
        article.sentOff = true;
        server.beginIntake(id, article.size, path | 1 << s, NONE);
        return POST_BEGUN;
    }

    public int offer(int s, int t) {
        if (!isServer(s) || !isServer(t)) {
            return NONE;
        }
        int id = servers[s].backlogs[t].at(0);
        if (!isId(id)) {
            return NONE;
        }
        Server receiver = servers[t];
        Article article = articles[id];
        if (receiver.intake.isOpen()) {
            return OFFER_LATER;
        }
        if (receiver.entries.knows(id)) {
            servers[s].backlogs[t].remove(id);
            return OFFER_KNOWN;
        }
        if (!canUse(receiver, article)) {
            servers[s].backlogs[t].remove(id);
            receiver.entries.enter(id, REFUSED, untilOf(article));
            return OFFER_USELESS;
        }
        if (receiver.lacksRoom(article.size)) {
            return OFFER_LATER;
        }
        receiver.beginIntake(id, article.size, servers[s].path[id] | 1 << t, s);
        return OFFER_BEGUN;
    }

    public int receive(int s, int blocks) {
        if (!isServer(s) || blocks < 1 || !servers[s].intake.isOpen()) {
            return NONE;
        }
        Intake intake = servers[s].intake;
        intake.missing -= Math.min(blocks, intake.missing);
        int missing = intake.missing;
        if (missing == 0) {
            fileIntake(s);
        }
        return missing;
    }

    public int crash(int s) {
        if (!isServer(s)) {
            return NONE;
        }
        int lost = 0;
        for (int t = 0; t < servers.length; t++) {
            Intake intake = servers[t].intake;
            if (intake.isOpen() && (t == s || intake.sender == s)) {
                servers[t].loseIntake();
                lost++;
            }
        }
        servers[s].selected = NONE;
        servers[s].current = NONE;
        return lost;
    }

    public int tick(int ticks) {
        if (ticks >= 1 && ticks <= MOST_TICKS) {
            clock += ticks;
        }
        return clock;
    }

    public int expire(int s) {
        if (!isServer(s)) {
            return NONE;
        }
        Server server = servers[s];
        int removed = 0;
        for (int id = 1; id <= LAST_ID; id++) {
            if (server.entries.holds(id)) {
                server.takeOldNumbers(id, clock);
                if (!server.hasNumber(id)) {
                    server.removeArticle(id, EXPIRED);
                    removed++;
                }
            }
        }
        server.entries.dropOlderThan(clock);
        return removed;
    }

    public int select(int s, int g) {
        if (!carries(s, g)) {
            return NONE;
        }
        servers[s].selected = g;
        servers[s].current = servers[s].nextNumber(g, 0);
        return servers[s].countAll(g);
    }

    public int step(int s, boolean forward) {
        if (!hasSelected(s) || servers[s].current == NONE) {
            return NONE;
        }
        Server server = servers[s];
        int number = forward
            ? server.nextNumber(server.selected, server.current)
            : server.previousNumber(server.selected, server.current);
        return goTo(server, number);
    }

    public int stat(int s, int number) {
        if (!hasSelected(s)) {
            return NONE;
        }
        return goTo(servers[s], number == 0 ? servers[s].current : number);
    }

    public int over(int s, int from, int to) {
        if (!hasSelected(s)) {
            return 0;
        }
        return servers[s].countNumbers(servers[s].selected, from, to);
    }

    public int group(int s, int g, int what) {
        if (!carries(s, g)) {
            return NONE;
        }
        Server server = servers[s];
        switch (what) {
            case 0:
                return server.high[g];
            case 1:
                return server.lowestOrNext(g);
            case 2:
                return server.countAll(g);
            case 3:
                return server.keep[g];
            default:
                return NONE;
        }
    }

    public int history(int s, int id, int what) {
        if (!isServer(s) || !isId(id)) {
            return NONE;
        }
        Entries entries = servers[s].entries;
        switch (what) {
            case 0:
                return entries.kind[id];
            case 1:
                return entries.knows(id) ? entries.until[id] : NONE;
            default:
                return NONE;
        }
    }

    public int article(int s, int id, int what) {
        if (!isServer(s) || !isId(id) || !servers[s].entries.holds(id)) {
            return NONE;
        }
        Server server = servers[s];
        switch (what) {
            case 0:
                return server.spool.firstBlockOf(id);
            case 1:
                return server.path[id];
            case 2:
                return server.arrival[id];
            default:
                return what >= 3 && what < 3 + MOST_GROUPS ? server.numbers[what - 3][id] : NONE;
        }
    }

    public int backlog(int s, int t, int k) {
        if (!isServer(s) || !isServer(t)) {
            return NONE;
        }
        return servers[s].backlogs[t].at(k);
    }

    public int about(int s, int what) {
        if (!isServer(s)) {
            return NONE;
        }
        Server server = servers[s];
        switch (what) {
            case 0:
                return server.entries.countOf(FILED);
            case 1:
                return server.spool.countFree();
            case 2:
                return server.spool.longestFree();
            case 3:
                return server.entries.count;
            case 4:
                return server.intake.missing;
            case 5:
                return server.intake.id;
            case 6:
                return server.selected;
            case 7:
                return server.current;
            default:
                return NONE;
        }
    }

    private boolean isServer(int s) {
        return s >= 0 && s < servers.length;
    }

    private static boolean isId(int id) {
        return id >= 1 && id <= LAST_ID;
    }

    private boolean carries(int s, int g) {
        return isServer(s) && g >= 0 && g < MOST_GROUPS && servers[s].keep[g] > 0;
    }

    private boolean hasSelected(int s) {
        return isServer(s) && servers[s].selected != NONE;
    }

    /** The number of the group with that name, or the one that a new group would get. */
    private int placeOfGroup(long name) {
        for (int g = 0; g < groupCount; g++) {
            if (groupNames[g] == name) {
                return g;
            }
        }
        return groupCount;
    }

    private boolean canUse(Server server, Article article) {
        return article.date >= clock - cutoff
            && article.date <= clock + DATE_AHEAD
            && server.carriesSome(article.groups);
    }

    private int untilOf(Article article) {
        return Math.max(clock, article.date) + cutoff;
    }

    private void fileIntake(int s) {
        Server server = servers[s];
        int id = server.intake.id;
        int path = server.intake.path;
        int sender = server.intake.sender;
        Article article = articles[id];
        server.intake.close();
        server.hold(id, article.groups, path, clock);
        server.entries.enter(id, FILED, untilOf(article));
        if (sender != NONE) {
            servers[sender].backlogs[s].remove(id);
        }
        feedOthers(server, id);
        if (article.cancels != 0) {
            cancelAt(server, article.cancels);
        }
    }

    private void feedOthers(Server server, int id) {
        for (int t = 0; t < servers.length; t++) {
            boolean inPath = (server.path[id] >> t & 1) != 0;
            if (!inPath && wants(server.patterns[t], articles[id].groups)) {
                server.backlogs[t].append(id);
            }
        }
    }

    /** False for the pattern 0 of a server that is not fed: a text of no characters fits no name. */
    private boolean wants(long pattern, int groups) {
        for (int g = 0; g < groupCount; g++) {
            if ((groups >> g & 1) != 0 && Text.patternMatches(pattern, groupNames[g])) {
                return true;
            }
        }
        return false;
    }

    private void cancelAt(Server server, int id) {
        if (server.entries.holds(id)) {
            server.removeArticle(id, CANCELLED);
        } else if (server.entries.knows(id)) {
            server.entries.kind[id] = CANCELLED;
        } else {
            server.entries.enter(id, CANCELLED, clock + cutoff);
        }
    }

    /** Makes a number the reader's current one and answers its article's ID; no article, no change. */
    private static int goTo(Server server, int number) {
        int id = server.idWithNumber(server.selected, number);
        if (id != NONE) {
            server.current = number;
        }
        return id;
    }

    /** The characters of names and patterns, each in a byte of a long, the first in the lowest. */
    private static final class Text {
        static final int MOST_CHARACTERS = 8;

        static boolean isName(long text) {
            return isText(text, false);
        }

        static boolean isPattern(long text) {
            return isText(text, true);
        }

        static boolean patternMatches(long pattern, long name) {
            boolean matched = false;
            int begin = 0;
            int length = lengthOf(pattern);
            int wholeName = 1 << lengthOf(name);
            for (int k = 0; k <= length; k++) {
                if (k == length || characterAt(pattern, k) == ',') {
                    boolean negated = begin < k && characterAt(pattern, begin) == '!';
                    int places = placesAfter(pattern, negated ? begin + 1 : begin, k, name);
                    if ((places & wholeName) != 0) {
                        matched = !negated;
                    }
                    begin = k + 1;
                }
            }
            return matched;
        }

        private static boolean isText(long text, boolean signsToo) {
            int length = lengthOf(text);
            for (int k = 0; k < length; k++) {
                int c = characterAt(text, k);
                if (!isOfName(c) && !(signsToo && isSign(c))) {
                    return false;
                }
            }
            return length == MOST_CHARACTERS || length > 0 && text >>> 8 * length == 0;
        }

        private static boolean isOfName(int c) {
            return c >= 'a' && c <= 'z' || c == '.';
        }

        private static boolean isSign(int c) {
            return c == '*' || c == '?' || c == '!' || c == ',';
        }

        private static int characterAt(long text, int k) {
            return (int) (text >>> 8 * k) & 255;
        }

        private static int lengthOf(long text) {
            int length = 0;
            while (length < MOST_CHARACTERS && characterAt(text, length) != 0) {
                length++;
            }
            return length;
        }

        /**
         * Bit i of the answer: a part's text may stand for the first i characters of the name.
         * All these places go on together, since a * may end at any of them.
         */
        private static int placesAfter(long pattern, int begin, int end, long name) {
            int places = 1;
            for (int k = begin; k < end; k++) {
                int c = characterAt(pattern, k);
                places = c == '*' ? places | -places : (places & spotsOf(c, name)) << 1;
            }
            return places;
        }

        /** Bit i of the answer: c may stand for character i of the name. */
        private static int spotsOf(int c, long name) {
            int spots = 0;
            for (int i = 0; i < MOST_CHARACTERS; i++) {
                long here = name >>> 8 * i & 255;
                if (here == c || here != 0 && c == '?') {
                    spots |= 1 << i;
                }
            }
            return spots;
        }
    }

    /** What was written under an ID; the same at all servers. */
    private static final class Article {
        boolean written;
        boolean sentOff;
        int groups;
        int date;
        int size;
        int cancels;

        Article() {
        }

        void put(int newGroups, int newDate, int newSize, int newCancels) {
            written = true;
            groups = newGroups;
            date = newDate;
            size = newSize;
            cancels = newCancels;
        }
    }

    /** The blocks of a server, each with the ID that it was taken for, or 0. */
    private static final class Spool {
        static final int BLOCKS = 24;
        private final int[] owner;

        Spool() {
            owner = new int[BLOCKS];
        }

        /** The lowest block from which on so many are free, or NONE. */
        int placeFor(int size) {
            int run = 0;
            for (int b = 0; b < BLOCKS; b++) {
                run = owner[b] == 0 ? run + 1 : 0;
                if (run == size) {
                    return b - size + 1;
                }
            }
            return NONE;
        }

        void take(int id, int size) {
            int first = placeFor(size);
            if (first != NONE) {
                for (int b = first; b < first + size; b++) {
                    owner[b] = id;
                }
            }
        }

        void release(int id) {
            for (int b = 0; b < BLOCKS; b++) {
                if (owner[b] == id) {
                    owner[b] = 0;
                }
            }
        }

        int firstBlockOf(int id) {
            for (int b = 0; b < BLOCKS; b++) {
                if (owner[b] == id) {
                    return b;
                }
            }
            return NONE;
        }

        int countFree() {
            int free = 0;
            for (int b = 0; b < BLOCKS; b++) {
                free += owner[b] == 0 ? 1 : 0;
            }
            return free;
        }

        int longestFree() {
            int longest = 0;
            int run = 0;
            for (int b = 0; b < BLOCKS; b++) {
                run = owner[b] == 0 ? run + 1 : 0;
                longest = Math.max(longest, run);
            }
            return longest;
        }
    }

    /** The history of a server; rows by ID, where the kind 0 means that there is no entry. */
    private static final class Entries {
        static final int MOST_ENTRIES = 24;
        final int[] kind;
        final int[] until;
        int count;

        Entries() {
            kind = new int[LAST_ID + 1];
            until = new int[LAST_ID + 1];
        }

        boolean knows(int id) {
            return kind[id] != 0;
        }

        boolean holds(int id) {
            return kind[id] == FILED;
        }

        boolean isFull() {
            return count >= MOST_ENTRIES;
        }

        /** Makes an entry for an ID that has none; a full history stays as it is. */
        void enter(int id, int newKind, int newUntil) {
            if (!isFull()) {
                kind[id] = newKind;
                until[id] = newUntil;
                count++;
            }
        }

        void dropOlderThan(int clock) {
            for (int id = 1; id <= LAST_ID; id++) {
                if (knows(id) && !holds(id) && until[id] < clock) {
                    kind[id] = 0;
                    count--;
                }
            }
        }

        int countOf(int wanted) {
            int found = 0;
            for (int id = 1; id <= LAST_ID; id++) {
                found += kind[id] == wanted ? 1 : 0;
            }
            return found;
        }
    }

    /** The IDs that wait for one server; those of held articles alone, so no more than blocks. */
    private static final class Backlog {
        private final int[] ids;
        private int size;

        Backlog() {
            ids = new int[Spool.BLOCKS];
        }

        int at(int k) {
            return k >= 0 && k < size ? ids[k] : NONE;
        }

        void append(int id) {
            if (size < ids.length) {
                ids[size] = id;
                size++;
            }
        }

        void remove(int id) {
            int kept = 0;
            for (int k = 0; k < size; k++) {
                if (ids[k] != id) {
                    ids[kept] = ids[k];
                    kept++;
                }
            }
            size = kept;
        }

        void clear() {
            size = 0;
        }
    }

    /** What a server is receiving: the ID is 0 when that is nothing, the sender NONE for a post. */
    private static final class Intake {
        int id;
        int missing;
        int path;
        int sender;

        Intake() {
            sender = NONE;
        }

        boolean isOpen() {
            return id != 0;
        }

        void open(int newId, int size, int newPath, int newSender) {
            id = newId;
            missing = size;
            path = newPath;
            sender = newSender;
        }

        void close() {
            open(0, 0, 0, NONE);
        }
    }

    /** One server; keep is 0 for groups that it does not carry, a pattern 0 for servers not fed. */
    private static final class Server {
        final Spool spool;
        final Entries entries;
        final Intake intake;
        final int[] keep;
        final int[] high;
        final int[][] numbers;
        final int[] arrival;
        final int[] path;
        final long[] patterns;
        final Backlog[] backlogs;
        int selected;
        int current;

        Server(int count) {
            spool = new Spool();
            entries = new Entries();
            intake = new Intake();
            keep = new int[MOST_GROUPS];
            high = new int[MOST_GROUPS];
            numbers = new int[MOST_GROUPS][LAST_ID + 1];
            arrival = new int[LAST_ID + 1];
            path = new int[LAST_ID + 1];
            patterns = new long[count];
            backlogs = new Backlog[count];
            for (int t = 0; t < count; t++) {
                backlogs[t] = new Backlog();
            }
            selected = NONE;
            current = NONE;
        }

        boolean carriesSome(int groups) {
            for (int g = 0; g < MOST_GROUPS; g++) {
                if ((groups >> g & 1) != 0 && keep[g] > 0) {
                    return true;
                }
            }
            return false;
        }

        boolean lacksRoom(int size) {
            return entries.isFull() || spool.placeFor(size) == NONE;
        }

        void beginIntake(int id, int size, int newPath, int sender) {
            spool.take(id, size);
            intake.open(id, size, newPath, sender);
        }

        void loseIntake() {
            spool.release(intake.id);
            intake.close();
        }

        void hold(int id, int groups, int newPath, int clock) {
            path[id] = newPath;
            arrival[id] = clock;
            for (int g = 0; g < MOST_GROUPS; g++) {
                if ((groups >> g & 1) != 0 && keep[g] > 0) {
                    high[g]++;
                    numbers[g][id] = high[g];
                }
            }
        }

        void removeArticle(int id, int newKind) {
            entries.kind[id] = newKind;
            spool.release(id);
            for (int g = 0; g < MOST_GROUPS; g++) {
                numbers[g][id] = 0;
            }
            for (int t = 0; t < backlogs.length; t++) {
                backlogs[t].remove(id);
            }
        }

        void takeOldNumbers(int id, int clock) {
            for (int g = 0; g < MOST_GROUPS; g++) {
                if (clock - arrival[id] > keep[g]) {
                    numbers[g][id] = 0;
                }
            }
        }

        boolean hasNumber(int id) {
            for (int g = 0; g < MOST_GROUPS; g++) {
                if (numbers[g][id] != 0) {
                    return true;
                }
            }
            return false;
        }

        /** The least number in a group above this one, or NONE. */
        int nextNumber(int g, int above) {
            int next = NONE;
            for (int id = 1; id <= LAST_ID; id++) {
                int number = numbers[g][id];
                if (number > above && (next == NONE || number < next)) {
                    next = number;
                }
            }
            return next;
        }

        int lowestOrNext(int g) {
            int lowest = nextNumber(g, 0);
            return lowest == NONE ? high[g] + 1 : lowest;
        }

        /** The greatest number in a group below this one, or NONE. */
        int previousNumber(int g, int below) {
            int previous = NONE;
            for (int id = 1; id <= LAST_ID; id++) {
                int number = numbers[g][id];
                if (number != 0 && number < below && number > previous) {
                    previous = number;
                }
            }
            return previous;
        }

        int idWithNumber(int g, int number) {
            for (int id = 1; id <= LAST_ID; id++) {
                if (number != 0 && numbers[g][id] == number) {
                    return id;
                }
            }
            return NONE;
        }

        int countAll(int g) {
            return countNumbers(g, 1, high[g]);
        }

        int countNumbers(int g, int from, int to) {
            int found = 0;
            for (int id = 1; id <= LAST_ID; id++) {
                int number = numbers[g][id];
                if (number != 0 && number >= from && number <= to) {
                    found++;
                }
            }
            return found;
        }
    }
}
