/** Objects in the midst of their work, to look whether a call changes anything in them. */
final class Situations {
    static final int SERVERS = 3;
    static final Situation EMPTY = new Situation("empty", Situations::empty);
    static final Situation BUSY = new Situation("busy", Situations::busy);
    static final Situation FULL = new Situation("full", Situations::full);
    static final Situation[] ALL = {EMPTY, BUSY, FULL};

    /** A state with all that can be seen of it before the call that is looked at. */
    static final class Situation {
        final String name;
        final Look.State state;
        private final int[] before;

        Situation(String name, Look.State state) {
            this.name = name;
            this.state = state;
            before = Look.at(state);
        }

        /** Makes the call on a new object: it must answer so, and nothing may be changed by it. */
        void unchanged(Checks checks, String call, Look.Call made, long want) {
            checks.due(name + ": " + call, made.on(state.make()), want);
            String change = Look.changeSince(before, () -> {
                NewsFlood x = state.make();
                made.on(x);
                return x;
            });
            checks.due(name + ": a change by " + call + ": " + change, change == null, true);
        }
    }

    private static NewsFlood empty() {
        return new NewsFlood(SERVERS, 5);
    }

    private static NewsFlood carried() {
        NewsFlood x = new NewsFlood(SERVERS, 5);
        x.carry(0, Checks.text("a"), 9);
        x.carry(1, Checks.text("a"), 4);
        x.carry(2, Checks.text("a"), 3);
        x.carry(0, Checks.text("b"), 20);
        x.carry(1, Checks.text("a.b"), 20);
        x.carry(2, Checks.text("c"), 20);
        x.carry(0, Checks.text("d"), 1);
        x.carry(1, Checks.text("d"), 20);
        x.carry(2, Checks.text("e"), 20);
        x.peer(0, 1, Checks.text("*"));
        x.peer(0, 2, Checks.text("*,!b"));
        x.peer(1, 2, Checks.text("a*"));
        return x;
    }

    /**
     * Server 0 has an entry of each kind but REFUSED, which server 1 has; server 0 receives a post,
     * server 1 an article from server 0, server 2 nothing; the reader of 0 has a current number, that
     * of 1 a group alone, that of 2 nothing; 11 and 12 were written and not sent off. An expire would
     * remove an article and drop an entry at servers 0 and 2, so that it can't pass unseen.
     */
    private static NewsFlood busy() {
        NewsFlood x = carried();
        Checks.file(x, 2, 9, 1, 2, 32);
        x.tick(4);
        Checks.file(x, 0, 7, 2, 1, 35);
        x.tick(3);
        x.write(6, 16, 17, 2, 0);
        x.post(0, 6, 0);
        x.receive(0, 2);
        x.tick(2);
        x.expire(0);
        Checks.file(x, 0, 2, 2, 2, 30);
        x.offer(0, 1);
        x.offer(0, 1);
        Checks.file(x, 0, 1, 3, 3, 0);
        Checks.file(x, 0, 3, 1, 4, 0);
        Checks.file(x, 0, 4, 1, 1, 3);
        Checks.file(x, 0, 8, 16, 1, 0);
        Checks.file(x, 2, 5, 1, 8, 31);
        x.offer(0, 1);
        x.receive(1, 1);
        x.write(10, 3, 9, 5, 1);
        x.post(0, 10, 2);
        x.receive(0, 2);
        x.tick(2);
        x.write(11, 5, 8, 2, 4);
        x.write(12, 9, 40, 3, 0);
        x.select(0, 0);
        x.step(0, true);
        x.select(1, 2);
        return x;
    }

    /** Server 0 has 24 entries and no free block; server 1 has no free block, but few entries. */
    private static NewsFlood full() {
        NewsFlood x = carried();
        x.tick(7);
        for (int id = 1; id <= 12; id++) {
            x.write(id, 1, 7, 2, id + 20);
            x.post(0, id, 0);
            x.receive(0, 2);
        }
        for (int id = 13; id <= 15; id++) {
            x.write(id, 17, 7, 8, 0);
            x.post(1, id, 0);
            x.receive(1, 8);
        }
        x.write(16, 1, 7, 1, 0);
        x.select(0, 0);
        return x;
    }
}
