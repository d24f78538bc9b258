/** Promise 7: offer. */
public final class OfferTest {
    private static final Checks checks = new Checks();

    public static void main(String[] args) {
        offerBegins();
        busyReceiver();
        knownId();
        uselessArticle();
        uselessWithFullHistory();
        noRoom();
        orderOfTheAnswers();
        pathIsThatOfNow();
        refusals();
        refusedBeforeEverythingElse();
        firstThatHolds();
        knownInEachWay();
        checks.end();
    }

    /** Group 0 is at all three servers, group 1 at server 0 alone; 0 feeds 1 and 2, 1 feeds 2. */
    private static NewsFlood three(int cutoff) {
        NewsFlood x = new NewsFlood(3, cutoff);
        for (int s = 0; s < 3; s++) {
            x.carry(s, Checks.text("a"), 1000);
        }
        x.carry(0, Checks.text("b"), 1000);
        x.peer(0, 1, Checks.text("*"));
        x.peer(0, 2, Checks.text("*"));
        x.peer(1, 2, Checks.text("*"));
        return x;
    }

    private static void offerBegins() {
        NewsFlood x = three(5);
        Checks.file(x, 0, 1, 1, 4, 0);
        Checks.file(x, 0, 2, 1, 2, 0);
        checks.due("offer", x.offer(0, 1), 335);
        checks.due("receives", x.about(1, 5), 1);
        checks.due("blocks not stored", x.about(1, 4), 4);
        checks.due("blocks are taken", x.about(1, 1), 20);
        checks.due("stays in the backlog", x.backlog(0, 1, 0), 1);
        x.receive(1, 3);
        checks.due("stays still", x.backlog(0, 1, 0), 1);
        x.receive(1, 1);
        checks.due("left when it was filed", x.backlog(0, 1, 0), 2);
        checks.due("path", x.article(1, 1, 1), 3);
        checks.due("backlog for another stays", x.backlog(0, 2, 0), 1);
        checks.due("flooded on", x.backlog(1, 2, 0), 1);
        checks.due("the next", x.offer(0, 1), 335);
        checks.due("receives the next", x.about(1, 5), 2);
    }

    private static void busyReceiver() {
        NewsFlood x = three(5);
        Checks.file(x, 0, 1, 1);
        x.write(2, 1, 0, 3, 0);
        x.post(1, 2, 0);
        checks.due("while it receives", x.offer(0, 1), 431);
        checks.due("nothing left the backlog", x.backlog(0, 1, 0), 1);
        checks.due("it receives the same", x.about(1, 5), 2);
        checks.due("blocks not stored", x.about(1, 4), 3);
        checks.due("free blocks", x.about(1, 1), 21);
        checks.due("to another", x.offer(0, 2), 335);
        checks.due("the same twice", x.offer(0, 2), 431);
    }

    private static void knownId() {
        NewsFlood x = three(5);
        Checks.file(x, 0, 1, 1);
        Checks.file(x, 0, 2, 1);
        Checks.file(x, 1, 3, 1, 1, 2);
        Checks.file(x, 1, 1, 1);
        checks.due("FILED there", x.offer(0, 1), 438);
        checks.due("left the backlog", x.backlog(0, 1, 0), 2);
        checks.due("CANCELLED there", x.offer(0, 1), 438);
        checks.due("left the backlog", x.backlog(0, 1, 0), -1);
        checks.due("still CANCELLED", x.history(1, 2, 0), 4);
        checks.due("still for the other", x.backlog(0, 2, 1), 2);
        checks.due("empty", x.offer(0, 1), -1);
    }

    private static void uselessArticle() {
        NewsFlood x = three(5);
        x.tick(3);
        Checks.file(x, 0, 1, 2);
        x.write(2, 2, 13, 1, 0);
        x.post(0, 2, 0);
        x.receive(0, 1);
        Checks.file(x, 0, 3, 1);
        checks.due("no group", x.offer(0, 1), 439);
        checks.due("left the backlog", x.backlog(0, 1, 0), 2);
        checks.due("REFUSED", x.history(1, 1, 0), 3);
        checks.due("until by the clock", x.history(1, 1, 1), 8);
        checks.due("no group", x.offer(0, 1), 439);
        checks.due("until by the date", x.history(1, 2, 1), 18);
        x.tick(6);
        checks.due("too old", x.offer(0, 1), 439);
        checks.due("until by the clock", x.history(1, 3, 1), 14);
        checks.due("entries", x.about(1, 3), 3);
        checks.due("empty", x.offer(0, 1), -1);
        checks.due("nothing is held", x.about(1, 0), 0);
        checks.due("free blocks", x.about(1, 1), 24);
        checks.due("REFUSED is known", x.post(1, 3, 0), 441);
    }

    private static void uselessWithFullHistory() {
        NewsFlood x = three(5);
        Checks.file(x, 0, 39, 2);
        Checks.file(x, 0, 40, 1);
        for (int id = 1; id <= 12; id++) {
            Checks.file(x, 1, id, 1, 1, id + 12);
        }
        checks.due("full", x.about(1, 3), 24);
        checks.due("no group", x.offer(0, 1), 439);
        checks.due("left the backlog", x.backlog(0, 1, 0), 40);
        checks.due("no entry", x.history(1, 39, 0), 0);
        checks.due("entries", x.about(1, 3), 24);
        checks.due("usable, but no room in the history", x.offer(0, 1), 431);
        checks.due("stays in the backlog", x.backlog(0, 1, 0), 40);
    }

    private static void noRoom() {
        NewsFlood x = three(5);
        Checks.file(x, 0, 1, 1, 8, 0);
        Checks.file(x, 1, 2, 1, 8, 0);
        Checks.file(x, 1, 3, 1, 8, 0);
        Checks.file(x, 1, 4, 1, 1, 0);
        checks.due("7 of 8 blocks", x.offer(0, 1), 431);
        checks.due("nothing left the backlog", x.backlog(0, 1, 0), 1);
        checks.due("free blocks", x.about(1, 1), 7);
        Checks.file(x, 1, 5, 1, 1, 3);
        checks.due("room in the middle", x.offer(0, 1), 335);
        x.receive(1, 8);
        checks.due("lies there", x.article(1, 1, 0), 8);
    }

    private static void orderOfTheAnswers() {
        NewsFlood x = three(5);
        Checks.file(x, 0, 1, 2);
        Checks.file(x, 0, 2, 1);
        Checks.file(x, 1, 2, 1);
        x.write(3, 1, 0, 1, 0);
        x.post(1, 3, 0);
        checks.due("431 before 439", x.offer(0, 1), 431);
        checks.due("no entry", x.history(1, 1, 0), 0);
        x.crash(1);
        x.offer(0, 1);
        x.post(1, 3, 0);
        checks.due("431 before 438", x.offer(0, 1), 431);
        x.crash(1);
        x.tick(6);
        checks.due("438 before 439", x.offer(0, 1), 438);
        checks.due("FILED stays", x.history(1, 2, 0), 1);
        NewsFlood y = three(5);
        Checks.file(y, 0, 1, 2, 8, 0);
        for (int id = 2; id <= 4; id++) {
            Checks.file(y, 1, id, 1, 8, 0);
        }
        checks.due("439 before 431 for lack of blocks", y.offer(0, 1), 439);
        checks.due("REFUSED", y.history(1, 1, 0), 3);
    }

    private static void pathIsThatOfNow() {
        NewsFlood x = new NewsFlood(4, 5);
        for (int s = 0; s < 4; s++) {
            x.carry(s, Checks.text("a"), 1000);
            x.peer(s, (s + 1) % 4, Checks.text("*"));
        }
        x.write(1, 1, 0, 1, 0);
        x.post(0, 1, 4);
        x.receive(0, 1);
        x.offer(0, 1);
        x.receive(1, 1);
        checks.due("path of the poster and two more", x.article(1, 1, 1), 7);
        checks.due("not for one in the path", x.backlog(1, 2, 0), -1);
        Checks.file(x, 0, 2, 1);
        for (int s = 0; s < 3; s++) {
            x.offer(s, s + 1);
            x.receive(s + 1, 1);
        }
        checks.due("path of all", x.article(3, 2, 1), 15);
        checks.due("not back to the first", x.backlog(3, 0, 0), -1);
    }

    private static void refusals() {
        NewsFlood x = three(5);
        checks.due("empty backlog", x.offer(0, 1), -1);
        checks.due("no backlog", x.offer(2, 0), -1);
        Checks.file(x, 0, 1, 1);
        int[] noServers = {-1, 3, 4, Integer.MIN_VALUE, Integer.MAX_VALUE};
        for (int none : noServers) {
            checks.due("offer(" + none + ", 1)", x.offer(none, 1), -1);
            checks.due("offer(0, " + none + ")", x.offer(0, none), -1);
        }
        checks.due("to itself", x.offer(0, 0), -1);
        x.write(2, 1, 0, 1, 0);
        x.post(2, 2, 0);
        checks.due("refused before 431", x.offer(1, 2), -1);
    }

    /** No backlog, an empty one, or no server: NONE, although the server receives and has no room. */
    private static void refusedBeforeEverythingElse() {
        NewsFlood x = three(5);
        for (int id = 1; id <= 3; id++) {
            Checks.file(x, 2, id, 1, id < 3 ? 8 : 7, 0);
        }
        x.write(4, 1, 0, 1, 0);
        x.post(2, 4, 0);
        checks.due("no free block", x.about(2, 1), 0);
        checks.due("empty", x.offer(0, 2), -1);
        checks.due("empty", x.offer(1, 2), -1);
        checks.due("no backlog", x.offer(2, 2), -1);
        checks.due("no server", x.offer(-1, 2), -1);
        checks.due("no server", x.offer(3, 2), -1);
        Checks.file(x, 0, 5, 1);
        checks.due("not empty", x.offer(0, 2), 431);
        x.peer(0, 2, 0);
        checks.due("no backlog any more", x.offer(0, 2), -1);
    }

    /** "The first that holds": an article that the server knows, can't use and lacks room for. */
    private static void firstThatHolds() {
        NewsFlood x = three(5);
        Checks.file(x, 0, 1, 2, 8, 0);
        Checks.file(x, 0, 2, 2, 8, 0);
        Checks.file(x, 1, 3, 1, 8, 1);
        Checks.file(x, 1, 4, 1, 8, 0);
        Checks.file(x, 1, 5, 1, 1, 0);
        x.write(6, 1, 0, 1, 0);
        x.post(1, 6, 0);
        checks.due("receives, knows, can't use, lacks room", x.offer(0, 1), 431);
        checks.due("nothing left the backlog", x.backlog(0, 1, 0), 1);
        x.crash(1);
        checks.due("knows, can't use, lacks room", x.offer(0, 1), 438);
        checks.due("CANCELLED stays", x.history(1, 1, 0), 4);
        checks.due("can't use, lacks room", x.offer(0, 1), 439);
        checks.due("REFUSED", x.history(1, 2, 0), 3);
        Checks.file(x, 0, 7, 1, 8, 0);
        checks.due("lacks room", x.offer(0, 1), 431);
        checks.due("no entry", x.history(1, 7, 0), 0);
        checks.due("stays in the backlog", x.backlog(0, 1, 0), 7);
        Checks.file(x, 1, 8, 1, 1, 4);
        checks.due("none of all these", x.offer(0, 1), 335);
    }

    /** "t knows the ID: 438", by an entry of each kind. */
    private static void knownInEachWay() {
        NewsFlood x = three(5);
        x.carry(1, Checks.text("a"), 1);
        Checks.file(x, 0, 1, 1);
        Checks.file(x, 0, 2, 1);
        Checks.file(x, 0, 3, 2);
        Checks.file(x, 0, 4, 1);
        x.peer(0, 1, 0);
        x.peer(2, 1, Checks.text("*"));
        x.peer(0, 2, Checks.text("*"));
        x.carry(2, Checks.text("b"), 1000);
        for (int id = 1; id <= 4; id++) {
            checks.due("to server 2", x.offer(0, 2), 335);
            x.receive(2, 1);
        }
        x.post(1, 1, 0);
        x.receive(1, 1);
        x.tick(2);
        checks.due("expire", x.expire(1), 1);
        x.post(1, 2, 0);
        x.receive(1, 1);
        Checks.file(x, 1, 5, 1, 1, 4);
        checks.due("EXPIRED", x.history(1, 1, 0), 2);
        checks.due("EXPIRED: 438", x.offer(2, 1), 438);
        checks.due("FILED", x.history(1, 2, 0), 1);
        checks.due("FILED: 438", x.offer(2, 1), 438);
        checks.due("can't use 3", x.offer(2, 1), 439);
        checks.due("CANCELLED", x.history(1, 4, 0), 4);
        checks.due("CANCELLED: 438", x.offer(2, 1), 438);
        checks.due("empty", x.offer(2, 1), -1);
        x.peer(0, 1, Checks.text("*"));
        x.write(6, 2, 2, 1, 0);
        x.post(0, 6, 0);
        x.receive(0, 1);
        checks.due("REFUSED from 0", x.offer(0, 1), 439);
        checks.due("offer to 2", x.offer(0, 2), 335);
        x.receive(2, 1);
        checks.due("REFUSED", x.history(1, 6, 0), 3);
        checks.due("REFUSED: 438", x.offer(2, 1), 438);
        checks.due("REFUSED stays", x.history(1, 6, 0), 3);
    }
}
