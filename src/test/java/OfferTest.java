/** Promise 7: offer. */
public final class OfferTest {
    private static final Checks checks = new Checks();

    public static void main(String[] args) {
        offerBegins();
        busyReceiver();
        knownId();
        uselessArticle();
        uselessWithFullHistory();
        noRoom();
        orderOfTheAnswers();
        pathIsThatOfNow();
        refusals();
        checks.end();
    }

    /** Group 0 is at all three servers, group 1 at server 0 alone; 0 feeds 1 and 2, 1 feeds 2. */
    private static NewsFlood three(int cutoff) {
        NewsFlood x = new NewsFlood(3, cutoff);
        for (int s = 0; s < 3; s++) {
            x.carry(s, Checks.text("a"), 1000);
        }
        x.carry(0, Checks.text("b"), 1000);
        x.peer(0, 1, Checks.text("*"));
        x.peer(0, 2, Checks.text("*"));
        x.peer(1, 2, Checks.text("*"));
        return x;
    }

    private static void offerBegins() {
        NewsFlood x = three(5);
        Checks.file(x, 0, 1, 1, 4, 0);
        Checks.file(x, 0, 2, 1, 2, 0);
        checks.due("offer", x.offer(0, 1), 335);
        checks.due("receives", x.about(1, 5), 1);
        checks.due("blocks not stored", x.about(1, 4), 4);
        checks.due("blocks are taken", x.about(1, 1), 20);
        checks.due("stays in the backlog", x.backlog(0, 1, 0), 1);
        x.receive(1, 3);
        checks.due("stays still", x.backlog(0, 1, 0), 1);
        x.receive(1, 1);
        checks.due("left when it was filed", x.backlog(0, 1, 0), 2);
        checks.due("path", x.article(1, 1, 1), 3);
        checks.due("backlog for another stays", x.backlog(0, 2, 0), 1);
        checks.due("flooded on", x.backlog(1, 2, 0), 1);
        checks.due("the next", x.offer(0, 1), 335);
        checks.due("receives the next", x.about(1, 5), 2);
    }

    private static void busyReceiver() {
        NewsFlood x = three(5);
        Checks.file(x, 0, 1, 1);
        x.write(2, 1, 0, 3, 0);
        x.post(1, 2, 0);
        checks.due("while it receives", x.offer(0, 1), 431);
        checks.due("nothing left the backlog", x.backlog(0, 1, 0), 1);
        checks.due("it receives the same", x.about(1, 5), 2);
        checks.due("blocks not stored", x.about(1, 4), 3);
        checks.due("free blocks", x.about(1, 1), 21);
        checks.due("to another", x.offer(0, 2), 335);
        checks.due("the same twice", x.offer(0, 2), 431);
    }

    private static void knownId() {
        NewsFlood x = three(5);
        Checks.file(x, 0, 1, 1);
        Checks.file(x, 0, 2, 1);
        Checks.file(x, 1, 3, 1, 1, 2);
        Checks.file(x, 1, 1, 1);
        checks.due("FILED there", x.offer(0, 1), 438);
        checks.due("left the backlog", x.backlog(0, 1, 0), 2);
        checks.due("CANCELLED there", x.offer(0, 1), 438);
        checks.due("left the backlog", x.backlog(0, 1, 0), -1);
        checks.due("still CANCELLED", x.history(1, 2, 0), 4);
        checks.due("still for the other", x.backlog(0, 2, 1), 2);
        checks.due("empty", x.offer(0, 1), -1);
    }

    private static void uselessArticle() {
        NewsFlood x = three(5);
        x.tick(3);
        Checks.file(x, 0, 1, 2);
        x.write(2, 2, 13, 1, 0);
        x.post(0, 2, 0);
        x.receive(0, 1);
        Checks.file(x, 0, 3, 1);
        checks.due("no group", x.offer(0, 1), 439);
        checks.due("left the backlog", x.backlog(0, 1, 0), 2);
        checks.due("REFUSED", x.history(1, 1, 0), 3);
        checks.due("until by the clock", x.history(1, 1, 1), 8);
        checks.due("no group", x.offer(0, 1), 439);
        checks.due("until by the date", x.history(1, 2, 1), 18);
        x.tick(6);
        checks.due("too old", x.offer(0, 1), 439);
        checks.due("until by the clock", x.history(1, 3, 1), 14);
        checks.due("entries", x.about(1, 3), 3);
        checks.due("empty", x.offer(0, 1), -1);
        checks.due("nothing is held", x.about(1, 0), 0);
        checks.due("free blocks", x.about(1, 1), 24);
        checks.due("REFUSED is known", x.post(1, 3, 0), 441);
    }

    private static void uselessWithFullHistory() {
        NewsFlood x = three(5);
        Checks.file(x, 0, 39, 2);
        Checks.file(x, 0, 40, 1);
        for (int id = 1; id <= 12; id++) {
            Checks.file(x, 1, id, 1, 1, id + 12);
        }
        checks.due("full", x.about(1, 3), 24);
        checks.due("no group", x.offer(0, 1), 439);
        checks.due("left the backlog", x.backlog(0, 1, 0), 40);
        checks.due("no entry", x.history(1, 39, 0), 0);
        checks.due("entries", x.about(1, 3), 24);
        checks.due("usable, but no room in the history", x.offer(0, 1), 431);
        checks.due("stays in the backlog", x.backlog(0, 1, 0), 40);
    }

    private static void noRoom() {
        NewsFlood x = three(5);
        Checks.file(x, 0, 1, 1, 8, 0);
        Checks.file(x, 1, 2, 1, 8, 0);
        Checks.file(x, 1, 3, 1, 8, 0);
        Checks.file(x, 1, 4, 1, 1, 0);
        checks.due("7 of 8 blocks", x.offer(0, 1), 431);
        checks.due("nothing left the backlog", x.backlog(0, 1, 0), 1);
        checks.due("free blocks", x.about(1, 1), 7);
        Checks.file(x, 1, 5, 1, 1, 3);
        checks.due("room in the middle", x.offer(0, 1), 335);
        x.receive(1, 8);
        checks.due("lies there", x.article(1, 1, 0), 8);
    }

    private static void orderOfTheAnswers() {
        NewsFlood x = three(5);
        Checks.file(x, 0, 1, 2);
        Checks.file(x, 0, 2, 1);
        Checks.file(x, 1, 2, 1);
        x.write(3, 1, 0, 1, 0);
        x.post(1, 3, 0);
        checks.due("431 before 439", x.offer(0, 1), 431);
        checks.due("no entry", x.history(1, 1, 0), 0);
        x.crash(1);
        x.offer(0, 1);
        x.post(1, 3, 0);
        checks.due("431 before 438", x.offer(0, 1), 431);
        x.crash(1);
        x.tick(6);
        checks.due("438 before 439", x.offer(0, 1), 438);
        checks.due("FILED stays", x.history(1, 2, 0), 1);
        NewsFlood y = three(5);
        Checks.file(y, 0, 1, 2, 8, 0);
        for (int id = 2; id <= 4; id++) {
            Checks.file(y, 1, id, 1, 8, 0);
        }
        checks.due("439 before 431 for lack of blocks", y.offer(0, 1), 439);
        checks.due("REFUSED", y.history(1, 1, 0), 3);
    }

    private static void pathIsThatOfNow() {
        NewsFlood x = new NewsFlood(4, 5);
        for (int s = 0; s < 4; s++) {
            x.carry(s, Checks.text("a"), 1000);
            x.peer(s, (s + 1) % 4, Checks.text("*"));
        }
        x.write(1, 1, 0, 1, 0);
        x.post(0, 1, 4);
        x.receive(0, 1);
        x.offer(0, 1);
        x.receive(1, 1);
        checks.due("path of the poster and two more", x.article(1, 1, 1), 7);
        checks.due("not for one in the path", x.backlog(1, 2, 0), -1);
        Checks.file(x, 0, 2, 1);
        for (int s = 0; s < 3; s++) {
            x.offer(s, s + 1);
            x.receive(s + 1, 1);
        }
        checks.due("path of all", x.article(3, 2, 1), 15);
        checks.due("not back to the first", x.backlog(3, 0, 0), -1);
    }

    private static void refusals() {
        NewsFlood x = three(5);
        checks.due("empty backlog", x.offer(0, 1), -1);
        checks.due("no backlog", x.offer(2, 0), -1);
        Checks.file(x, 0, 1, 1);
        int[] noServers = {-1, 3, 4, Integer.MIN_VALUE, Integer.MAX_VALUE};
        for (int none : noServers) {
            checks.due("offer(" + none + ", 1)", x.offer(none, 1), -1);
            checks.due("offer(0, " + none + ")", x.offer(0, none), -1);
        }
        checks.due("to itself", x.offer(0, 0), -1);
        x.write(2, 1, 0, 1, 0);
        x.post(2, 2, 0);
        checks.due("refused before 431", x.offer(1, 2), -1);
    }
}
