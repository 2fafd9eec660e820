import java.util.Arrays;

/**
 * One object of BridgeStrip under test. Ahead of each call that may be refused the trouble is set
 * to a number that isn't due, so that a call which leaves it alone is seen; and no object is asked
 * more often than the document allows.
 */
final class Edge {
    private static final int MOST_CALLS = 512;

    private final Check check;
    private final BridgeStrip strip = new BridgeStrip();
    private int calls;

    /** A new object without a book. */
    Edge(Check check) {
        this.check = check;
    }

    /** A new object with a good book. */
    Edge(Check check, String book) {
        this(check);
        check.that(book(book) >= 0, "a good book: " + book);
    }

    long ask(String name, int... x) {
        calls++;
        if (calls > MOST_CALLS) {
            check.that(false, "an object is asked " + calls + " times");
        }
        return Caller.call(strip, name, x);
    }

    void feed(String text) {
        for (int[] row : Caller.rows(text)) {
            ask("feed", row);
        }
    }

    long book(String text) {
        feed(text);
        return ask("book", text.length());
    }

    long laws(String text) {
        feed(text);
        return ask("laws", text.length());
    }

    /** A call that isn't refused. */
    void gives(long want, String name, int... x) {
        ask("person", -1);
        long got = ask(name, x);
        check.due(name + Arrays.toString(x), got, want);
        check.due(name + Arrays.toString(x) + ": trouble", ask("trouble"), 0);
    }

    void refuses(int trouble, String name, int... x) {
        if (trouble == 1) {
            ask("book", -1);
        } else {
            ask("person", -1);
        }
        long got = ask(name, x);
        boolean isBoolean = name.equals("move") || name.equals("rename");
        check.due(name + Arrays.toString(x), got, isBoolean ? 0 : -1);
        check.due(name + Arrays.toString(x) + ": trouble", ask("trouble"), trouble);
    }

    /** A call of which no number is told: it leaves the trouble alone. */
    void tells(long want, String name, int... x) {
        long before = ask("trouble");
        check.due(name + Arrays.toString(x), ask(name, x), want);
        check.due(name + Arrays.toString(x) + " leaves the trouble", ask("trouble"), before);
    }

    /** led() has no such place. */
    void leadsNowhere(int person, int place, int day, int i) {
        tells(Plain.THROWS, "led", person, place, day, i);
    }

    /** The way of FIRST, place by place, and nothing behind it or ahead of it. */
    void leads(int person, int place, int day, int... way) {
        for (int i = 0; i < way.length; i++) {
            tells(way[i], "led", person, place, day, i);
        }
        leadsNowhere(person, place, day, way.length);
        leadsNowhere(person, place, day, -1);
    }

    /** A good text of a book. */
    void takesBook(String text, int laws) {
        feed(text);
        gives(laws, "book", text.length());
        tells(0, "fault");
        tells(-1, "where");
    }

    /** A faulty text, of a book or of laws: its fault and its place; the tape is empty behind it. */
    void findsFault(String name, String text, int fault, int where) {
        feed(text);
        check.due(name + " of [" + text + "]", ask(name, text.length()), -1);
        check.due("trouble of [" + text + "]", ask("trouble"), 4);
        check.due("fault of [" + text + "]", ask("fault"), fault);
        check.due("where of [" + text + "]", ask("where"), where);
        check.due("the tape behind [" + text + "]", ask("count", 13), 0);
    }

    /** All papers of a person: KIND, OFFICE, from and to of each; and none more. */
    void holds(int person, int[]... papers) {
        for (int i = 0; i < papers.length; i++) {
            for (int what = 0; what < 4; what++) {
                check.due("held(" + person + ", " + i + ", " + what + ")", ask("held", person, i, what), papers[i][what]);
            }
        }
        tells(-1, "held", person, papers.length, 0);
    }

    /** What is signed, thing by thing from the first on. */
    void signs(int... clauses) {
        int things = 0;
        for (int thing = 0; thing < clauses.length; thing++) {
            gives(clauses[thing], "signs", thing);
            things += clauses[thing] >= 0 ? 1 : 0;
        }
        gives(things, "signed");
    }
}
