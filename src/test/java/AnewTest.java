import java.util.ArrayList;
import java.util.Arrays;
import java.util.List;

/**
 * Promise 3: "are the BOOK from now on (nothing else is there any more; DAY 0)". An object that was
 * used for all that there is answers behind a new book as a new object does.
 */
public final class AnewTest {
    private static final Check CHECK = new Check("AnewTest");

    private static final String RICH = "place a;place b;place c;land l;land m;kind k;kind n;office o;office p;"
            + "road a b days 9 coin 9 ask k by l ask n by m;road b c days 9 coin 9 ask k by l ask k by m ask n by l;"
            + "road a c days 9 coin 9 ask n by m;law l takes k of o since 0;law m takes n of p since 0;law m takes k of o since 3;"
            + "gift k of o after 1 if born a if holds n of p;gift n of p after 2 if parent k of o;gift k of p after 0 if born b";

    private static final String[] BOOKS = {
        "place a;place b;place c;land l;land m;kind k;kind n;office o;office p",
        "place a;place b;place c;land l;land m;kind k;kind n;office o;office p;road a b days 1 coin 2;road a c days 3 coin 4;"
            + "gift n of o after 3;gift k of p after 4",
        "place c;place b;land m;kind n;office p;law m bars n of p since 1;road b c days 5 coin 5 ask n by m",
        "place a",
        RICH};

    public static void main(String[] args) {
        for (String book : BOOKS) {
            Edge fresh = new Edge(CHECK);
            Edge again = new Edge(CHECK, RICH);
            use(again);
            long[] want = answers(fresh, book);
            CHECK.that(Arrays.equals(want, answers(again, book)), "as a new object does: " + book);
            Edge twice = new Edge(CHECK, RICH);
            use(twice);
            CHECK.due("the rich book again", twice.book(RICH), 3);
            use(twice);
            CHECK.that(Arrays.equals(want, answers(twice, book)), "as a new object does, behind two books: " + book);
            Edge faulty = new Edge(CHECK);
            CHECK.due("a faulty book", faulty.book(RICH + ";place"), -1);
            CHECK.that(Arrays.equals(want, answers(faulty, book)), "as without a faulty book: " + book);
        }
        CHECK.end();
    }

    private static void use(Edge e) {
        e.ask("pass", 20);
        e.laws("law l bars n of p since 0;law l takes n of p since 5");
        for (int i = 0; i < 6; i++) {
            e.ask("person", i % 3);
            e.ask("paper", i, 0, 0, 0, 999);
            e.ask("paper", i, 1, 1, 0, 999);
        }
        for (int i = 0; i < 6; i++) {
            e.ask("child", i);
            e.ask("stamp", i % 2, i % 2, i);
            e.ask("judge", i % 2, i % 2, i % 3, i % 2, 50 + i);
            e.ask("clause", i, 1 << i);
            e.ask("quarrel", i, i + 1);
            e.ask("contract", i, 7);
            e.ask("burn", i, 7);
            e.ask("unlike", 0, 0, 30);
            e.ask("opener", i, 30);
        }
        e.ask("quarrel", 0, 0);
        e.ask("quarrel", 15, 15);
        e.ask("least", 0, 1, 30);
        e.ask("first", 0, 2, 30);
        e.ask("cheap", 0, 2, 30);
        e.ask("signed");
    }

    /** A book, and what calls of all sorts answer in it. */
    private static long[] answers(Edge e, String book) {
        List<Long> all = new ArrayList<>(List.of(e.book(book), e.ask("fault"), e.ask("where"), e.ask("bought"), e.ask("signed")));
        for (int what = 0; what <= 13; what++) {
            all.add(e.ask("count", what));
        }
        for (int i = 0; i < 6; i++) {
            all.add(e.ask("nowhere", i % 2, 5));
            all.add(e.ask("person", i % 3));
            all.add(e.ask("owed", i));
            all.add(e.ask("held", i, 0, 0));
            all.add(e.ask("binds", i, i % 2, i % 2, 40));
            all.add(e.ask("unlike", i, i % 2, 40));
            all.add(e.ask("reach", i, 40));
            all.add(e.ask("opener", i, 40));
            all.add(e.ask("first", i, (i + 1) % 3, 0));
            all.add(e.ask("cheap", i, (i + 1) % 3, 40));
            all.add(e.ask("open", i, i % 4, 40));
            all.add(e.ask("least", i % 3, (i + 1) % 3, 40));
            all.add(e.ask("bought"));
            all.add(e.ask("why", i % 2, i / 2 % 2, i / 3, 40, 40));
            all.add(e.ask("clause", i, 1 << i | 1 << 15));
            all.add(e.ask("signs", i));
        }
        for (int i = 0; i < 3; i++) {
            all.add(e.ask("stamp", i % 2, 0, 4));
            all.add(e.ask("least", 0, i, 40));
            all.add(e.ask("bought"));
            all.add(e.ask("child", i));
            all.add(e.ask("judge", 0, 0, i, 0, i));
            all.add(e.ask("binds", i, 0, 0, 0));
            all.add(e.ask("contract", i, 3));
            all.add(e.ask("burn", i, 3));
            all.add(e.ask("paper", i, 0, 0, 0, 999));
            all.add(e.ask("led", i, (i + 1) % 3, 0, 1));
            for (int what = 0; what < 8; what++) {
                all.add(e.ask("held", 6 + i, what / 4, what % 4));
            }
        }
        return all.stream().mapToLong(Long::longValue).toArray();
    }
}
