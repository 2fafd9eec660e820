/** For each promise of the document what would fail if it were broken. */
public final class PromiseTest {
    private static final Check CHECK = new Check("PromiseTest");
    private static final int LOW = Integer.MIN_VALUE;
    private static final int HIGH = Integer.MAX_VALUE;

    /** Three places, two lands, two offices, two kinds; law 2 bars what law 1 takes for two days. */
    private static final String STATE = "place a;place b;place c;land s;land w;office os;office ow;kind pass;kind seal;"
            + "road a b days 2 coin 3 ask pass by w;road b c days 1 coin 5;road a c days 9 coin 1 ask pass by s;"
            + "law s takes pass of os since 0;law w takes pass of ow since 10 until 20;"
            + "law w bars pass of ow since 15 until 16";

    public static void main(String[] args) {
        newObject();
        tape();
        books();
        manyBooks();
        fullBook();
        laterLaws();
        faultAndWhere();
        passing();
        takesAndWhy();
        persons();
        papers();
        moving();
        goodAndNowhere();
        openRoads();
        firstAndLed();
        ledByLeastRoad();
        cheapAndReach();
        opener();
        stamps();
        leastTies();
        children();
        childrenOrder();
        childrenEdges();
        judgments();
        clauses();
        signedOrder();
        debts();
        fullRoom();
        counts();
        quietCalls();
        CHECK.end();
    }

    private static BridgeStrip state() {
        BridgeStrip s = new BridgeStrip();
        CHECK.granted("the state's book", Caller.book(s, STATE), s, 3);
        return s;
    }

    private static BridgeStrip of(String book) {
        BridgeStrip s = new BridgeStrip();
        CHECK.that(Caller.book(s, book) >= 0, "a good book: " + book);
        return s;
    }

    /** Promise 1: no BOOK, so that there is nothing to ask for. */
    private static void newObject() {
        BridgeStrip s = new BridgeStrip();
        CHECK.due("trouble at first", s.trouble(), 0);
        CHECK.due("fault at first", s.fault(), 0);
        CHECK.due("where at first", s.where(), -1);
        CHECK.due("bought at first", s.bought(), -1);
        for (int what = 0; what <= 13; what++) {
            CHECK.due("count " + what + " at first", s.count(what), 0);
        }
        CHECK.refused("laws", s.laws(-1), s, 1);
        CHECK.refused("pass", s.pass(0), s, 1);
        CHECK.refused("takes", s.takes(0, 0, 0, -1, 0), s, 1);
        CHECK.refused("why", s.why(0, 0, 0, 0, 0), s, 1);
        CHECK.refused("person", s.person(0), s, 1);
        CHECK.refused("nowhere", s.nowhere(0, 0), s, 1);
        CHECK.refused("stamp", s.stamp(0, 0, 0), s, 1);
        CHECK.refused("least", s.least(0, 0, 0), s, 1);
        CHECK.refused("clause", s.clause(0, -1), s, 1);
        CHECK.refused("quarrel", s.quarrel(-1, 0), s, 1);
        CHECK.refused("signed", s.signed(), s, 1);
        CHECK.refused("signs", s.signs(0), s, 1);
        CHECK.due("owed", s.owed(0), -1);
        CHECK.due("held", s.held(0, 0, 0), -1);
        CHECK.noneLed("led", s, 0, 0, 0, 0);
    }

    /** Promise 2. */
    private static void tape() {
        BridgeStrip s = new BridgeStrip();
        for (int i = 1; i <= 35; i++) {
            CHECK.due("feed " + i, s.feed(LOW, HIGH, -1, 0, 1), 20 * i);
        }
        CHECK.due("a feed too many", s.feed(0, 0, 0, 0, 0), -1);
        CHECK.due("the tape stays full", s.count(13), 700);
        CHECK.due("feed tells no trouble", s.trouble(), 0);
        CHECK.refused("more than there is", s.book(701), s, 2);
        CHECK.due("the tape stays", s.count(13), 700);
        CHECK.refused("bytes that are no text", s.book(700), s, 4);
        CHECK.due("the tape is empty", s.count(13), 0);
        // "plac" "e za" "    " : of each number the highest byte comes first
        s.feed(0x706c6163, 0x65207a61, 0x20202020, 0x20202020, 0x20202020);
        CHECK.granted("bytes in their order", s.book(8), s, 0);
        CHECK.due("a place", s.count(0), 1);
        StringBuilder text = new StringBuilder("place a");
        while (text.length() < 692) {
            text.append(' ');
        }
        CHECK.granted("a book of all 700 bytes", Caller.book(s, text + ";place b"), s, 0);
        CHECK.due("both of its places", s.count(0), 2);
    }

    /** Promise 3. */
    private static void books() {
        BridgeStrip s = new BridgeStrip();
        Caller.feed(s, "place a;place b");
        CHECK.refused("below 0", s.book(-1), s, 2);
        CHECK.refused("beyond the tape", s.book(21), s, 2);
        CHECK.refused("far beyond", s.book(HIGH), s, 2);
        CHECK.refused("far below", s.book(LOW), s, 2);
        CHECK.due("the tape stays", s.count(13), 20);
        CHECK.granted("the first bytes alone", s.book(7), s, 0);
        CHECK.due("one place", s.count(0), 1);
        CHECK.due("the tape is empty", s.count(13), 0);
        s = state();
        filled(s);
        CHECK.refused("a faulty book", Caller.book(s, "place a;land a"), s, 4);
        CHECK.due("the book stays", s.count(4), 3);
        CHECK.due("persons stay", s.count(7), 2);
        CHECK.due("today stays", s.count(12), 7);
        CHECK.due("bought stays", s.bought(), 0);
        CHECK.due("the tape is empty behind a fault", s.count(13), 0);
        CHECK.granted("a new book", Caller.book(s, "place z;land y;kind x;office w;law y takes x of w since 3"), s, 1);
        int[] want = {1, 1, 1, 1, 0, 1, 0, 0, 0, 0, 0, 0, 0, 0};
        for (int what = 0; what < want.length; what++) {
            CHECK.due("count " + what + " in the new book", s.count(what), want[what]);
        }
        CHECK.due("nothing is bought any more", s.bought(), -1);
        CHECK.granted("nothing is signed any more", s.signed(), s, 0);
        CHECK.due("a person anew", s.person(0), 0);
        CHECK.due("no papers", s.held(0, 0, 0), -1);
        CHECK.due("no debts", s.owed(0), 0);
        CHECK.due("no quarrels", s.clause(0, 1), 0);
        CHECK.granted("no quarrels", s.signed(), s, 1);
        CHECK.granted("no judgments", s.binds(0, 0, 0, 999), s, -2);
    }

    private static void filled(BridgeStrip s) {
        s.person(0);
        s.person(1);
        s.paper(0, 0, 0, 0, 999);
        s.stamp(0, 0, 4);
        s.least(1, 2, 0);
        s.clause(0, 1);
        s.clause(1, 2);
        s.quarrel(0, 0);
        s.signed();
        s.contract(0, 5);
        s.burn(0, 5);
        s.pass(7);
        s.judge(0, 0, 0, 0, 9);
    }

    /** Promise 3: nothing of a book before, nor of a faulty text, is in a later one. */
    private static void manyBooks() {
        String rich = "place a;place b;land l;kind k;office o;road a b days 1 coin 1 ask k by l ask k by l;"
                + "law l takes k of o since 0;gift k of o after 0 if holds k of o";
        BridgeStrip s = of(rich);
        CHECK.granted("another", Caller.book(s, "place z"), s, 0);
        CHECK.refused("a faulty one", Caller.book(s, rich + ";place"), s, 4);
        CHECK.due("the other stays", s.count(0), 1);
        CHECK.due("the other has no roads", s.count(4), 0);
        CHECK.granted("a plain one", Caller.book(s, "kind a;office b;land k;place o;place l;"
                + "road o l days 3 coin 2;gift a of b after 1"), s, 0);
        int[] want = {2, 1, 1, 1, 1, 0, 1};
        for (int what = 0; what < want.length; what++) {
            CHECK.due("count " + what + " in the plain book", s.count(what), want[what]);
        }
        s.person(0);
        CHECK.granted("a road without posts", s.open(0, 0, 0), s, 1);
        CHECK.granted("the road's days", s.first(0, 1, 0), s, 3);
        s.child(0);
        papersOf(s, 1, new int[][] {{0, 0, 1}});
        CHECK.granted("no laws", s.why(0, 0, 0, 5, 999), s, -2);
        for (int i = 0; i < 4; i++) {
            CHECK.granted("rich again", Caller.book(s, rich), s, 1);
            CHECK.granted("poor again", Caller.book(s, "place a"), s, 0);
        }
    }

    /** A book with all names that there is room for. */
    private static void fullBook() {
        StringBuilder text = new StringBuilder();
        String[] sorts = {"place p", "land l", "office o", "kind k"};
        int[] room = {8, 5, 6, 6};
        for (int sort = 0; sort < 4; sort++) {
            for (int i = 0; i < room[sort]; i++) {
                text.append(sorts[sort]).append((char) ('a' + i)).append(";");
            }
        }
        BridgeStrip s = of(text + "law la takes ka of oa since 0;law le takes kf of of since 7;law le takes ka of ob since 0;"
                + "law ld takes ka of oa since 0;road pa ph days 1 coin 1 ask kf by le");
        for (int sort = 0; sort < 4; sort++) {
            CHECK.due("all of sort " + sort, s.count(sort), room[sort]);
        }
        CHECK.granted("the last of all", s.why(4, 5, 5, 7, 0), s, 1);
        s.person(7);
        s.paper(0, 5, 5, 0, 999);
        CHECK.granted("in the last land", s.is(0, 5, 7), s, 16);
        CHECK.granted("the last place", s.first(0, 0, 0), s, 8);
        s.person(0);
        CHECK.granted("the last kind and office", s.opener(1, 7), s, 45);
        s.judge(0, 0, 1, 0, 1);
        s.judge(0, 1, 1, 0, 2);
        CHECK.granted("in the first and the fourth land", s.binds(1, 0, 3, 0), s, 1);
        CHECK.granted("in the fifth land", s.binds(1, 0, 4, 0), s, 2);
        CHECK.granted("the fifth against two", s.unlike(1, 0, 0), s, 2);
        CHECK.granted("of the last kind", s.judge(5, 5, 1, 0, 3), s, 2);
        CHECK.granted("of the last kind", s.binds(1, 0, 4, 7), s, 3);
        CHECK.granted("not on another person", s.binds(0, 0, 4, 7), s, -2);
    }

    /** Promise 4. */
    private static void laterLaws() {
        BridgeStrip s = new BridgeStrip();
        Caller.feed(s, "law w takes pass of os since 0");
        CHECK.refused("no book comes first", s.laws(-1), s, 1);
        CHECK.due("the tape stays", s.count(13), 40);
        s.book(0);
        s = state();
        s.pass(12);
        Caller.feed(s, "law w takes pass of os since 0");
        CHECK.refused("beyond the tape", s.laws(41), s, 2);
        CHECK.refused("below 0", s.laws(-1), s, 2);
        CHECK.due("the tape stays by 2", s.count(13), 40);
        CHECK.granted("laws", s.laws(30), s, 4);
        CHECK.due("the tape is empty", s.count(13), 0);
        CHECK.due("known from then on", s.takes(1, 0, 0, 5, 12), 1);
        CHECK.due("not known the day ahead", s.takes(1, 0, 0, 5, 11), 0);
        CHECK.due("why, as known then", s.why(1, 0, 0, 5, 12), 3);
        CHECK.due("why, as known ahead", s.why(1, 0, 0, 5, 11), -2);
        CHECK.refused("all or none", Caller.laws(s, "law w bars pass of os since 0;law w bars pass of os since"), s, 4);
        CHECK.due("all or none", s.count(5), 4);
        CHECK.due("all or none", s.takes(1, 0, 0, 5, 12), 1);
        CHECK.granted("two laws", Caller.laws(s, "law w bars pass of os since 0;law s bars pass of os since 20 until 30"), s, 6);
        CHECK.due("the greatest number says", s.takes(1, 0, 0, 5, 12), 0);
        CHECK.due("in force then", s.takes(0, 0, 0, 20, 12), 0);
        CHECK.due("not in force any more", s.takes(0, 0, 0, 31, 12), 1);
    }

    /** Promises 5 and 6; TextTest has the faults themselves. */
    private static void faultAndWhere() {
        BridgeStrip s = state();
        Caller.book(s, "place a;  place a");
        CHECK.due("fault", s.fault(), 3);
        CHECK.due("where", s.where(), 16);
        s.feed(0, 0, 0, 0, 0);
        s.held(0, 0, 0);
        s.owed(0);
        s.count(0);
        s.bought();
        CHECK.noneLed("led in between", s, 0, 0, 0, 0);
        CHECK.due("where, behind calls that tell no number", s.where(), 16);
        CHECK.refused("refused by 2", s.book(99), s, 2);
        CHECK.due("where, behind a refusal by 2", s.where(), -1);
        CHECK.due("fault, behind a refusal by 2", s.fault(), 3);
        CHECK.granted("a person", s.person(0), s, 0);
        CHECK.due("where, behind a call that was granted", s.where(), -1);
        CHECK.due("fault, behind it", s.fault(), 3);
        s.laws(5);
        CHECK.due("fault of laws", s.fault(), 1);
        CHECK.due("its place", s.where(), 0);
        Caller.laws(s, "law s bars pass of ow since 0");
        CHECK.due("no fault any more", s.fault(), 0);
        CHECK.due("no place", s.where(), -1);
        BridgeStrip none = new BridgeStrip();
        none.book(0);
        none.laws(0);
        CHECK.due("laws refused by 1 leave the fault", none.fault(), 1);
        CHECK.due("but no place", none.where(), -1);
    }

    /** Promise 7. */
    private static void passing() {
        BridgeStrip s = state();
        for (int days : new int[] {0, -1, 401, LOW, HIGH}) {
            CHECK.refused("pass " + days, s.pass(days), s, 2);
        }
        CHECK.granted("pass 1", s.pass(1), s, 1);
        CHECK.granted("pass 400", s.pass(400), s, 401);
        CHECK.granted("pass 400", s.pass(400), s, 801);
        CHECK.refused("beyond 999", s.pass(199), s, 2);
        CHECK.due("today stays", s.count(12), 801);
        CHECK.granted("up to 999", s.pass(198), s, 999);
        CHECK.refused("beyond the last", s.pass(1), s, 2);
    }

    /** Promises 8 and 9. */
    private static void takesAndWhy() {
        BridgeStrip s = state();
        int[][] rows = { // land, kind, office, day, takes, why
            {0, 0, 0, 0, 1, 0}, {0, 0, 0, 999, 1, 0}, {0, 0, 1, 5, 0, -2}, {0, 1, 0, 5, 0, -2}, {1, 0, 0, 5, 0, -2},
            {1, 0, 1, 9, 0, -2}, {1, 0, 1, 10, 1, 1}, {1, 0, 1, 14, 1, 1}, {1, 0, 1, 15, 0, 2},
            {1, 0, 1, 16, 0, 2}, {1, 0, 1, 17, 1, 1}, {1, 0, 1, 20, 1, 1}, {1, 0, 1, 21, 0, -2}};
        for (int[] r : rows) {
            CHECK.granted("takes on " + r[3], s.takes(r[0], r[1], r[2], r[3], 0), s, r[4]);
            CHECK.granted("why on " + r[3], s.why(r[0], r[1], r[2], r[3], 999), s, r[5]);
        }
        for (int bad : new int[] {-1, 2, LOW, HIGH}) {
            CHECK.refused("land " + bad, s.takes(bad, 0, 0, -1, 0), s, 1);
            CHECK.refused("kind " + bad, s.takes(0, bad, 0, 0, 0), s, 1);
            CHECK.refused("office " + bad, s.takes(0, 0, bad, 0, 0), s, 1);
            CHECK.refused("land " + bad, s.why(bad, 0, 0, 0, 0), s, 1);
            CHECK.refused("kind " + bad, s.why(0, bad, 0, 0, 0), s, 1);
            CHECK.refused("office " + bad, s.why(0, 0, bad, 0, 0), s, 1);
        }
        for (int bad : new int[] {-1, 1000, LOW, HIGH}) {
            CHECK.refused("day " + bad, s.takes(0, 0, 0, bad, 0), s, 2);
            CHECK.refused("known " + bad, s.takes(0, 0, 0, 0, bad), s, 2);
            CHECK.refused("day " + bad, s.why(0, 0, 0, bad, 0), s, 2);
            CHECK.refused("known " + bad, s.why(0, 0, 0, 0, bad), s, 2);
        }
    }

    /** Promise 10. */
    private static void persons() {
        BridgeStrip s = state();
        CHECK.refused("no place", s.person(3), s, 1);
        CHECK.refused("no place", s.person(-1), s, 1);
        for (int i = 0; i < 30; i++) {
            CHECK.granted("person " + i, s.person(i % 3), s, i);
        }
        CHECK.refused("a person too many", s.person(0), s, 3);
        CHECK.refused("none such comes first", s.person(3), s, 1);
        CHECK.refused("nor is there room for a child", s.child(0), s, 3);
        CHECK.refused("a child of none", s.child(30), s, 1);
        CHECK.due("thirty", s.count(7), 30);
    }

    /** Promises 11 and 12. */
    private static void papers() {
        BridgeStrip s = state();
        s.person(0);
        CHECK.refused("no person", s.paper(1, 0, 0, -1, 0), s, 1);
        CHECK.refused("no kind", s.paper(0, 2, 0, 0, 0), s, 1);
        CHECK.refused("no office", s.paper(0, 0, 2, 0, 0), s, 1);
        CHECK.refused("from", s.paper(0, 0, 0, -1, 0), s, 2);
        CHECK.refused("from", s.paper(0, 0, 0, 1000, 1000), s, 2);
        CHECK.refused("to", s.paper(0, 0, 0, 0, 1000), s, 2);
        CHECK.refused("to below from", s.paper(0, 0, 0, 6, 5), s, 2);
        for (int i = 1; i <= 8; i++) {
            CHECK.granted("paper " + i, s.paper(0, i % 2, 1 - i % 2, i, i), s, i);
        }
        CHECK.refused("a paper too many", s.paper(0, 0, 0, 0, 0), s, 3);
        CHECK.refused("a number comes first", s.paper(0, 0, 0, 1, 0), s, 2);
        for (int i = 0; i < 8; i++) {
            CHECK.due("kind of " + i, s.held(0, i, 0), (i + 1) % 2);
            CHECK.due("office of " + i, s.held(0, i, 1), 1 - (i + 1) % 2);
            CHECK.due("from of " + i, s.held(0, i, 2), i + 1);
            CHECK.due("to of " + i, s.held(0, i, 3), i + 1);
        }
        for (int bad : new int[] {-1, LOW, HIGH, 8}) {
            CHECK.due("no such paper", s.held(0, bad, 0), -1);
            CHECK.due("no such person", s.held(bad, 0, 0), -1);
            CHECK.due("no such what", s.held(0, 0, bad), -1);
        }
        CHECK.due("what 4", s.held(0, 0, 4), -1);
        s.person(1);
        CHECK.granted("another's first paper", s.paper(1, 0, 0, 0, 999), s, 1);
        CHECK.due("another has none more", s.held(1, 1, 0), -1);
    }

    /** Promise 13. */
    private static void moving() {
        BridgeStrip s = state();
        s.person(0);
        CHECK.due("no person", s.move(1, 0), false);
        CHECK.due("no person", s.trouble(), 1);
        CHECK.due("no place", s.move(0, 3), false);
        CHECK.due("no place", s.trouble(), 1);
        CHECK.due("they are there", s.move(0, 0), false);
        CHECK.due("they are there", s.trouble(), 5);
        CHECK.due("move", s.move(0, 1), true);
        CHECK.due("move", s.trouble(), 0);
        CHECK.granted("they are there now", s.first(0, 1, 3), s, 3);
        CHECK.granted("from there on", s.first(0, 2, 3), s, 4);
        CHECK.due("a child is born there", s.child(0), 1);
        CHECK.granted("a child is born there", s.first(1, 1, 3), s, 3);
    }

    /** Promises 14 and 15. */
    private static void goodAndNowhere() {
        BridgeStrip s = state();
        s.person(0);
        s.person(0);
        s.paper(0, 0, 0, 5, 12);
        s.paper(0, 0, 1, 0, 999);
        CHECK.granted("before it lasts", s.is(0, 0, 4), s, 0);
        CHECK.granted("its first day", s.is(0, 0, 5), s, 1);
        CHECK.granted("both lands", s.is(0, 0, 10), s, 3);
        CHECK.granted("both on the last day", s.is(0, 0, 12), s, 3);
        CHECK.granted("one has ended", s.is(0, 0, 13), s, 2);
        CHECK.granted("barred", s.is(0, 0, 15), s, 0);
        CHECK.granted("another kind", s.is(0, 1, 10), s, 0);
        CHECK.refused("no person", s.is(2, 0, -1), s, 1);
        CHECK.refused("no kind", s.is(0, 2, 0), s, 1);
        CHECK.refused("no day", s.is(0, 0, 1000), s, 2);
        CHECK.granted("taken somewhere", s.nowhere(0, 10), s, 0);
        CHECK.granted("taken nowhere", s.nowhere(0, 15), s, 1);
        CHECK.granted("nobody has one", s.nowhere(1, 15), s, 0);
        s.paper(1, 1, 0, 7, 8);
        s.paper(0, 1, 0, 8, 9);
        CHECK.granted("one has a seal", s.nowhere(1, 7), s, 1);
        CHECK.granted("two have seals", s.nowhere(1, 8), s, 2);
        CHECK.granted("one has a seal still", s.nowhere(1, 9), s, 1);
        CHECK.granted("none lasts", s.nowhere(1, 10), s, 0);
        CHECK.refused("no kind", s.nowhere(2, -1), s, 1);
        CHECK.refused("no day", s.nowhere(0, -1), s, 2);
        s.pass(8);
        Caller.laws(s, "law w takes seal of os since 0");
        CHECK.granted("a law that isn't known yet", s.nowhere(1, 7), s, 1);
        CHECK.granted("a law that is", s.nowhere(1, 8), s, 0);
        CHECK.granted("not known yet", s.is(1, 1, 7), s, 0);
        CHECK.granted("known", s.is(1, 1, 8), s, 2);
    }

    /** Promise 16. */
    private static void openRoads() {
        BridgeStrip s = of("place a;place b;land x;land y;kind k;kind m;office o;office q;"
                + "road a b days 1 coin 1 ask k by x ask m by y;road a b days 1 coin 1;"
                + "law x takes k of o since 0;law y takes m of q since 4");
        s.person(0);
        s.paper(0, 0, 0, 2, 9);
        CHECK.granted("one post is not enough", s.open(0, 0, 5), s, 0);
        CHECK.granted("no posts", s.open(0, 1, 0), s, 1);
        s.paper(0, 1, 0, 0, 999);
        CHECK.granted("of the wrong office", s.open(0, 0, 5), s, 0);
        s.paper(0, 1, 1, 0, 7);
        CHECK.granted("both posts", s.open(0, 0, 5), s, 1);
        CHECK.granted("the law isn't in force", s.open(0, 0, 3), s, 0);
        CHECK.granted("from its since", s.open(0, 0, 4), s, 1);
        CHECK.granted("the last day of a paper", s.open(0, 0, 7), s, 1);
        CHECK.granted("behind it", s.open(0, 0, 8), s, 0);
        CHECK.refused("no person", s.open(1, 0, -1), s, 1);
        CHECK.refused("no road", s.open(0, 2, 0), s, 1);
        CHECK.refused("no road", s.open(0, -1, 0), s, 1);
        CHECK.refused("no day", s.open(0, 0, 1000), s, 2);
    }

    /** Promises 17 and 36. */
    private static void firstAndLed() {
        BridgeStrip s = state();
        s.person(0);
        CHECK.refused("no way", s.first(0, 1, 0), s, 6);
        CHECK.noneLed("no way", s, 0, 1, 0, 0);
        CHECK.due("led tells no trouble", s.trouble(), 6);
        s.paper(0, 0, 1, 0, 999);
        CHECK.granted("waits for the law", s.first(0, 1, 0), s, 12);
        CHECK.granted("waits for the bar to end", s.first(0, 2, 15), s, 20);
        CHECK.granted("goes on the last day", s.first(0, 1, 20), s, 22);
        CHECK.refused("too late", s.first(0, 1, 21), s, 6);
        CHECK.granted("is there", s.first(0, 0, 999), s, 999);
        CHECK.due("led 0", s.led(0, 2, 15, 0), 0);
        CHECK.due("led 1", s.led(0, 2, 15, 1), 1);
        CHECK.due("led 2", s.led(0, 2, 15, 2), 2);
        CHECK.noneLed("led 3", s, 0, 2, 15, 3);
        CHECK.noneLed("led -1", s, 0, 2, 15, -1);
        CHECK.noneLed("led far", s, 0, 2, 15, HIGH);
        CHECK.due("led to where they are", s.led(0, 0, 15, 0), 0);
        CHECK.noneLed("behind where they are", s, 0, 0, 15, 1);
        CHECK.noneLed("no person", s, 1, 0, 0, 0);
        CHECK.noneLed("no place", s, 0, 3, 0, 0);
        CHECK.noneLed("no day", s, 0, 0, 1000, 0);
        CHECK.noneLed("no day", s, 0, 0, -1, 0);
        CHECK.refused("no person", s.first(1, 0, -1), s, 1);
        CHECK.refused("no place", s.first(0, 3, 0), s, 1);
        CHECK.refused("no day", s.first(0, 0, -1), s, 2);
        CHECK.refused("no day", s.first(0, 0, 1000), s, 2);
        lateWays();
        laterLawOnTheWay();
        paperOnTheWay();
    }

    /** A road opens when a paper begins, and closes when one ends; each post has its own days. */
    private static void paperOnTheWay() {
        BridgeStrip s = of("place a;place b;land x;land y;kind k;kind m;office o;"
                + "road a b days 2 coin 0 ask k by x ask m by y;law x takes k of o since 0;law y takes m of o since 0;"
                + "law y bars m of o since 40 until 49");
        s.person(0);
        s.paper(0, 0, 0, 20, 30);
        s.paper(0, 0, 0, 35, 60);
        CHECK.refused("one post isn't met", s.first(0, 1, 0), s, 6);
        s.paper(0, 1, 0, 25, 28);
        s.paper(0, 1, 0, 32, 999);
        CHECK.granted("waits for the second paper", s.first(0, 1, 0), s, 27);
        CHECK.granted("its last day", s.first(0, 1, 28), s, 30);
        CHECK.granted("waits for both again", s.first(0, 1, 29), s, 37);
        CHECK.granted("waits for the bar to end", s.first(0, 1, 40), s, 52);
        CHECK.granted("the last day", s.first(0, 1, 60), s, 62);
        CHECK.refused("behind it", s.first(0, 1, 61), s, 6);
        CHECK.granted("its reach then", s.reach(0, 61), s, 1);
        CHECK.granted("its reach ahead", s.reach(0, 60), s, 2);
        CHECK.granted("barred", s.reach(0, 45), s, 1);
        CHECK.granted("its coin", s.cheap(0, 1, 50), s, 0);
        CHECK.granted("what opens it", s.opener(0, 61), s, 0);
        CHECK.granted("what opens it", s.opener(0, 31), s, -2);
        CHECK.granted("what opens it", s.opener(0, 30), s, 8);
        BridgeStrip one = of("place a;place b;land x;kind k;kind m;office o;"
                + "road a b days 2 coin 0 ask m by x;law x takes m of o since 3");
        one.person(0);
        one.paper(0, 0, 0, 7, 999);
        one.paper(0, 1, 0, 50, 60);
        one.paper(0, 1, 0, 30, 31);
        CHECK.granted("waits for a paper of the kind", one.first(0, 1, 0), one, 32);
        CHECK.granted("waits for the other one", one.first(0, 1, 32), one, 52);
    }

    private static void lateWays() {
        BridgeStrip s = of("place a;place b;place c;road a b days 60 coin 1;road b c days 1 coin 1");
        s.person(0);
        CHECK.granted("goes on day 999, comes behind it", s.first(0, 1, 999), s, 1059);
        CHECK.due("led beyond", s.led(0, 1, 999, 1), 1);
        CHECK.refused("nobody goes behind 999", s.first(0, 2, 940), s, 6);
        CHECK.granted("goes on day 999", s.first(0, 2, 939), s, 1000);
    }

    private static void laterLawOnTheWay() {
        BridgeStrip s = of("place a;place b;land l;kind k;office o;road a b days 3 coin 1 ask k by l");
        s.person(0);
        s.paper(0, 0, 0, 0, 999);
        CHECK.refused("no law yet", s.first(0, 1, 0), s, 6);
        s.pass(50);
        Caller.laws(s, "law l takes k of o since 10 until 60");
        CHECK.granted("the law is known from 50 on", s.first(0, 1, 0), s, 53);
        CHECK.granted("within it", s.first(0, 1, 60), s, 63);
        CHECK.refused("behind it", s.first(0, 1, 61), s, 6);
        s.paper(0, 0, 0, 0, 0);
        Caller.laws(s, "law l bars k of o since 40 until 55");
        CHECK.granted("barred from the day it is known", s.first(0, 1, 0), s, 59);
    }

    /** Promise 36: of roads that come on the same day the one of the least number, from the end back. */
    private static void ledByLeastRoad() {
        BridgeStrip s = of("place a;place b;place c;place d;"
                + "road c d days 2 coin 0;road b d days 2 coin 0;road a b days 1 coin 0;road a c days 1 coin 0;"
                + "road a d days 3 coin 0;road a c days 5 coin 0");
        s.person(0);
        CHECK.due("all come on one day", s.first(0, 3, 0), 3);
        CHECK.due("by road 0", s.led(0, 3, 0, 1), 2);
        CHECK.due("two roads", s.led(0, 3, 0, 2), 3);
        s = of("place a;place b;place c;place d;"
                + "road b d days 2 coin 0;road c d days 2 coin 0;road a d days 3 coin 0;road a b days 1 coin 0;"
                + "road a c days 1 coin 0");
        s.person(0);
        CHECK.due("by road 0 again", s.led(0, 3, 0, 1), 1);
        s = of("place a;place b;place c;road a c days 2 coin 0;road a b days 1 coin 0;road b c days 1 coin 0");
        s.person(0);
        CHECK.due("straight", s.led(0, 2, 0, 1), 2);
        CHECK.noneLed("straight", s, 0, 2, 0, 2);
    }

    /** Promises 18 and 19. */
    private static void cheapAndReach() {
        BridgeStrip s = state();
        s.person(0);
        CHECK.granted("nothing to pay where they are", s.cheap(0, 0, 0), s, 0);
        CHECK.refused("no way", s.cheap(0, 1, 0), s, 6);
        CHECK.granted("their own place alone", s.reach(0, 0), s, 1);
        s.paper(0, 0, 0, 0, 999);
        CHECK.granted("round about", s.cheap(0, 1, 0), s, 6);
        CHECK.granted("all", s.reach(0, 0), s, 3);
        s.paper(0, 0, 1, 0, 999);
        CHECK.granted("straight", s.cheap(0, 1, 10), s, 3);
        CHECK.granted("the cheaper one", s.cheap(0, 2, 10), s, 1);
        CHECK.granted("roads of one day, no waiting", s.cheap(0, 1, 15), s, 6);
        CHECK.refused("no person", s.cheap(1, 0, -1), s, 1);
        CHECK.refused("no place", s.cheap(0, 3, 0), s, 1);
        CHECK.refused("no day", s.cheap(0, 0, 1000), s, 2);
        CHECK.refused("no person", s.reach(1, -1), s, 1);
        CHECK.refused("no day", s.reach(0, -1), s, 2);
        BridgeStrip chain = of("place a;place b;place c;place d;place e;place f;place g;place h;"
                + "road g h days 1 coin 999;road f g days 1 coin 999;road e f days 1 coin 999;road d e days 1 coin 999;"
                + "road c d days 1 coin 999;road b c days 1 coin 999;road a b days 1 coin 999");
        chain.person(0);
        chain.person(7);
        CHECK.granted("a long chain", chain.cheap(0, 7, 0), chain, 6993);
        CHECK.granted("and back", chain.cheap(1, 0, 0), chain, 6993);
        CHECK.granted("all of it", chain.reach(0, 0), chain, 8);
        CHECK.granted("its days", chain.first(0, 7, 5), chain, 12);
        CHECK.due("its last place", chain.led(0, 7, 5, 7), 7);
    }

    /** Promise 20. */
    private static void opener() {
        BridgeStrip s = of("place a;place b;place c;place d;land x;land y;kind k;kind m;office o;office q;"
                + "road a b days 1 coin 1 ask k by x;road b c days 1 coin 1 ask k by y;road a d days 1 coin 1 ask m by y;"
                + "law x takes k of o since 0;law x takes k of q since 0;law y takes k of q since 5;"
                + "law y takes m of q since 0;law y takes m of o since 0 until 6");
        s.person(0);
        CHECK.granted("the one that opens most", s.opener(0, 5), s, 1);
        CHECK.granted("of as good ones the first", s.opener(0, 4), s, 0);
        s.paper(0, 0, 1, 0, 999);
        CHECK.granted("the other kind, the lesser office", s.opener(0, 5), s, 8);
        CHECK.granted("the other kind, the only office", s.opener(0, 7), s, 9);
        for (int i = 0; i < 7; i++) {
            s.paper(0, 0, 0, 0, 0);
        }
        CHECK.granted("even without room for it", s.opener(0, 7), s, 9);
        s.move(0, 3);
        CHECK.granted("from elsewhere", s.opener(0, 7), s, 9);
        s.person(2);
        s.paper(1, 0, 1, 0, 999);
        s.paper(1, 1, 1, 0, 999);
        CHECK.granted("none makes it grow", s.opener(1, 7), s, -2);
        CHECK.refused("no person", s.opener(2, -1), s, 1);
        CHECK.refused("no day", s.opener(0, 1000), s, 2);
    }

    /** Promises 21 to 23. */
    private static void stamps() {
        BridgeStrip s = state();
        CHECK.refused("no kind", s.stamp(2, 0, -1), s, 1);
        CHECK.refused("no office", s.stamp(0, -1, 0), s, 1);
        CHECK.refused("coin", s.stamp(0, 0, -1), s, 2);
        CHECK.refused("coin", s.stamp(0, 0, 1000), s, 2);
        CHECK.refused("no stamps, no way", s.least(0, 1, 12), s, 6);
        CHECK.due("nothing bought", s.bought(), -1);
        CHECK.granted("a free road", s.least(1, 2, 12), s, 0);
        CHECK.due("the empty set", s.bought(), 0);
        CHECK.granted("a stamp", s.stamp(0, 0, 999), s, 0);
        CHECK.granted("a stamp", s.stamp(0, 1, 4), s, 1);
        CHECK.granted("the cheap one", s.least(0, 2, 12), s, 4);
        CHECK.due("the cheap one", s.bought(), 2);
        CHECK.granted("the only one", s.least(2, 0, 15), s, 999);
        CHECK.due("the only one", s.bought(), 1);
        CHECK.granted("from a place to itself", s.least(0, 0, 0), s, 0);
        CHECK.due("nothing to buy for it", s.bought(), 0);
        s.least(0, 1, 12);
        CHECK.refused("no place", s.least(3, 0, -1), s, 1);
        CHECK.refused("no place", s.least(0, -1, 0), s, 1);
        CHECK.refused("no day", s.least(0, 1, 1000), s, 2);
        CHECK.due("a refused one leaves it", s.bought(), 2);
        for (int i = 2; i < 9; i++) {
            CHECK.granted("stamp " + i, s.stamp(1, 0, 0), s, i);
        }
        CHECK.refused("a stamp too many", s.stamp(0, 0, 0), s, 3);
        CHECK.refused("a number comes first", s.stamp(0, 0, 1000), s, 2);
        CHECK.due("nine", s.count(8), 9);
        CHECK.granted("needless ones are not bought", s.least(0, 1, 12), s, 4);
        CHECK.due("needless ones are not bought", s.bought(), 2);
    }

    private static void leastTies() {
        BridgeStrip s = of("place a;place b;land x;land y;kind k;kind m;office o;office q;"
                + "road a b days 1 coin 1 ask k by x ask m by y;road a b days 1 coin 1 ask m by x;"
                + "law x takes k of o since 0;law y takes m of o since 0;law x takes m of q since 0 until 9");
        s.stamp(0, 0, 2);
        s.stamp(1, 0, 3);
        CHECK.granted("two posts, two stamps", s.least(0, 1, 0), s, 5);
        CHECK.due("both", s.bought(), 3);
        s.stamp(1, 1, 5);
        CHECK.granted("as cheap with fewer", s.least(1, 0, 0), s, 5);
        CHECK.due("fewer stamps", s.bought(), 4);
        s.stamp(1, 1, 5);
        CHECK.due("the lesser number", s.least(1, 0, 0), 5);
        CHECK.due("the lesser number", s.bought(), 4);
        CHECK.due("only both again", s.least(1, 0, 10), 5);
        CHECK.due("only both again", s.bought(), 3);
        BridgeStrip free = of("place a;place b;land x;kind k;office o;road a b days 1 coin 1 ask k by x;law x takes k of o since 3");
        free.stamp(0, 0, 7);
        free.stamp(0, 0, 0);
        free.stamp(0, 0, 0);
        CHECK.due("free stamps", free.least(0, 1, 3), 0);
        CHECK.due("one of them", free.bought(), 2);
        CHECK.refused("not taken yet", free.least(0, 1, 2), free, 6);
        CHECK.due("it stays", free.bought(), 2);
    }

    /** Promise 24. */
    private static void children() {
        BridgeStrip s = of("place a;place b;kind k;kind m;office o;office q;"
                + "gift k of o after 5 if born a;gift k of q after 3 if holds k of o if parent m of q;gift m of o after 0");
        s.person(0);
        s.person(1);
        s.paper(0, 1, 1, 2, 10);
        s.pass(1);
        CHECK.granted("a child", s.child(0), s, 2);
        papersOf(s, 2, new int[][] {{1, 0, 1}, {0, 0, 6}});
        s.pass(1);
        CHECK.granted("a child whose parent has that paper now", s.child(0), s, 3);
        papersOf(s, 3, new int[][] {{1, 0, 2}, {0, 0, 7}, {0, 1, 10}});
        CHECK.granted("a child born elsewhere", s.child(1), s, 4);
        papersOf(s, 4, new int[][] {{1, 0, 2}});
        s.pass(8);
        CHECK.granted("the parent's last day of it", s.child(0), s, 5);
        papersOf(s, 5, new int[][] {{1, 0, 10}, {0, 0, 15}, {0, 1, 18}});
        s.pass(1);
        CHECK.granted("the parent's paper has ended", s.child(0), s, 6);
        papersOf(s, 6, new int[][] {{1, 0, 11}, {0, 0, 16}});
        CHECK.granted("a child of a child", s.child(6), s, 7);
        papersOf(s, 7, new int[][] {{1, 0, 11}, {0, 0, 16}});
        CHECK.refused("no parent", s.child(8), s, 1);
        CHECK.refused("no parent", s.child(-1), s, 1);
        CHECK.due("a person gets no gifts", s.held(1, 0, 0), -1);
    }

    /** Rows of KIND, OFFICE and the first day; to 999 all of them; and none more. */
    private static void papersOf(BridgeStrip s, int person, int[][] rows) {
        for (int i = 0; i < rows.length; i++) {
            for (int what = 0; what < 3; what++) {
                CHECK.due("paper " + i + " of " + person + ", " + what, s.held(person, i, what), rows[i][what]);
            }
            CHECK.due("paper " + i + " of " + person + " lasts", s.held(person, i, 3), 999);
        }
        CHECK.due("no more of " + person, s.held(person, rows.length, 0), -1);
    }

    private static void childrenOrder() {
        BridgeStrip s = of("place a;kind k;kind m;kind n;office o;office q;"
                + "gift k of q after 0 if holds m of o;gift m of o after 0;gift n of o after 0;"
                + "gift k of o after 2 if holds n of q;gift n of q after 1 if holds k of q;gift n of o after 0;"
                + "gift k of o after 9;gift m of q after 3");
        s.person(0);
        s.child(0);
        papersOf(s, 1, new int[][] {{1, 0, 0}, {0, 1, 0}, {2, 0, 0}, {2, 1, 1}, {0, 0, 3}, {1, 1, 3}});
        BridgeStrip full = of("place a;kind k;kind m;kind n;office o;office q;office r;"
                + "gift k of o after 9;gift k of q after 8;gift k of r after 7;gift m of o after 6;gift m of q after 5;"
                + "gift m of r after 4;gift n of o after 3;gift n of q after 2;gift n of r after 1;gift n of r after 0");
        full.person(0);
        full.child(0);
        papersOf(full, 1, new int[][] {{2, 2, 0}, {2, 1, 2}, {2, 0, 3}, {1, 2, 4}, {1, 1, 5}, {1, 0, 6}, {0, 2, 7}, {0, 1, 8}});
    }

    private static void childrenEdges() {
        BridgeStrip s = of("place a;place b;kind k;kind m;office o;"
                + "gift k of o after 400 if born a if born a if born a;gift m of o after 1 if holds m of o;"
                + "gift m of o after 0 if born a if born b");
        s.person(0);
        s.pass(400);
        s.pass(199);
        s.child(0);
        papersOf(s, 1, new int[][] {{0, 0, 999}});
        s.pass(1);
        s.child(0);
        papersOf(s, 2, new int[][] {});
        s.paper(2, 1, 0, 0, 999);
        CHECK.due("all gifts are given at the birth", s.held(2, 1, 0), -1);
    }

    /** Promises 25 to 27. */
    private static void judgments() {
        BridgeStrip s = of("place a;land x;land y;land z;kind k;office o;office q;law x takes k of o since 0;"
                + "law y takes k of o since 0;law y takes k of q since 20 until 30;law z takes k of q since 0");
        s.person(0);
        s.person(0);
        CHECK.granted("none yet", s.binds(0, 3, 0, 5), s, -2);
        s.pass(10);
        CHECK.granted("a judgment", s.judge(0, 0, 0, 3, 50), s, 0);
        CHECK.granted("not ahead of its day", s.binds(0, 3, 0, 9), s, -2);
        CHECK.granted("from its day on", s.binds(0, 3, 0, 10), s, 50);
        CHECK.granted("in y too", s.binds(0, 3, 1, 999), s, 50);
        CHECK.granted("it stops at the bridge", s.binds(0, 3, 2, 10), s, -2);
        CHECK.granted("in another matter", s.binds(0, 4, 0, 10), s, -2);
        CHECK.granted("on another person", s.binds(1, 3, 0, 10), s, -2);
        CHECK.granted("alike", s.unlike(0, 3, 10), s, 0);
        CHECK.granted("another one", s.judge(0, 1, 0, 3, 70), s, 1);
        CHECK.granted("not in x", s.binds(0, 3, 0, 25), s, 50);
        CHECK.granted("in y for a time", s.binds(0, 3, 1, 20), s, 70);
        CHECK.granted("in y behind it", s.binds(0, 3, 1, 31), s, 50);
        CHECK.granted("in z", s.binds(0, 3, 2, 10), s, 70);
        CHECK.granted("x and y against z", s.unlike(0, 3, 10), s, 2);
        CHECK.granted("x against y and z", s.unlike(0, 3, 20), s, 2);
        CHECK.granted("ahead of all", s.unlike(0, 3, 9), s, 0);
        CHECK.granted("the greatest number", s.judge(0, 0, 0, 3, 0), s, 2);
        CHECK.granted("the greatest number", s.binds(0, 3, 0, 10), s, 0);
        s.judge(0, 0, 1, 9, 7);
        s.judge(0, 1, 1, 9, 7);
        CHECK.granted("of like values", s.unlike(1, 9, 10), s, 0);
        CHECK.refused("no kind", s.judge(1, 0, 0, -1, 0), s, 1);
        CHECK.refused("no office", s.judge(0, 2, 0, 0, 0), s, 1);
        CHECK.refused("no person", s.judge(0, 0, 2, 0, 0), s, 1);
        CHECK.refused("matter", s.judge(0, 0, 0, 10, 0), s, 2);
        CHECK.refused("matter", s.judge(0, 0, 0, -1, 0), s, 2);
        CHECK.refused("value", s.judge(0, 0, 0, 0, 100), s, 2);
        CHECK.refused("value", s.judge(0, 0, 0, 0, -1), s, 2);
        CHECK.refused("no person", s.binds(2, -1, 0, 0), s, 1);
        CHECK.refused("no land", s.binds(0, -1, 3, 0), s, 1);
        CHECK.refused("matter", s.binds(0, 10, 0, 0), s, 2);
        CHECK.refused("day", s.binds(0, 0, 0, 1000), s, 2);
        CHECK.refused("no person", s.unlike(-1, -1, 0), s, 1);
        CHECK.refused("matter", s.unlike(0, -1, 0), s, 2);
        CHECK.refused("day", s.unlike(0, 0, -1), s, 2);
        for (int i = 5; i < 20; i++) {
            CHECK.granted("judgment " + i, s.judge(0, 0, 0, 0, 99), s, i);
        }
        CHECK.refused("a judgment too many", s.judge(0, 0, 0, 0, 0), s, 3);
        CHECK.refused("a number comes first", s.judge(0, 0, 0, 0, 100), s, 2);
    }

    /** Promises 28 to 31. */
    private static void clauses() {
        BridgeStrip s = of("place a");
        CHECK.granted("nothing is signed", s.signed(), s, 0);
        CHECK.granted("no clause", s.signs(0), s, -2);
        CHECK.granted("no clause", s.signs(8), s, -2);
        for (int bad : new int[] {-1, 9, LOW, HIGH}) {
            CHECK.refused("no thing", s.clause(bad, -1), s, 1);
            CHECK.refused("no thing", s.signs(bad), s, 1);
        }
        CHECK.refused("words", s.clause(0, -1), s, 2);
        CHECK.refused("words", s.clause(0, 65_536), s, 2);
        CHECK.refused("word", s.quarrel(16, 0), s, 2);
        CHECK.refused("word", s.quarrel(0, -1), s, 2);
        for (int i = 0; i < 4; i++) {
            CHECK.granted("clause " + i, s.clause(8, 65_535), s, i);
        }
        CHECK.refused("a clause too many", s.clause(8, 0), s, 3);
        CHECK.refused("a number comes first", s.clause(8, 65_536), s, 2);
        CHECK.granted("signed", s.signed(), s, 1);
        CHECK.granted("the first", s.signs(8), s, 0);
        for (int i = 1; i <= 20; i++) {
            CHECK.granted("quarrel " + i, s.quarrel(15, 15), s, i);
        }
        CHECK.refused("a quarrel too many", s.quarrel(0, 0), s, 3);
        CHECK.refused("a number comes first", s.quarrel(0, 16), s, 2);
        CHECK.granted("a word that may not stand", s.signed(), s, 0);
        CHECK.granted("as it is now", s.signs(8), s, -2);
        CHECK.granted("another thing", s.clause(3, 0), s, 0);
        CHECK.granted("a clause without words", s.signed(), s, 1);
        CHECK.granted("a clause without words", s.signs(3), s, 0);
    }

    private static void signedOrder() {
        BridgeStrip s = of("place a");
        s.clause(0, 1);
        s.clause(0, 2);
        s.clause(1, 4);
        s.clause(2, 8);
        s.quarrel(0, 2);
        s.quarrel(3, 0);
        signs(s, 3, new int[] {1, 0, 0, -2});
        s.quarrel(1, 2);
        s.quarrel(3, 1);
        signs(s, 2, new int[] {-2, 0, 0, -2});
        s.quarrel(2, 3);
        signs(s, 1, new int[] {0, -2, -2, -2});
        s.clause(1, 3);
        signs(s, 2, new int[] {0, 1, -2, -2});
        s.quarrel(0, 1);
        signs(s, 1, new int[] {0, -2, -2, -2});
        s.clause(1, 1);
        signs(s, 2, new int[] {0, 2, -2, -2});
        BridgeStrip late = of("place a");
        late.clause(0, 1);
        late.clause(1, 2);
        late.clause(2, 4);
        late.quarrel(0, 1);
        signs(late, 2, new int[] {0, -2, 0});
        manyClauses();
    }

    private static void signs(BridgeStrip s, int things, int[] want) {
        for (int thing = 0; thing < want.length; thing++) {
            CHECK.granted("signs " + thing, s.signs(thing), s, want[thing]);
        }
        CHECK.granted("signed", s.signed(), s, things);
    }

    /** All room is used, and each thing's word quarrels with the next one's. */
    private static void manyClauses() {
        BridgeStrip s = of("place a");
        for (int thing = 0; thing < 9; thing++) {
            for (int i = 0; i < 4; i++) {
                s.clause(thing, 1 << thing | (i < 3 ? 1 << 15 : 0));
            }
        }
        for (int thing = 0; thing < 8; thing++) {
            s.quarrel(thing, thing + 1);
        }
        s.quarrel(15, 15);
        signs(s, 5, new int[] {3, -2, 3, -2, 3, -2, 3, -2, 3});
    }

    /** Promises 32 to 35. */
    private static void debts() {
        BridgeStrip s = state();
        CHECK.refused("no person", s.contract(0, 0), s, 1);
        s.person(0);
        s.person(0);
        CHECK.refused("price", s.contract(0, 0), s, 2);
        CHECK.refused("price", s.contract(0, 1000), s, 2);
        CHECK.granted("a contract", s.contract(0, 999), s, 0);
        CHECK.granted("a contract", s.contract(0, 1), s, 1);
        BridgeStrip other = state();
        other.person(0);
        other.person(0);
        other.contract(1, 7);
        CHECK.granted("in the second's name", other.burn(0, 3), other, 21);
        CHECK.due("in the second's name", other.owed(1), 21);
        CHECK.due("not in the first's", other.owed(0), 0);
        CHECK.refused("no contract", (int) s.burn(2, 0), s, 1);
        CHECK.refused("no contract", (int) s.burn(-1, 1), s, 1);
        CHECK.refused("units", (int) s.burn(0, 0), s, 2);
        CHECK.refused("units", (int) s.burn(0, 1001), s, 2);
        CHECK.granted("burn", s.burn(0, 1000), s, 999_000);
        CHECK.granted("burn by the other contract", s.burn(1, 1), s, 999_001);
        CHECK.due("owed", s.owed(0), 999_001);
        CHECK.due("owed by another", s.owed(1), 0);
        CHECK.due("it is theirs", s.rename(0, 0), false);
        CHECK.due("it is theirs", s.trouble(), 5);
        CHECK.due("no contract", s.rename(2, 0), false);
        CHECK.due("no contract", s.trouble(), 1);
        CHECK.due("no person", s.rename(0, 2), false);
        CHECK.due("no person", s.trouble(), 1);
        CHECK.due("rename", s.rename(0, 1), true);
        CHECK.due("rename", s.trouble(), 0);
        CHECK.due("what was owed stays", s.owed(0), 999_001);
        CHECK.granted("in the new name", s.burn(0, 2), s, 1998);
        CHECK.due("in the new name", s.owed(1), 1998);
        CHECK.granted("the other contract", s.burn(1, 9), s, 999_010);
        CHECK.due("no person", s.owed(2), -1);
        CHECK.due("no person", s.owed(-1), -1);
        for (int i = 2; i < 10; i++) {
            CHECK.granted("contract " + i, s.contract(1, i), s, i);
        }
        CHECK.refused("a contract too many", s.contract(0, 1), s, 3);
        CHECK.refused("a number comes first", s.contract(0, 0), s, 2);
    }

    /** All room is used, and the last of each is asked for: nothing is looked for behind its row. */
    private static void fullRoom() {
        StringBuilder text = new StringBuilder("land l;kind k;office o;place a;place b");
        for (int i = 0; i < 6; i++) {
            text.append(";place p").append((char) ('a' + i));
        }
        for (int i = 0; i < 15; i++) {
            text.append(";road a b days 1 coin 9");
        }
        text.append(";road a pf days 1 coin 9 ask k by l ask k by l ask k by l");
        for (int i = 0; i < 6; i++) {
            text.append(";gift k of o after 1");
        }
        BridgeStrip s = of(text.toString());
        for (int i = 0; i < 3; i++) {
            Caller.laws(s, "law l bars k of o since 9;law l bars k of o since 9;law l bars k of o since 9;"
                    + "law l bars k of o since 9;law l bars k of o since 9;law l bars k of o since 9;"
                    + "law l bars k of o since 9;law l takes k of o since 5");
        }
        CHECK.due("all laws", s.count(5), 24);
        CHECK.due("all roads", s.count(4), 16);
        for (int i = 0; i < 30; i++) {
            CHECK.due("person " + i, i % 2 == 0 ? s.person(0) : s.child(i - 1), i);
        }
        for (int i = 1; i < 8; i++) {
            s.paper(29, 0, 0, 900 + i, 900 + i);
        }
        for (int i = 0; i < 9; i++) {
            s.stamp(0, 0, i + 1);
        }
        for (int i = 0; i < 20; i++) {
            s.judge(0, 0, 29, 9, i);
        }
        CHECK.granted("the last person's paper", s.is(29, 0, 5), s, 1);
        CHECK.due("the last person's last paper", s.held(29, 7, 3), 907);
        CHECK.granted("nobody is lost", s.nowhere(0, 5), s, 0);
        CHECK.granted("all children are lost", s.nowhere(0, 4), s, 15);
        CHECK.granted("the last place", s.first(29, 7, 0), s, 6);
        CHECK.granted("the last place", s.cheap(29, 7, 5), s, 9);
        CHECK.granted("three places", s.reach(29, 5), s, 3);
        CHECK.granted("none more", s.opener(29, 5), s, -2);
        CHECK.granted("for the first", s.opener(28, 5), s, 0);
        CHECK.due("led to the last place", s.led(29, 7, 0, 1), 7);
        CHECK.granted("the cheapest stamp", s.least(0, 7, 5), s, 1);
        CHECK.due("the cheapest stamp", s.bought(), 1);
        CHECK.refused("too early for it", s.least(0, 7, 4), s, 6);
        CHECK.granted("the last judgment", s.binds(29, 9, 0, 5), s, 19);
        CHECK.granted("one land", s.unlike(29, 9, 5), s, 0);
        s.contract(29, 999);
        CHECK.granted("the last person's debt", s.burn(0, 1000), s, 999_000);
        CHECK.due("the last person's debt", s.owed(29), 999_000);
    }

    /** Promise 37. */
    private static void counts() {
        BridgeStrip s = of("place a;place b;land l;office o;office q;kind k;kind m;kind n;road a b days 1 coin 1;"
                + "law l takes k of o since 0;law l takes k of o since 0;gift k of o after 0");
        filled(s);
        s.feed(1, 2, 3, 4, 5);
        int[] want = {2, 1, 2, 3, 1, 2, 1, 2, 1, 1, 1, 1, 7, 20};
        for (int what = 0; what < want.length; what++) {
            CHECK.due("count " + what, s.count(what), want[what]);
        }
        for (int bad : new int[] {-1, 14, LOW, HIGH}) {
            CHECK.due("count " + bad, s.count(bad), -1);
        }
    }

    /** Promise 38: calls of which no number is told leave the trouble alone. */
    private static void quietCalls() {
        BridgeStrip s = state();
        s.person(0);
        CHECK.refused("a number", s.pass(0), s, 2);
        s.feed(0, 0, 0, 0, 0);
        s.fault();
        s.where();
        s.held(0, 0, 0);
        s.held(-1, 0, 0);
        s.bought();
        s.owed(0);
        s.owed(-1);
        s.count(0);
        s.count(-1);
        s.led(0, 0, 0, 0);
        CHECK.due("trouble stays", s.trouble(), 2);
        CHECK.granted("until a call that may be refused", s.signed(), s, 0);
    }
}
