/**
 * Terms II to VI and the promises that rest on them: each sentence that names a boundary case, in
 * the document's order. What is quoted in a comment is the document's.
 */
public final class RuleEdgeTest {
    private static final Check CHECK = new Check("RuleEdgeTest");

    public static void main(String[] args) {
        lawsInForce();
        knownFromToday();
        notKnownYet();
        papersLast();
        knownOnThatDay();
        goodAnywhere();
        postsOfRoads();
        eitherWay();
        waiting();
        goingOnTheLastDay();
        comingBeyond();
        firstOfLaterLaws();
        manyOpenings();
        postsThatOpenLast();
        ledFromTheEndBack();
        ledAsSoonAsOneCan();
        ledToWhereTheyAre();
        cheapOnOneDay();
        cheapOfNothing();
        reachOfAll();
        openerOfMost();
        openerOnlyIfItGrows();
        openerOnThatDay();
        stampsOfNothing();
        stampsByCoinThenFewest();
        allStamps();
        stampsAndDays();
        boughtLately();
        birth();
        birthOnTheLastDays();
        parentOnTheBirth();
        holdsFromTheFirstDay();
        giftsOfOneDay();
        giftsOnceAtMost();
        giftsAsLongAsThereIsRoom();
        allCases();
        judgmentsFromToday();
        judgmentsOfValueZero();
        judgmentsTaken();
        allLandsUnlike();
        wordsThatQuarrel();
        noneBehindAll();
        mostThingsFirst();
        signedAsItIsNow();
        owedInAName();
        greatDebts();
        CHECK.end();
    }

    // ---- II

    /** "in force on that DAY (from since to until, both; without until: always)"; "the greatest number"; "without one it doesn't" */
    private static void lawsInForce() {
        Edge e = new Edge(CHECK, "land l;land m;kind k;office o;law l takes k of o since 10 until 20;law l bars k of o since 15 until 15;"
                + "law l takes k of o since 999;law l bars k of o since 0 until 0;law m takes k of o since 0;law m bars k of o since 500");
        int[][] rows = { // land, day, the law or -2, whether it takes
            {0, 0, 3, 0}, {0, 1, -2, 0}, {0, 9, -2, 0}, {0, 10, 0, 1}, {0, 14, 0, 1}, {0, 15, 1, 0}, {0, 16, 0, 1}, {0, 20, 0, 1},
            {0, 21, -2, 0}, {0, 998, -2, 0}, {0, 999, 2, 1}, {1, 0, 4, 1}, {1, 499, 4, 1}, {1, 500, 5, 0}, {1, 999, 5, 0}};
        for (int[] row : rows) {
            e.gives(row[3], "takes", row[0], 0, 0, row[1], 0);
            e.gives(row[2], "why", row[0], 0, 0, row[1], 0);
            e.gives(row[3], "takes", row[0], 0, 0, row[1], 999);
            e.gives(row[2], "why", row[0], 0, 0, row[1], 999);
        }
        Edge none = new Edge(CHECK, "land l;land m;kind k;kind n;office o;office p;law l takes k of o since 0");
        for (int i = 1; i < 8; i++) {
            none.gives(0, "takes", i >> 2, i >> 1 & 1, i & 1, 0, 0);
            none.gives(-2, "why", i >> 2, i >> 1 & 1, i & 1, 0, 0);
        }
        none.gives(1, "takes", 0, 0, 0, 0, 0);
    }

    /** "those of the BOOK are KNOWN from DAY 0 on, later ones from TODAY on" */
    private static void knownFromToday() {
        Edge e = new Edge(CHECK, "land l;kind k;kind n;office o;office p;law l takes k of o since 0");
        e.gives(0, "why", 0, 0, 0, 0, 0);
        e.laws("law l takes k of p since 0");
        e.gives(1, "why", 0, 0, 1, 0, 0);
        e.gives(1, "pass", 1);
        e.laws("law l takes n of o since 0");
        e.gives(-2, "why", 0, 1, 0, 999, 0);
        e.gives(2, "why", 0, 1, 0, 0, 1);
        e.gives(400, "pass", 399);
        e.gives(800, "pass", 400);
        e.gives(999, "pass", 199);
        e.laws("law l takes n of p since 0 until 0");
        e.gives(-2, "why", 0, 1, 1, 0, 998);
        e.gives(3, "why", 0, 1, 1, 0, 999);
        e.gives(-2, "why", 0, 1, 1, 1, 999);
        // the day of being known, not the day that is asked about
        e.gives(2, "why", 0, 1, 0, 0, 999);
        e.gives(1, "takes", 0, 1, 0, 0, 1);
    }

    /** A later law that isn't known yet leaves the earlier one in its place. */
    private static void notKnownYet() {
        Edge e = new Edge(CHECK, "land l;kind k;office o;law l takes k of o since 0");
        e.gives(50, "pass", 50);
        e.laws("law l bars k of o since 20 until 60");
        e.gives(60, "pass", 10);
        e.laws("law l takes k of o since 30 until 40");
        int[][] rows = { // day, known, law
            {30, 49, 0}, {30, 50, 1}, {30, 59, 1}, {30, 60, 2}, {40, 60, 2}, {41, 60, 1}, {29, 60, 1}, {19, 60, 0}, {20, 50, 1},
            {60, 999, 1}, {61, 999, 0}, {20, 0, 0}, {999, 0, 0}, {0, 999, 0}};
        for (int[] row : rows) {
            e.gives(row[2], "why", 0, 0, 0, row[0], row[1]);
            e.gives(row[2] == 1 ? 0 : 1, "takes", 0, 0, 0, row[0], row[1]);
        }
    }

    /** "from a DAY to a DAY (both, 0 .. 999)"; "if it lasts then" */
    private static void papersLast() {
        Edge e = new Edge(CHECK, "place a;land l;kind k;office o;law l takes k of o since 0");
        int[][] days = {{0, 0}, {999, 999}, {5, 5}, {7, 9}};
        for (int person = 0; person < days.length; person++) {
            e.gives(person, "person", 0);
            e.gives(1, "paper", person, 0, 0, days[person][0], days[person][1]);
            e.gives(1, "is", person, 0, days[person][0]);
            e.gives(1, "is", person, 0, days[person][1]);
            if (days[person][0] > 0) {
                e.gives(0, "is", person, 0, days[person][0] - 1);
            }
            if (days[person][1] < 999) {
                e.gives(0, "is", person, 0, days[person][1] + 1);
            }
        }
    }

    /** "the LAND TAKES its KIND of its OFFICE then, as KNOWN on that DAY" */
    private static void knownOnThatDay() {
        Edge e = new Edge(CHECK, "place a;place b;land l;land m;kind k;office o;law m takes k of o since 0;"
                + "road a b days 1 coin 1 ask k by l");
        e.gives(0, "person", 0);
        e.gives(1, "paper", 0, 0, 0, 0, 999);
        e.gives(0, "stamp", 0, 0, 3);
        e.gives(40, "pass", 40);
        e.gives(0, "judge", 0, 0, 0, 0, 9);
        e.gives(50, "pass", 10);
        e.laws("law l takes k of o since 0;law m bars k of o since 0 until 60");
        int[][] rows = { // day, lands, open, l binds, m binds
            {39, 2, 0, -2, -2}, {40, 2, 0, -2, 9}, {49, 2, 0, -2, 9}, {50, 1, 1, 9, -2}, {60, 1, 1, 9, -2}, {61, 3, 1, 9, 9}};
        for (int[] row : rows) {
            e.gives(row[1], "is", 0, 0, row[0]);
            e.gives(row[2], "open", 0, 0, row[0]);
            e.gives(row[2] + 1, "reach", 0, row[0]);
            e.gives(row[3], "binds", 0, 0, 0, row[0]);
            e.gives(row[4], "binds", 0, 0, 1, row[0]);
        }
        e.refuses(6, "least", 0, 1, 49);
        e.gives(3, "least", 0, 1, 50);
        e.refuses(6, "cheap", 0, 1, 49);
        e.gives(1, "cheap", 0, 1, 50);
        e.gives(-2, "opener", 0, 49);
    }

    /** Promise 15: "have a PAPER of a KIND that lasts on a DAY, and none of these is GOOD anywhere" */
    private static void goodAnywhere() {
        Edge e = new Edge(CHECK, "place a;land l;land m;kind k;kind n;office o;office p;law m takes k of p since 10 until 20");
        e.gives(0, "nowhere", 0, 10);
        for (int person = 0; person < 4; person++) {
            e.gives(person, "person", 0);
        }
        e.gives(1, "paper", 0, 0, 0, 5, 25);
        e.gives(1, "paper", 1, 0, 1, 0, 15);
        e.gives(2, "paper", 1, 0, 0, 12, 30);
        e.gives(1, "paper", 2, 1, 1, 0, 999);
        int[][] rows = { // day, of k
            {0, 1}, {4, 1}, {5, 2}, {9, 2}, {10, 1}, {15, 1}, {16, 2}, {25, 2}, {26, 1}, {30, 1}, {31, 0}, {999, 0}};
        for (int[] row : rows) {
            e.gives(row[1], "nowhere", 0, row[0]);
            e.gives(1, "nowhere", 1, row[0]);
        }
    }

    /** "OPEN .. if for each POST they have a PAPER of its KIND that is GOOD in its LAND then" */
    private static void postsOfRoads() {
        Edge e = new Edge(CHECK, "place a;place b;land l;land m;kind k;kind n;office o;office p;"
                + "road a b days 1 coin 1;road a b days 1 coin 1 ask k by l;road a b days 1 coin 1 ask k by l ask k by m;"
                + "road a b days 1 coin 1 ask k by l ask k by m ask n by m;"
                + "law l takes k of o since 0;law m takes k of o since 0 until 9;law m takes k of p since 0;law m takes n of o since 5");
        e.gives(0, "person", 0);
        opens(e, 5, 1, 0, 0, 0);
        e.gives(1, "paper", 0, 0, 0, 0, 999);
        opens(e, 9, 1, 1, 1, 0);
        opens(e, 10, 1, 1, 0, 0);
        e.gives(2, "paper", 0, 1, 0, 0, 30);
        opens(e, 4, 1, 1, 1, 0);
        opens(e, 5, 1, 1, 1, 1);
        opens(e, 10, 1, 1, 0, 0);
        e.gives(3, "paper", 0, 0, 1, 20, 40);
        opens(e, 19, 1, 1, 0, 0);
        opens(e, 20, 1, 1, 1, 1);
        opens(e, 30, 1, 1, 1, 1);
        opens(e, 31, 1, 1, 1, 0);
        opens(e, 40, 1, 1, 1, 0);
        opens(e, 41, 1, 1, 0, 0);
        opens(e, 999, 1, 1, 0, 0);
    }

    private static void opens(Edge e, int day, int... open) {
        for (int road = 0; road < open.length; road++) {
            e.gives(open[road], "open", 0, road, day);
        }
    }

    // ---- III

    /** "of two unlike PLACES, either way" */
    private static void eitherWay() {
        Edge e = new Edge(CHECK, "place a;place b;place c;road b a days 3 coin 5;road b c days 4 coin 6");
        for (int place = 0; place < 3; place++) {
            e.gives(place, "person", place);
            e.gives(3, "reach", place, 0);
        }
        e.gives(3, "first", 0, 1, 0);
        e.gives(7, "first", 0, 2, 0);
        e.gives(3, "first", 1, 0, 0);
        e.gives(4, "first", 2, 1, 0);
        e.gives(7, "first", 2, 0, 0);
        e.gives(11, "cheap", 2, 0, 0);
        e.gives(11, "cheap", 0, 2, 0);
        e.gives(0, "least", 2, 0, 0);
        e.leads(2, 0, 0, 2, 1, 0);
        e.leads(0, 2, 0, 0, 1, 2);
    }

    /** "one may wait at a PLACE, and go a ROAD that is OPEN on the DAY of going" */
    private static void waiting() {
        Edge e = new Edge(CHECK, "place a;place b;place c;land l;kind k;office o;road a b days 5 coin 0 ask k by l;"
                + "road b c days 5 coin 0 ask k by l;law l takes k of o since 10 until 12;law l takes k of o since 16 until 16");
        e.gives(0, "person", 0);
        e.refuses(6, "first", 0, 1, 0);
        e.gives(1, "paper", 0, 0, 0, 0, 999);
        e.gives(15, "first", 0, 1, 0);
        e.gives(15, "first", 0, 1, 10);
        e.gives(17, "first", 0, 1, 12);
        e.gives(21, "first", 0, 1, 13);
        e.gives(21, "first", 0, 1, 16);
        e.refuses(6, "first", 0, 1, 17);
        // open on the day of going alone: there on 15, on the road when the law has ended
        e.gives(21, "first", 0, 2, 0);
        e.gives(21, "first", 0, 2, 11);
        e.refuses(6, "first", 0, 2, 12);
        e.leads(0, 2, 11, 0, 1, 2);
        e.leadsNowhere(0, 2, 12, 0);
        e.leadsNowhere(0, 2, 12, 1);
    }

    /** "nobody goes behind 999": also not by a road without posts; nobody needs to go where they are. */
    private static void goingOnTheLastDay() {
        Edge e = new Edge(CHECK, "place a;place b;place c;place d;road a b days 1 coin 0;road b c days 1 coin 0;road c d days 1 coin 0");
        e.gives(0, "person", 0);
        e.gives(1000, "first", 0, 1, 999);
        e.refuses(6, "first", 0, 2, 999);
        e.gives(1000, "first", 0, 2, 998);
        e.refuses(6, "first", 0, 3, 998);
        e.gives(1000, "first", 0, 3, 997);
        e.gives(999, "first", 0, 0, 999);
        e.leads(0, 1, 999, 0, 1);
        e.leadsNowhere(0, 2, 999, 0);
        e.leads(0, 3, 997, 0, 1, 2, 3);
    }

    /** "the DAY of coming may be beyond 999" */
    private static void comingBeyond() {
        Edge e = new Edge(CHECK, "place a;place b;place c;land l;kind k;office o;road a b days 60 coin 0 ask k by l;"
                + "road a c days 59 coin 0;road c b days 1 coin 0;law l takes k of o since 999");
        e.gives(0, "person", 0);
        e.gives(1, "paper", 0, 0, 0, 999, 999);
        e.gives(1059, "first", 0, 1, 999);
        e.gives(1058, "first", 0, 2, 999);
        e.gives(1059, "first", 0, 1, 941);
        e.gives(1000, "first", 0, 1, 940);
        e.gives(60, "first", 0, 1, 0);
        e.leads(0, 1, 941, 0, 1);
        e.leads(0, 1, 940, 0, 2, 1);
    }

    /** "as they are known, DAY for DAY: LAWS that come later are not known yet" */
    private static void firstOfLaterLaws() {
        Edge e = new Edge(CHECK, "place a;place b;land l;kind k;office o;road a b days 2 coin 0 ask k by l;"
                + "law l takes k of o since 0 until 5");
        e.gives(0, "person", 0);
        e.gives(1, "paper", 0, 0, 0, 0, 999);
        e.gives(2, "first", 0, 1, 0);
        e.gives(7, "first", 0, 1, 5);
        e.refuses(6, "first", 0, 1, 6);
        e.gives(30, "pass", 30);
        e.laws("law l takes k of o since 0");
        e.gives(7, "first", 0, 1, 5);
        e.gives(32, "first", 0, 1, 6);
        e.gives(32, "first", 0, 1, 30);
        e.gives(33, "first", 0, 1, 31);
        e.gives(40, "pass", 10);
        e.laws("law l bars k of o since 0 until 50");
        e.gives(32, "first", 0, 1, 6);
        e.gives(41, "first", 0, 1, 39);
        e.gives(53, "first", 0, 1, 40);
        e.gives(53, "first", 0, 1, 51);
        e.gives(1001, "first", 0, 1, 999);
    }

    /** Laws and papers that begin and end many times, each on its own day. */
    private static void manyOpenings() {
        StringBuilder text = new StringBuilder("place a;place b;land x;land l;kind y;kind k;office o;office q;road a b days 1 coin 0 ask k by l");
        for (int i = 0; i < 8; i++) {
            int since = 100 * i + 50;
            text.append(";law l takes k of o since ").append(since).append(" until ").append(since + 9);
        }
        Edge e = new Edge(CHECK, text + ";law x takes y of q since 820 until 825");
        e.gives(0, "person", 0);
        e.gives(1, "paper", 0, 0, 1, 0, 999);
        e.refuses(6, "first", 0, 1, 0);
        e.gives(2, "paper", 0, 1, 0, 59, 60);
        e.gives(3, "paper", 0, 1, 0, 60, 149);
        e.gives(4, "paper", 0, 1, 0, 260, 349);
        e.gives(5, "paper", 0, 1, 0, 450, 450);
        e.gives(6, "paper", 0, 1, 0, 759, 999);
        e.gives(60, "first", 0, 1, 0);
        e.gives(60, "first", 0, 1, 59);
        e.gives(451, "first", 0, 1, 60);
        e.gives(451, "first", 0, 1, 450);
        e.gives(760, "first", 0, 1, 451);
        e.gives(760, "first", 0, 1, 759);
        e.refuses(6, "first", 0, 1, 760);
    }

    /** The last of three posts opens last, by a law or by a paper; on the first road and on another one. */
    private static void postsThatOpenLast() {
        Edge e = new Edge(CHECK, "place a;place b;place c;land l;land m;kind k;kind n;office o;office p;"
                + "road a b days 1 coin 0 ask k by l ask n by l ask n by m;road a c days 1 coin 0 ask n by l ask k by m;"
                + "law l takes k of p since 0;law l takes n of o since 10;law m takes n of o since 0;law m takes k of p since 30");
        e.gives(0, "person", 0);
        e.gives(1, "paper", 0, 0, 1, 0, 999);
        e.gives(2, "paper", 0, 1, 0, 0, 20);
        e.gives(11, "first", 0, 1, 0);
        e.gives(21, "first", 0, 1, 20);
        e.refuses(6, "first", 0, 1, 21);
        e.refuses(6, "first", 0, 2, 0);
        e.gives(3, "paper", 0, 1, 0, 25, 30);
        e.gives(26, "first", 0, 1, 21);
        e.gives(31, "first", 0, 2, 0);
        e.gives(31, "first", 0, 2, 30);
        e.refuses(6, "first", 0, 2, 31);
        e.leads(0, 2, 0, 0, 2);
    }

    /** Promise 36: "from it back, always the ROAD of the least number by which one can be there on its DAY" */
    private static void ledFromTheEndBack() {
        // to d by c (road 0) or by b (road 1) on one day; to c by a (road 5) or by b (road 4), which comes later
        Edge e = new Edge(CHECK, "place a;place b;place c;place d;road c d days 3 coin 9;road d b days 3 coin 0;road a b days 2 coin 0;"
                + "road a d days 5 coin 0;road c b days 1 coin 0;road a c days 2 coin 0");
        e.gives(0, "person", 0);
        e.gives(5, "first", 0, 3, 0);
        e.leads(0, 3, 0, 0, 2, 3);
        e.leads(0, 2, 0, 0, 2);
        e.leads(0, 1, 0, 0, 1);
        Edge f = new Edge(CHECK, "place a;place b;place c;place d;road c d days 1 coin 0;road b c days 1 coin 0;road a c days 2 coin 0;"
                + "road a b days 1 coin 0;road a d days 3 coin 0");
        f.gives(0, "person", 0);
        f.leads(0, 3, 0, 0, 1, 2, 3);
        f.leads(0, 2, 0, 0, 1, 2);
        f.gives(1, "move", 0, 3);
        f.leads(0, 0, 0, 3, 2, 0);
        // a sooner way is the way, whatever its numbers
        Edge g = new Edge(CHECK, "place a;place b;place c;road a c days 3 coin 0;road a b days 1 coin 0;road b c days 1 coin 0");
        g.gives(0, "person", 0);
        g.leads(0, 2, 0, 0, 1, 2);
    }

    /** "(from a PLACE at its own FIRST, going as soon as one can)" */
    private static void ledAsSoonAsOneCan() {
        String names = "place a;place b;place c;place d;land l;kind k;office o;law l takes k of o since 4;";
        String byC = "road c d days 1 coin 0 ask k by l;";
        String byB = "road b d days 3 coin 0;";
        String rest = "road a b days 2 coin 0;road a c days 1 coin 0";
        for (int turn = 0; turn < 2; turn++) {
            Edge e = new Edge(CHECK, names + (turn == 0 ? byC + byB : byB + byC) + rest);
            e.gives(0, "person", 0);
            e.gives(1, "paper", 0, 0, 0, 0, 999);
            e.gives(5, "first", 0, 3, 0);
            e.leads(0, 3, 0, 0, turn == 0 ? 2 : 1, 3);
            // from a day later on only c is in time
            e.leads(0, 3, 1, 0, 2, 3);
        }
        // ways of one day, be it the last one or the first beyond it
        Edge f = new Edge(CHECK, "place a;place b;place c;place d;road d c days 2 coin 0;road d b days 3 coin 0;road b a days 1 coin 0;"
                + "road a c days 2 coin 0");
        f.gives(0, "person", 0);
        f.gives(999, "first", 0, 3, 995);
        f.leads(0, 3, 995, 0, 2, 3);
        f.gives(1000, "first", 0, 3, 996);
        f.leads(0, 3, 996, 0, 2, 3);
    }

    /** "(0: where they are; the last: that PLACE)"; "NoSuchElementException if there is none such" */
    private static void ledToWhereTheyAre() {
        Edge e = new Edge(CHECK, "place a;place b;road a b days 1 coin 0;road a b days 2 coin 0");
        e.gives(0, "person", 1);
        e.leads(0, 1, 0, 1);
        e.leads(0, 1, 999, 1);
        e.leads(0, 0, 5, 1, 0);
        e.leadsNowhere(0, 0, 5, Integer.MAX_VALUE);
        e.leadsNowhere(0, 0, 5, Integer.MIN_VALUE);
        e.leadsNowhere(1, 0, 5, 0);
        e.gives(1, "move", 0, 0);
        e.leads(0, 1, 5, 0, 1);
        Edge none = new Edge(CHECK, "place a;place b");
        none.gives(0, "person", 0);
        none.leadsNowhere(0, 1, 0, 0);
        none.leadsNowhere(0, 1, 0, 1);
        none.leads(0, 0, 0, 0);
    }

    /** "CHEAP: the least coin by ROADS that are all OPEN on one DAY" */
    private static void cheapOnOneDay() {
        Edge e = new Edge(CHECK, "place a;place b;place c;land l;kind k;office o;road a b days 1 coin 1 ask k by l;"
                + "road b c days 1 coin 1;road a c days 60 coin 999;law l takes k of o since 5 until 6");
        e.gives(0, "person", 0);
        e.gives(1, "paper", 0, 0, 0, 6, 9);
        int[][] rows = {{4, 999}, {5, 999}, {6, 2}, {7, 999}, {0, 999}, {999, 999}};
        for (int[] row : rows) {
            e.gives(row[1], "cheap", 0, 2, row[0]);
            e.gives(row[1] == 2 ? 1 : 1000, "cheap", 0, 1, row[0]);
        }
        // by coin, not by days, and the first as cheap as any
        Edge f = new Edge(CHECK, "place a;place b;road a b days 1 coin 5;road b a days 60 coin 4;road a b days 1 coin 4");
        f.gives(0, "person", 1);
        f.gives(4, "cheap", 0, 0, 999);
        f.gives(1, "first", 0, 0, 0);
    }

    /** The least coin may be 0, and the greatest is by seven roads of 999 each. */
    private static void cheapOfNothing() {
        StringBuilder names = new StringBuilder();
        StringBuilder roads = new StringBuilder();
        for (char c = 'a'; c < 'h'; c++) {
            names.append("place ").append(c).append(";");
            roads.insert(0, ";road " + c + " " + (char) (c + 1) + " days 60 coin 999");
        }
        Edge e = new Edge(CHECK, names + "place h" + roads);
        e.gives(0, "person", 0);
        e.gives(0, "cheap", 0, 0, 0);
        e.gives(7 * 999, "cheap", 0, 7, 0);
        e.gives(7 * 60, "first", 0, 7, 0);
        e.gives(999 + 60, "first", 0, 7, 999 - 6 * 60);
        e.refuses(6, "first", 0, 7, 1000 - 6 * 60);
        e.gives(8, "reach", 0, 0);
        e.leads(0, 7, 0, 0, 1, 2, 3, 4, 5, 6, 7);
        Edge f = new Edge(CHECK, names + "place h" + roads.toString().replace("999", "0"));
        f.gives(0, "person", 7);
        f.gives(0, "cheap", 0, 0, 999);
        Edge g = new Edge(CHECK, "place a;place b");
        g.gives(0, "person", 0);
        g.gives(0, "cheap", 0, 0, 0);
        g.refuses(6, "cheap", 0, 1, 0);
    }

    /** "REACH: how many PLACES there are by such ROADS (their own, too)" */
    private static void reachOfAll() {
        Edge e = new Edge(CHECK, "place a;place b;place c;place d;place e;place f;place g;place h;land l;kind k;office o;"
                + "road g h days 1 coin 0;road f g days 1 coin 0;road e f days 1 coin 0 ask k by l;road d e days 1 coin 0;"
                + "road c d days 1 coin 0;road b c days 1 coin 0;law l takes k of o since 7 until 7");
        for (int place = 0; place < 8; place++) {
            e.gives(place, "person", place);
            e.gives(1, "paper", place, 0, 0, 0, 999);
            e.gives(place == 0 ? 1 : place < 5 ? 4 : 3, "reach", place, 6);
            e.gives(place == 0 ? 1 : 7, "reach", place, 7);
            e.gives(place == 0 ? 1 : place < 5 ? 4 : 3, "reach", place, 8);
        }
    }

    /** "makes REACH greatest, of those the one with the lesser KIND, then OFFICE" */
    private static void openerOfMost() {
        String names = "place a;place b;place c;place d;land l;land m;kind k;kind n;office o;office p;";
        String roads = "road a b days 1 coin 0 ask k by l;road a c days 1 coin 0 ask n by l;road c d days 1 coin 0 ask n by m;";
        Edge e = new Edge(CHECK, names + roads + "law l takes k of p since 0;law l takes k of o since 5;law l takes n of o since 0;"
                + "law m takes n of p since 0;law l takes n of p since 9;law m takes n of o since 20;law m bars n of p since 30");
        e.gives(0, "person", 0);
        e.gives(1, "opener", 0, 4);
        e.gives(0, "opener", 0, 5);
        e.gives(0, "opener", 0, 8);
        e.gives(9, "opener", 0, 9);
        e.gives(8, "opener", 0, 20);
        e.gives(8, "opener", 0, 30);
        e.gives(1, "paper", 0, 0, 0, 4, 5);
        e.gives(1, "opener", 0, 3);
        e.gives(1, "opener", 0, 4);
        e.gives(8, "opener", 0, 5);
        e.gives(0, "opener", 0, 6);
        Edge last = new Edge(CHECK, "place a;place b;land l;kind ka;kind kb;kind kc;kind kd;kind ke;kind kf;"
                + "office oa;office ob;office oc;office od;office oe;office of;road a b days 1 coin 0 ask kf by l;"
                + "law l takes kf of of since 0;law l takes ke of oa since 0");
        last.gives(0, "person", 1);
        last.gives(45, "opener", 0, 0);
        last.gives(1, "reach", 0, 0);
    }

    /** "only if it grows": one paper must open a road that leads on. */
    private static void openerOnlyIfItGrows() {
        Edge e = new Edge(CHECK, "place a;place b;place c;land l;land m;kind k;kind n;office o;"
                + "road a b days 1 coin 0 ask k by l ask n by l;road b c days 1 coin 0 ask k by m;road a b days 1 coin 0 ask k by m ask k by m ask n by m;"
                + "law l takes k of o since 0;law l takes n of o since 0;law m takes k of o since 0");
        e.gives(0, "person", 0);
        e.gives(-2, "opener", 0, 0);
        e.gives(1, "paper", 0, 0, 0, 0, 0);
        e.gives(8, "opener", 0, 0);
        e.gives(-2, "opener", 0, 1);
        e.gives(2, "paper", 0, 1, 0, 0, 1);
        e.gives(-2, "opener", 0, 0);
        e.gives(3, "reach", 0, 0);
        e.gives(0, "opener", 0, 1);
        e.gives(1, "reach", 0, 1);
        // a road between places that are there already makes nothing grow
        Edge f = new Edge(CHECK, "place a;place b;land l;kind k;office o;road a b days 1 coin 0;road a b days 1 coin 0 ask k by l;"
                + "law l takes k of o since 0");
        f.gives(0, "person", 0);
        f.gives(-2, "opener", 0, 0);
        f.gives(0, "open", 0, 1, 0);
    }

    /** "one PAPER more, lasting that DAY": also where there is no room for it, and nobody has it behind the call. */
    private static void openerOnThatDay() {
        Edge e = new Edge(CHECK, "place a;place b;land l;kind k;office o;office p;road a b days 1 coin 0 ask k by l;"
                + "law l takes k of o since 999;law l takes k of p since 0 until 0");
        e.gives(0, "person", 0);
        e.gives(1, "opener", 0, 0);
        e.gives(-2, "opener", 0, 1);
        e.gives(-2, "opener", 0, 998);
        e.gives(0, "opener", 0, 999);
        e.holds(0);
        e.gives(0, "open", 0, 0, 999);
        for (int i = 1; i <= 8; i++) {
            e.gives(i, "paper", 0, 0, 0, 500, 500);
        }
        e.gives(0, "opener", 0, 999);
        e.gives(1, "opener", 0, 0);
        e.refuses(3, "paper", 0, 0, 0, 999, 999);
    }

    // ---- IV

    /** The empty set carries where no post is; no set does where no road is. */
    private static void stampsOfNothing() {
        Edge e = new Edge(CHECK, "place a;place b;place c;land l;kind k;office o;road a b days 1 coin 7;road b c days 1 coin 7 ask k by l;"
                + "law l takes k of o since 0");
        e.tells(-1, "bought");
        e.gives(0, "least", 0, 1, 0);
        e.tells(0, "bought");
        e.refuses(6, "least", 0, 2, 0);
        e.tells(0, "bought");
        e.gives(0, "stamp", 0, 0, 0);
        e.gives(0, "least", 0, 2, 0);
        e.tells(1, "bought");
        e.gives(0, "least", 1, 0, 0);
        e.tells(0, "bought");
        e.gives(0, "least", 2, 2, 0);
        e.tells(0, "bought");
        Edge none = new Edge(CHECK, "place a;place b;kind k;office o");
        none.refuses(6, "least", 0, 1, 0);
        none.gives(0, "stamp", 0, 0, 0);
        none.refuses(6, "least", 0, 1, 999);
        none.tells(-1, "bought");
        none.gives(0, "least", 1, 1, 0);
        none.tells(0, "bought");
    }

    /** "the set of least coin that does, of as cheap ones that of fewest STAMPS, then the lesser number as bits" */
    private static void stampsByCoinThenFewest() {
        String book = "place a;place b;land l;land m;kind k;kind n;office o;office p;road a b days 1 coin 0 ask k by l ask n by m;"
                + "road a b days 1 coin 0 ask n by l;law l takes k of o since 0;law l takes k of p since 0;"
                + "law m takes n of o since 0;law m takes n of p since 0;law l takes n of p since 0";
        Edge e = new Edge(CHECK, book);
        e.gives(0, "stamp", 0, 0, 5);
        e.gives(1, "stamp", 1, 0, 5);
        buys(e, 10, 3);
        e.gives(2, "stamp", 1, 1, 11);
        buys(e, 10, 3);
        e.gives(3, "stamp", 1, 1, 10);
        buys(e, 10, 8);
        e.gives(4, "stamp", 1, 1, 10);
        buys(e, 10, 8);
        e.gives(5, "stamp", 1, 1, 9);
        buys(e, 9, 32);
        e.gives(6, "stamp", 0, 1, 4);
        e.gives(7, "stamp", 1, 0, 5);
        buys(e, 9, 32);
        e.gives(8, "stamp", 0, 0, 3);
        buys(e, 8, 1 << 8 | 1 << 1);
        // as cheap and as few: the lesser number as bits, not the first stamp of all
        Edge f = new Edge(CHECK, book);
        f.gives(0, "stamp", 0, 0, 6);
        f.gives(1, "stamp", 0, 0, 5);
        f.gives(2, "stamp", 1, 0, 5);
        f.gives(3, "stamp", 1, 0, 4);
        buys(f, 9, 2 | 8);
        f.gives(4, "stamp", 0, 1, 5);
        buys(f, 9, 2 | 8);
        Edge g = new Edge(CHECK, book);
        g.gives(0, "stamp", 0, 0, 2);
        g.gives(1, "stamp", 0, 0, 1);
        g.gives(2, "stamp", 1, 0, 2);
        g.gives(3, "stamp", 1, 0, 1);
        g.gives(4, "stamp", 0, 0, 1);
        buys(g, 2, 2 | 8);
        // stamps for nothing are not bought but where they are needed
        Edge h = new Edge(CHECK, book);
        h.gives(0, "stamp", 0, 0, 0);
        h.gives(1, "stamp", 1, 0, 0);
        buys(h, 0, 3);
        h.gives(2, "stamp", 1, 1, 0);
        buys(h, 0, 4);
        h.gives(3, "stamp", 1, 1, 0);
        buys(h, 0, 4);
    }

    private static void buys(Edge e, int coin, int bits) {
        e.gives(coin, "least", 0, 1, 0);
        e.tells(bits, "bought");
        e.gives(coin, "least", 1, 0, 0);
        e.tells(bits, "bought");
    }

    /** All nine stamps are needed, one for each post of three roads. */
    private static void allStamps() {
        StringBuilder text = new StringBuilder("place a;place b;place c;place d;land l;land m;land n;kind k;kind h;kind j;office o;office p;office q");
        String[] kinds = {"k", "h", "j"};
        for (int road = 0; road < 3; road++) {
            text.append(";road ").append((char) ('a' + road)).append(" ").append((char) ('b' + road)).append(" days 1 coin 0");
            for (String kind : kinds) {
                text.append(" ask ").append(kind).append(" by ").append("lmn".charAt(road));
            }
        }
        for (int i = 0; i < 9; i++) {
            text.append(";law ").append("lmn".charAt(i / 3)).append(" takes ").append(kinds[i % 3]).append(" of ").append("opq".charAt(i / 3))
                    .append(" since 0");
        }
        Edge e = new Edge(CHECK, text.toString());
        for (int i = 0; i < 9; i++) {
            e.refuses(6, "least", 0, 3, 0);
            e.gives(i, "stamp", i % 3, i / 3, 999);
        }
        e.gives(9 * 999, "least", 0, 3, 0);
        e.tells(511, "bought");
        e.gives(6 * 999, "least", 3, 1, 999);
        e.tells(504, "bought");
        e.gives(0, "least", 3, 3, 0);
        e.tells(0, "bought");
    }

    /** "all of whose POSTS' LANDS TAKE (as KNOWN that DAY) some STAMP of the set of the POST's KIND" */
    private static void stampsAndDays() {
        Edge e = new Edge(CHECK, "place a;place b;land l;land m;kind k;kind n;office o;road a b days 1 coin 0 ask k by l;"
                + "law l takes k of o since 10 until 20;law l takes n of o since 0;law m takes k of o since 0");
        e.gives(0, "stamp", 1, 0, 1);
        e.refuses(6, "least", 0, 1, 15);
        e.gives(1, "stamp", 0, 0, 2);
        int[][] rows = {{9, 0}, {10, 1}, {20, 1}, {21, 0}, {0, 0}, {999, 0}};
        for (int[] row : rows) {
            if (row[1] == 1) {
                e.gives(2, "least", 0, 1, row[0]);
                e.tells(2, "bought");
            } else {
                e.refuses(6, "least", 0, 1, row[0]);
            }
        }
        // a load needs no paper and no person, and a person's papers are no stamps
        e.gives(0, "person", 0);
        e.gives(1, "paper", 0, 0, 0, 0, 999);
        e.refuses(6, "least", 0, 1, 9);
        e.gives(0, "open", 0, 0, 9);
        e.gives(1, "open", 0, 0, 10);
        e.gives(1, "person", 0);
        e.gives(0, "open", 1, 0, 10);
    }

    /** Promise 23: "The STAMPS of the latest least() that told coin, as bits; NONE without one" */
    private static void boughtLately() {
        Edge e = new Edge(CHECK, "place a;place b;place c;land l;kind k;office o;road a b days 1 coin 0 ask k by l;law l takes k of o since 1");
        e.tells(-1, "bought");
        e.refuses(6, "least", 0, 1, 1);
        e.refuses(1, "least", 0, 3, 1);
        e.refuses(2, "least", 0, 1, 1000);
        e.tells(-1, "bought");
        e.gives(0, "stamp", 0, 0, 8);
        e.tells(-1, "bought");
        e.gives(8, "least", 0, 1, 1);
        e.gives(1, "stamp", 0, 0, 7);
        e.tells(1, "bought");
        e.refuses(6, "least", 0, 2, 1);
        e.refuses(6, "least", 0, 1, 0);
        e.refuses(1, "least", -1, 1, 1);
        e.refuses(2, "least", 0, 1, -1);
        e.tells(1, "bought");
        e.gives(7, "least", 0, 1, 1);
        e.tells(2, "bought");
        e.findsFault("book", "place a;place a", 3, 14);
        e.tells(2, "bought");
        e.takesBook("place a", 0);
        e.tells(-1, "bought");
    }

    // ---- V

    private static int[] paper(int kind, int office, int from) {
        return new int[] {kind, office, from, 999};
    }

    /** "born of a PERSON (the PARENT), TODAY, at the PARENT's PLACE"; "A GIFT without CASES: from the birth on" */
    private static void birth() {
        Edge e = new Edge(CHECK, "place a;place b;kind k;kind n;office o;office p;road a b days 9 coin 9;"
                + "gift k of o after 0;gift n of p after 1 if born b");
        e.gives(0, "person", 0);
        e.holds(0);
        e.gives(1, "child", 0);
        e.holds(1, paper(0, 0, 0));
        e.gives(1, "move", 0, 1);
        e.gives(3, "pass", 3);
        e.gives(2, "child", 0);
        e.holds(2, paper(0, 0, 3), paper(1, 1, 4));
        e.gives(3, "first", 2, 1, 3);
        e.gives(9, "first", 1, 1, 0);
        // where the child goes, or the parent, changes nothing any more
        e.gives(1, "move", 2, 0);
        e.gives(1, "move", 1, 1);
        e.holds(1, paper(0, 0, 0));
        e.gives(3, "child", 2);
        e.holds(3, paper(0, 0, 3));
        e.gives(4, "child", 1);
        e.holds(4, paper(0, 0, 3), paper(1, 1, 4));
        e.holds(0);
    }

    /** "(to 999; none, if that is beyond)" */
    private static void birthOnTheLastDays() {
        Edge e = new Edge(CHECK, "place a;kind k;kind n;office o;office p;gift k of o after 400;gift k of p after 1;gift n of o after 0;"
                + "gift n of p after 0 if holds n of o if born a if parent n of o");
        e.gives(0, "person", 0);
        e.gives(1, "paper", 0, 1, 0, 999, 999);
        e.gives(400, "pass", 400);
        e.gives(599, "pass", 199);
        e.gives(1, "child", 0);
        e.holds(1, paper(1, 0, 599), paper(0, 1, 600), paper(0, 0, 999));
        e.gives(600, "pass", 1);
        e.gives(2, "child", 0);
        e.holds(2, paper(1, 0, 600), paper(0, 1, 601));
        e.gives(998, "pass", 398);
        e.gives(3, "child", 0);
        e.holds(3, paper(1, 0, 998), paper(0, 1, 999));
        e.gives(999, "pass", 1);
        e.gives(4, "child", 0);
        e.holds(4, paper(1, 0, 999), paper(1, 1, 999));
        // of a gift and of another that waits for day 999, both are given
        Edge f = new Edge(CHECK, "place a;kind k;kind n;office o;gift k of o after 0;gift n of o after 400");
        f.gives(0, "person", 0);
        f.gives(400, "pass", 400);
        f.gives(599, "pass", 199);
        f.gives(1, "child", 0);
        f.holds(1, paper(0, 0, 599), paper(1, 0, 999));
    }

    /** "parent: on the birth, if the PARENT has such a PAPER then" */
    private static void parentOnTheBirth() {
        Edge e = new Edge(CHECK, "place a;kind k;kind n;office o;office p;gift n of p after 0 if parent k of o");
        int[][] papers = { // kind, office, from, to, whether the child gets the gift on day 10
            {0, 0, 10, 10, 1}, {0, 0, 0, 9, 0}, {0, 0, 11, 999, 0}, {0, 0, 0, 999, 1}, {0, 1, 0, 999, 0}, {1, 0, 0, 999, 0},
            {0, 0, 0, 10, 1}, {0, 0, 10, 999, 1}};
        for (int i = 0; i < papers.length; i++) {
            e.gives(i, "person", 0);
            e.gives(1, "paper", i, papers[i][0], papers[i][1], papers[i][2], papers[i][3]);
        }
        e.gives(8, "person", 0);
        e.gives(10, "pass", 10);
        for (int i = 0; i < papers.length; i++) {
            e.gives(9 + i, "child", i);
            if (papers[i][4] == 1) {
                e.holds(9 + i, paper(1, 1, 10));
            } else {
                e.holds(9 + i);
            }
        }
        e.gives(17, "child", 8);
        e.holds(17);
        // one of several papers is enough, be it the last
        e.gives(2, "paper", 1, 0, 0, 10, 10);
        e.gives(18, "child", 1);
        e.holds(18, paper(1, 1, 10));
        // the child's own papers are not the parent's
        Edge f = new Edge(CHECK, "place a;kind k;kind n;office o;gift k of o after 0;gift n of o after 1 if parent k of o");
        f.gives(0, "person", 0);
        f.gives(1, "child", 0);
        f.holds(1, paper(0, 0, 0));
        f.gives(2, "child", 1);
        f.holds(2, paper(0, 0, 0), paper(1, 0, 1));
    }

    /** "holds: from the first DAY on at which they have such a PAPER, the birth at the earliest" */
    private static void holdsFromTheFirstDay() {
        Edge e = new Edge(CHECK, "place a;kind k;kind n;kind m;office o;office p;gift k of o after 5;gift n of o after 0 if holds k of o;"
                + "gift m of o after 400 if holds n of o;gift m of p after 3 if holds m of o if holds k of o;gift n of p after 0 if holds n of p");
        e.gives(0, "person", 0);
        e.gives(2, "pass", 2);
        e.gives(1, "child", 0);
        e.holds(1, paper(0, 0, 7), paper(1, 0, 7), paper(2, 0, 407), paper(2, 1, 410));
        e.gives(402, "pass", 400);
        e.gives(589, "pass", 187);
        e.gives(2, "child", 0);
        e.holds(2, paper(0, 0, 594), paper(1, 0, 594), paper(2, 0, 994), paper(2, 1, 997));
        e.gives(592, "pass", 3);
        e.gives(3, "child", 0);
        e.holds(3, paper(0, 0, 597), paper(1, 0, 597), paper(2, 0, 997));
        // what the parent has is not what the child holds
        Edge f = new Edge(CHECK, "place a;kind k;kind n;office o;gift n of o after 0 if holds k of o");
        f.gives(0, "person", 0);
        f.gives(1, "paper", 0, 0, 0, 0, 999);
        f.gives(1, "child", 0);
        f.holds(1);
        f.gives(1, "paper", 1, 0, 0, 0, 999);
        f.holds(1, paper(0, 0, 0));
    }

    /** "GIFTS are given as soon as they can be, by DAYS; of one DAY by numbers" */
    private static void giftsOfOneDay() {
        Edge e = new Edge(CHECK, "place a;kind k;kind n;kind m;office o;office p;gift k of o after 2;gift k of p after 1;gift n of o after 2;"
                + "gift n of p after 1;gift m of o after 0;gift m of p after 2 if holds m of o");
        e.gives(0, "person", 0);
        e.gives(1, "child", 0);
        e.holds(1, paper(2, 0, 0), paper(0, 1, 1), paper(1, 1, 1), paper(0, 0, 2), paper(1, 0, 2), paper(2, 1, 2));
        // a gift that another one of its day opens comes then, with its own number
        Edge f = new Edge(CHECK, "place a;kind k;kind n;kind m;office o;gift k of o after 0 if holds n of o;gift n of o after 4;gift m of o after 4");
        f.gives(0, "person", 0);
        f.gives(1, "child", 0);
        f.holds(1, paper(1, 0, 4), paper(0, 0, 4), paper(2, 0, 4));
    }

    /** "if they have none such (KIND, OFFICE) from that DAY or ahead of it"; "each once at most" */
    private static void giftsOnceAtMost() {
        Edge e = new Edge(CHECK, "place a;kind k;kind n;office o;office p;gift k of o after 5;gift k of o after 3;gift k of o after 3;"
                + "gift k of p after 4;gift n of o after 4;gift n of o after 0 if holds n of o;gift k of o after 0 if holds k of o");
        e.gives(0, "person", 0);
        e.gives(1, "child", 0);
        e.holds(1, paper(0, 0, 3), paper(0, 1, 4), paper(1, 0, 4));
    }

    /** "as long as there is room for a PAPER": the first eight by days; a gift that isn't given takes no room. */
    private static void giftsAsLongAsThereIsRoom() {
        StringBuilder text = new StringBuilder("place a;kind k;kind n;kind m;office o;office p;office q;office r");
        String[] kinds = {"k", "n", "m"};
        for (int i = 0; i < 12; i++) {
            text.append(";gift ").append(kinds[i / 4]).append(" of ").append("opqr".charAt(i % 4)).append(" after ").append(20 - i);
        }
        Edge e = new Edge(CHECK, text.toString());
        e.gives(0, "person", 0);
        e.gives(1, "child", 0);
        int[][] want = new int[8][];
        for (int i = 0; i < 8; i++) {
            want[i] = paper((11 - i) / 4, (11 - i) % 4, 9 + i);
        }
        e.holds(1, want);
        e.refuses(3, "paper", 1, 0, 0, 0, 0);
        // four that are had already, then eight
        StringBuilder again = new StringBuilder("place a;kind k;kind n;office o;office p;office q;office r");
        for (int i = 0; i < 12; i++) {
            int paper = Math.max(0, i - 4);
            again.append(";gift ").append(kinds[paper / 4]).append(" of ").append("opqr".charAt(paper % 4)).append(" after 1");
        }
        Edge f = new Edge(CHECK, again.toString());
        f.gives(0, "person", 0);
        f.gives(1, "child", 0);
        for (int i = 0; i < 8; i++) {
            want[i] = paper(i / 4, i % 4, 1);
        }
        f.holds(1, want);
        // what would open the last gift finds no room, so it doesn't open it
        Edge g = new Edge(CHECK, text.toString().replace("gift m of r after 9", "gift m of r after 0 if holds k of o")
                .replace("gift m of q after 10", "gift m of q after 10 if holds k of o"));
        g.gives(0, "person", 0);
        g.gives(1, "child", 0);
        for (int i = 0; i < 8; i++) {
            want[i] = paper((9 - i) / 4, (9 - i) % 4, 11 + i);
        }
        g.holds(1, want);
    }

    /** "if all CASES hold", up to three of them, from "the last of them" on; the twelfth gift too */
    private static void allCases() {
        StringBuilder text = new StringBuilder("place a;place b;kind k;kind n;office o;office p");
        for (int i = 0; i < 9; i++) {
            text.append(";gift k of o after 400 if born b");
        }
        text.append(";gift k of o after 2;gift k of p after 6;gift n of p after 1 if born a if holds k of o if holds k of p");
        Edge e = new Edge(CHECK, text.toString());
        e.gives(0, "person", 0);
        e.gives(1, "person", 1);
        e.gives(2, "child", 0);
        e.holds(2, paper(0, 0, 2), paper(0, 1, 6), paper(1, 1, 7));
        e.gives(3, "child", 1);
        e.holds(3, paper(0, 0, 2), paper(0, 1, 6));
        for (String failing : new String[] {"if born b if born a if born a", "if born a if born b if born a", "if born a if born a if born b",
            "if born a if parent k of o if born a", "if parent k of o if born a", "if born a if holds k of o", "if holds n of o"}) {
            Edge f = new Edge(CHECK, "place a;place b;kind k;kind n;office o;gift n of o after 0 " + failing);
            f.gives(0, "person", 0);
            f.gives(1, "child", 0);
            f.holds(1);
        }
    }

    /** "from TODAY on"; "of those on the PERSON in the MATTER from that DAY or ahead of it" */
    private static void judgmentsFromToday() {
        Edge e = new Edge(CHECK, "place a;land l;kind k;office o;law l takes k of o since 0");
        e.gives(0, "person", 0);
        e.gives(1, "person", 0);
        e.gives(0, "judge", 0, 0, 0, 0, 11);
        e.gives(11, "binds", 0, 0, 0, 0);
        e.gives(400, "pass", 400);
        e.gives(1, "judge", 0, 0, 0, 0, 22);
        e.gives(2, "judge", 0, 0, 1, 0, 33);
        e.gives(3, "judge", 0, 0, 0, 9, 44);
        e.gives(11, "binds", 0, 0, 0, 399);
        e.gives(22, "binds", 0, 0, 0, 400);
        e.gives(22, "binds", 0, 0, 0, 999);
        e.gives(-2, "binds", 1, 0, 0, 399);
        e.gives(33, "binds", 1, 0, 0, 400);
        e.gives(-2, "binds", 0, 9, 0, 399);
        e.gives(44, "binds", 0, 9, 0, 400);
        e.gives(-2, "binds", 0, 8, 0, 999);
        e.gives(-2, "binds", 1, 9, 0, 999);
        e.gives(800, "pass", 400);
        e.gives(999, "pass", 199);
        e.gives(4, "judge", 0, 0, 0, 0, 99);
        e.gives(22, "binds", 0, 0, 0, 998);
        e.gives(99, "binds", 0, 0, 0, 999);
    }

    /** "with a VALUE (0 .. 99)"; promise 26: "-2 if there is none"; promise 27: "(each has one)" */
    private static void judgmentsOfValueZero() {
        Edge e = new Edge(CHECK, "place a;land l;land m;land n;kind k;office o;office p;law l takes k of o since 0;law m takes k of p since 0");
        e.gives(0, "person", 0);
        e.gives(0, "unlike", 0, 0, 0);
        e.gives(0, "judge", 0, 0, 0, 0, 0);
        e.gives(0, "binds", 0, 0, 0, 0);
        e.gives(-2, "binds", 0, 0, 1, 0);
        e.gives(0, "unlike", 0, 0, 0);
        e.gives(1, "judge", 0, 1, 0, 0, 99);
        e.gives(99, "binds", 0, 0, 1, 0);
        e.gives(-2, "binds", 0, 0, 2, 0);
        e.gives(1, "unlike", 0, 0, 0);
        e.gives(2, "judge", 0, 1, 0, 0, 0);
        e.gives(0, "unlike", 0, 0, 0);
        e.gives(0, "unlike", 0, 1, 0);
    }

    /** "whose KIND of whose OFFICE the LAND TAKES then (as KNOWN then), the one of the greatest number" */
    private static void judgmentsTaken() {
        Edge e = new Edge(CHECK, "place a;land l;kind k;kind n;office o;office p;law l takes k of o since 0 until 50;law l takes k of p since 20 until 40;"
                + "law l takes n of o since 30");
        e.gives(0, "person", 0);
        e.gives(0, "judge", 1, 0, 0, 0, 3);
        e.gives(1, "judge", 0, 0, 0, 0, 1);
        e.gives(2, "judge", 0, 1, 0, 0, 2);
        e.gives(3, "judge", 1, 1, 0, 0, 4);
        int[][] rows = {{0, 1}, {19, 1}, {20, 2}, {29, 2}, {40, 2}, {41, 1}, {50, 1}, {51, 3}, {999, 3}};
        for (int[] row : rows) {
            e.gives(row[1], "binds", 0, 0, 0, row[0]);
        }
        e.gives(60, "pass", 60);
        e.laws("law l takes n of p since 0 until 70");
        e.gives(3, "binds", 0, 0, 0, 59);
        e.gives(4, "binds", 0, 0, 0, 60);
        e.gives(4, "binds", 0, 0, 0, 70);
        e.gives(3, "binds", 0, 0, 0, 71);
        e.gives(1, "binds", 0, 0, 0, 0);
    }

    /** "How many pairs of LANDS have BINDING ones of unlike VALUES" */
    private static void allLandsUnlike() {
        StringBuilder text = new StringBuilder("place a;kind k;office oa;office ob;office oc;office od;office oe");
        for (char c = 'a'; c <= 'e'; c++) {
            text.append(";land l").append(c).append(";law l").append(c).append(" takes k of o").append(c).append(" since 0");
        }
        Edge e = new Edge(CHECK, text.toString());
        e.gives(0, "person", 0);
        int[] pairs = {0, 1, 3, 6, 10};
        for (int i = 0; i < 5; i++) {
            e.gives(i, "judge", 0, i, 0, 9, 10 * i);
            e.gives(pairs[i], "unlike", 0, 9, 0);
        }
        e.gives(5, "judge", 0, 4, 0, 9, 0);
        e.gives(9, "unlike", 0, 9, 0);
        e.gives(6, "judge", 0, 2, 0, 9, 30);
        e.gives(8, "unlike", 0, 9, 999);
        e.gives(0, "unlike", 0, 8, 999);
        // lands without one, be they the first, are in no pair
        Edge f = new Edge(CHECK, text.toString());
        f.gives(0, "person", 0);
        for (int i = 0; i < 5; i++) {
            f.gives(i, "judge", 0, 4 - i, 0, 0, 99 - i);
            f.gives(pairs[i], "unlike", 0, 0, 0);
        }
    }

    // ---- VI

    /** "two words (0 .. 15) that may not both stand in what is signed (a word with itself: it may not stand at all)" */
    private static void wordsThatQuarrel() {
        for (int[] pair : new int[][] {{0, 15}, {15, 0}, {7, 8}, {3, 3}, {0, 0}, {15, 15}}) {
            Edge e = new Edge(CHECK, "place a");
            int one = 1 << pair[0];
            int other = 1 << pair[1];
            boolean itself = pair[0] == pair[1];
            e.gives(0, "clause", 0, one);
            e.gives(0, "clause", 8, other);
            e.gives(2, "signed");
            e.gives(1, "quarrel", pair[0], pair[1]);
            e.signs(itself ? -2 : 0, -2, -2, -2, -2, -2, -2, -2, -2);
            // both in one clause
            e.gives(0, "clause", 4, one | other);
            e.signs(itself ? -2 : 0, -2, -2, -2, -2, -2, -2, -2, -2);
            // all words but these
            e.gives(1, "clause", 4, 65_535 & ~one & ~other);
            e.signs(itself ? -2 : 0, -2, -2, -2, 1, -2, -2, -2, -2);
            // all but one of them
            e.gives(1, "clause", 8, 65_535 & ~other);
            e.signs(itself ? -2 : 0, -2, -2, -2, 1, -2, -2, -2, 1);
        }
    }

    /** "the one with the lesser CLAUSE of the first THING where they differ (none behind all)" */
    private static void noneBehindAll() {
        Edge e = new Edge(CHECK, "place a");
        e.gives(0, "clause", 0, 1);
        e.gives(0, "clause", 1, 2);
        e.gives(1, "quarrel", 0, 1);
        e.signs(0, -2, -2);
        e.gives(1, "clause", 1, 4);
        e.signs(0, 1, -2);
        e.gives(2, "quarrel", 2, 0);
        e.signs(0, -2, -2);
        e.gives(1, "clause", 0, 8);
        e.signs(1, 0, -2);
        e.gives(3, "quarrel", 3, 1);
        e.signs(1, 1, -2);
        e.gives(4, "quarrel", 3, 2);
        e.signs(0, -2, -2);
        // of two choices of the first thing the lesser, though the second thing's is greater then
        Edge f = new Edge(CHECK, "place a");
        f.gives(0, "clause", 3, 1);
        f.gives(1, "clause", 3, 2);
        f.gives(0, "clause", 5, 4);
        f.gives(1, "clause", 5, 0);
        f.gives(1, "quarrel", 0, 2);
        f.signs(-2, -2, -2, 0, -2, 1, -2, -2, -2);
        f.gives(2, "quarrel", 0, 0);
        f.signs(-2, -2, -2, 1, -2, 0, -2, -2, -2);
    }

    /** "of most THINGS", be it by no clause of the first ones. */
    private static void mostThingsFirst() {
        Edge e = new Edge(CHECK, "place a");
        e.gives(0, "clause", 0, 1);
        for (int thing = 1; thing < 9; thing++) {
            e.gives(0, "clause", thing, 1 << thing);
        }
        e.signs(0, 0, 0, 0, 0, 0, 0, 0, 0);
        e.gives(1, "quarrel", 0, 8);
        e.signs(0, 0, 0, 0, 0, 0, 0, 0, -2);
        e.gives(2, "quarrel", 7, 0);
        e.signs(-2, 0, 0, 0, 0, 0, 0, 0, 0);
        e.gives(1, "clause", 0, 1 << 9);
        e.signs(1, 0, 0, 0, 0, 0, 0, 0, 0);
        e.gives(3, "quarrel", 9, 9);
        e.signs(-2, 0, 0, 0, 0, 0, 0, 0, 0);
        e.gives(2, "clause", 0, 0);
        e.signs(2, 0, 0, 0, 0, 0, 0, 0, 0);
    }

    /** Promise 31: "Which CLAUSE of a THING is SIGNED (as it is now)": behind every clause and quarrel, asked for or not. */
    private static void signedAsItIsNow() {
        Edge e = new Edge(CHECK, "place a");
        e.gives(-2, "signs", 0);
        e.gives(0, "clause", 0, 3);
        e.gives(0, "signs", 0);
        e.gives(1, "quarrel", 1, 0);
        e.gives(-2, "signs", 0);
        e.gives(1, "clause", 0, 3);
        e.gives(-2, "signs", 0);
        e.gives(2, "clause", 0, 2);
        e.gives(2, "signs", 0);
        e.gives(2, "quarrel", 1, 1);
        e.gives(-2, "signs", 0);
        e.gives(0, "signed");
        e.gives(3, "clause", 0, 1);
        e.gives(3, "signs", 0);
        e.gives(1, "signed");
        // a refused clause or quarrel changes nothing of it
        e.refuses(3, "clause", 0, 0);
        e.refuses(2, "quarrel", 0, 16);
        e.refuses(2, "clause", 1, 65_536);
        e.gives(3, "signs", 0);
        e.gives(-2, "signs", 1);
        e.takesBook("place a", 0);
        e.gives(-2, "signs", 0);
        e.gives(0, "signed");
    }

    /** "makes price times units owed in the name that it has then; the name can be changed (what was owed stays)" */
    private static void owedInAName() {
        Edge e = new Edge(CHECK, "place a");
        for (int person = 0; person < 3; person++) {
            e.gives(person, "person", 0);
        }
        e.gives(0, "contract", 0, 1);
        e.gives(1, "contract", 0, 999);
        e.tells(0, "owed", 0);
        e.gives(1, "burn", 0, 1);
        e.gives(1000, "burn", 1, 1);
        e.gives(1, "rename", 0, 2);
        e.tells(1000, "owed", 0);
        e.tells(0, "owed", 2);
        e.gives(1000, "burn", 0, 1000);
        e.tells(1000, "owed", 0);
        e.gives(1, "rename", 0, 0);
        e.gives(1002, "burn", 0, 2);
        e.tells(1000, "owed", 2);
        e.tells(0, "owed", 1);
        e.refuses(2, "burn", 0, 1001);
        e.refuses(2, "burn", 0, 0);
        e.refuses(1, "burn", 2, 1);
        e.refuses(5, "rename", 0, 0);
        e.tells(1002, "owed", 0);
        e.gives(3, "child", 0);
        e.tells(0, "owed", 3);
    }

    /** As much as an object's calls can make owed: nothing runs over. */
    private static void greatDebts() {
        Edge e = new Edge(CHECK, "place a");
        e.ask("person", 0);
        e.ask("contract", 0, 999);
        for (int i = 1; i <= 490; i++) {
            CHECK.due("burn " + i, e.ask("burn", 0, 1000), 999_000L * i);
        }
        e.tells(999_000L * 490, "owed", 0);
    }
}
