import java.util.ArrayList;
import java.util.Arrays;
import java.util.List;

/**
 * The numbers that each call takes (too small, too large, at their bounds), the room that there is
 * (empty and full), and what a refused call leaves as it was: promise by promise, for all calls.
 */
public final class NumberEdgeTest {
    private static final Check CHECK = new Check("NumberEdgeTest");
    private static final int LOW = Integer.MIN_VALUE;
    private static final int HIGH = Integer.MAX_VALUE;

    /** Unlike numbers of all sorts, so that a number of one can't be looked up among another's. */
    private static final String STATE = "place pa;place pb;place pc;place pd;land la;land lb;land lc;"
            + "office oa;office ob;office oc;office od;office oe;kind ka;kind kb;"
            + "road pa pb days 1 coin 1;road pb pc days 2 coin 2 ask ka by la;road pc pd days 3 coin 3 ask kb by lc;"
            + "road pa pd days 4 coin 4 ask ka by lb;road pa pc days 5 coin 5 ask kb by la;road pb pd days 6 coin 6 ask ka by lc;"
            + "law la takes ka of oa since 0;law lb takes ka of ob since 5;law lc takes kb of oe since 2 until 9;"
            + "gift kb of od after 3 if born pa";

    /** The sorts of a call's numbers: the least, the greatest, and the trouble beyond them. */
    private enum Sort {
        PLACE(0, 3, 1), LAND(0, 2, 1), OFFICE(0, 4, 1), KIND(0, 1, 1), ROAD(0, 5, 1), PERSON(0, 6, 1), CONTRACT(0, 7, 1),
        THING(0, 8, 1), DAY(0, 999, 2), DAYS(1, 400, 2), COIN(0, 999, 2), MATTER(0, 9, 2), VALUE(0, 99, 2),
        WORDS(0, 65_535, 2), WORD(0, 15, 2), PRICE(1, 999, 2), UNITS(1, 1000, 2);

        final int low;
        final int high;
        final int trouble;

        Sort(int low, int high, int trouble) {
            this.low = low;
            this.high = high;
            this.trouble = trouble;
        }
    }

    /** A call with numbers that are granted, and their sorts. */
    private record Row(String name, int[] fit, Sort... sorts) {
    }

    private static int[] fit(int... numbers) {
        return numbers;
    }

    private static final List<Row> ROWS = List.of(
            new Row("pass", fit(1), Sort.DAYS),
            new Row("takes", fit(0, 0, 0, 0, 0), Sort.LAND, Sort.KIND, Sort.OFFICE, Sort.DAY, Sort.DAY),
            new Row("why", fit(0, 0, 0, 0, 0), Sort.LAND, Sort.KIND, Sort.OFFICE, Sort.DAY, Sort.DAY),
            new Row("person", fit(0), Sort.PLACE),
            new Row("paper", fit(0, 0, 0, 0, 999), Sort.PERSON, Sort.KIND, Sort.OFFICE, Sort.DAY, Sort.DAY),
            new Row("move", fit(0, 1), Sort.PERSON, Sort.PLACE),
            new Row("is", fit(0, 0, 0), Sort.PERSON, Sort.KIND, Sort.DAY),
            new Row("nowhere", fit(0, 0), Sort.KIND, Sort.DAY),
            new Row("open", fit(0, 0, 0), Sort.PERSON, Sort.ROAD, Sort.DAY),
            new Row("first", fit(0, 0, 0), Sort.PERSON, Sort.PLACE, Sort.DAY),
            new Row("cheap", fit(0, 0, 0), Sort.PERSON, Sort.PLACE, Sort.DAY),
            new Row("reach", fit(0, 0), Sort.PERSON, Sort.DAY),
            new Row("opener", fit(0, 0), Sort.PERSON, Sort.DAY),
            new Row("stamp", fit(0, 0, 0), Sort.KIND, Sort.OFFICE, Sort.COIN),
            new Row("least", fit(0, 0, 0), Sort.PLACE, Sort.PLACE, Sort.DAY),
            new Row("child", fit(0), Sort.PERSON),
            new Row("judge", fit(0, 0, 0, 0, 0), Sort.KIND, Sort.OFFICE, Sort.PERSON, Sort.MATTER, Sort.VALUE),
            new Row("binds", fit(0, 0, 0, 0), Sort.PERSON, Sort.MATTER, Sort.LAND, Sort.DAY),
            new Row("unlike", fit(0, 0, 0), Sort.PERSON, Sort.MATTER, Sort.DAY),
            new Row("clause", fit(0, 0), Sort.THING, Sort.WORDS),
            new Row("quarrel", fit(0, 0), Sort.WORD, Sort.WORD),
            new Row("signs", fit(0), Sort.THING),
            new Row("contract", fit(0, 1), Sort.PERSON, Sort.PRICE),
            new Row("burn", fit(0, 1), Sort.CONTRACT, Sort.UNITS),
            new Row("rename", fit(0, 1), Sort.CONTRACT, Sort.PERSON));

    public static void main(String[] args) {
        for (Row row : ROWS) {
            atBounds(row);
            beyondBounds(row);
            twoAtOnce(row);
            withoutBook(row);
        }
        quietNumbers();
        paperDays();
        toBelowFrom();
        passing();
        thereAlready();
        emptyBook();
        emptySorts();
        fullOfPersons();
        fullOfPapers();
        fullOfStamps();
        fullOfJudgments();
        fullOfClauses();
        noClauseMayStand();
        fullOfQuarrels();
        fullOfContracts();
        fullOfAll();
        CHECK.end();
    }

    /** Seven persons, eight contracts, and some of all the rest, within its room. */
    private static Edge state() {
        Edge e = new Edge(CHECK, STATE);
        for (int i = 0; i < 7; i++) {
            e.ask("person", i % 4);
            e.ask("paper", i, i % 2, i % 5, i, 900 + i);
        }
        for (int i = 0; i < 8; i++) {
            e.ask("contract", i % 7, i + 1);
        }
        e.ask("burn", 1, 10);
        e.ask("stamp", 0, 1, 7);
        e.ask("stamp", 1, 4, 2);
        e.ask("least", 0, 1, 0);
        e.ask("judge", 0, 0, 0, 0, 5);
        e.ask("clause", 0, 1);
        e.ask("clause", 1, 6);
        e.ask("quarrel", 0, 1);
        return e;
    }

    /** What an object answers to a row of questions that change nothing. */
    private static long[] survey(Edge e) {
        List<Long> all = new ArrayList<>();
        for (int what = 0; what <= 13; what++) {
            all.add(e.ask("count", what));
        }
        all.add(e.ask("bought"));
        all.add(e.ask("fault"));
        for (int person = 0; person <= 7; person++) {
            for (int i = 0; i < 8; i++) {
                all.add(e.ask("held", person, i / 4, i % 4));
            }
            all.add(e.ask("owed", person));
            all.add(e.ask("first", person, person % 4, 3));
            all.add(e.ask("reach", person, 5));
            all.add(e.ask("binds", person, 0, 0, 5));
        }
        for (int thing = 0; thing < 9; thing++) {
            all.add(e.ask("signs", thing));
        }
        for (int i = 0; i < 30; i++) {
            all.add(e.ask("why", i % 3, i % 2, i % 5, 5, 5));
        }
        for (int contract = 0; contract < 8; contract++) {
            all.add(e.ask("burn", contract, 1));
        }
        return all.stream().mapToLong(Long::longValue).toArray();
    }

    private static int[] with(int[] fit, int at, int number) {
        int[] x = fit.clone();
        x[at] = number;
        return x;
    }

    /** The least and the greatest number of each sort are granted. */
    private static void atBounds(Row row) {
        for (int i = 0; i < row.fit.length; i++) {
            for (int number : new int[] {row.sorts[i].low, row.sorts[i].high}) {
                Edge e = state();
                int[] x = with(row.fit, i, number);
                e.ask("person", -1);
                e.ask(row.name, x);
                long trouble = e.ask("trouble");
                boolean granted = trouble == 0 || trouble == 6;
                boolean thereAlready = trouble == 5 && (row.name.equals("move") || row.name.equals("rename"));
                CHECK.that(granted || thereAlready, row.name + Arrays.toString(x) + " is refused by " + trouble);
            }
        }
    }

    /** Numbers beyond are refused by 1 or 2, and all is as it was. */
    private static void beyondBounds(Row row) {
        Edge e = state();
        for (int i = 0; i < row.fit.length; i++) {
            Sort sort = row.sorts[i];
            for (int number : new int[] {sort.low - 1, sort.high + 1, LOW, HIGH}) {
                e.refuses(sort.trouble, row.name, with(row.fit, i, number));
            }
        }
        CHECK.that(Arrays.equals(survey(e), survey(state())), "all is as it was behind refused calls of " + row.name);
    }

    /** "NONE: 1; 2": of two numbers that are wrong, the one that there is none such of is told. */
    private static void twoAtOnce(Row row) {
        Edge e = state();
        for (int i = 0; i < row.fit.length; i++) {
            for (int j = 0; j < row.fit.length; j++) {
                if (row.sorts[i].trouble == 1 && row.sorts[j].trouble == 2) {
                    int[] x = with(with(row.fit, i, row.sorts[i].high + 1), j, row.sorts[j].high + 1);
                    e.refuses(1, row.name, x);
                    e.refuses(1, row.name, with(with(row.fit, i, -1), j, row.sorts[j].low - 1));
                }
            }
        }
    }

    /** Promise 1: "No BOOK": every call but book() is refused by 1, also with a number out of bounds. */
    private static void withoutBook(Row row) {
        Edge e = new Edge(CHECK);
        e.refuses(1, row.name, row.fit);
        for (int i = 0; i < row.fit.length; i++) {
            e.refuses(1, row.name, with(row.fit, i, row.sorts[i].high + 1));
        }
        for (int what = 0; what <= 13; what++) {
            e.tells(0, "count", what);
        }
        e.tells(-1, "bought");
        e.tells(0, "fault");
        e.tells(-1, "where");
        e.tells(-1, "owed", 0);
        e.tells(-1, "held", 0, 0, 0);
        e.leadsNowhere(0, 0, 0, 0);
    }

    /** Promises 12, 35, 36 and 37: "NONE", "NONE for none such", "NoSuchElementException", "NONE for others". */
    private static void quietNumbers() {
        Edge e = state();
        for (int bad : new int[] {-1, LOW, HIGH, 7}) {
            e.tells(-1, "held", bad, 0, 0);
            e.tells(-1, "owed", bad);
            e.leadsNowhere(bad, 0, 0, 0);
        }
        for (int bad : new int[] {-1, LOW, HIGH, 1, 8}) {
            e.tells(-1, "held", 0, bad, 0);
            e.leadsNowhere(0, 0, 0, bad);
        }
        for (int bad : new int[] {-1, LOW, HIGH, 4}) {
            e.tells(-1, "held", 0, 0, bad);
            e.leadsNowhere(0, bad, 0, 0);
        }
        for (int bad : new int[] {-1, LOW, HIGH, 1000}) {
            e.leadsNowhere(0, 0, bad, 0);
        }
        for (int bad : new int[] {-1, LOW, HIGH, 14}) {
            e.tells(-1, "count", bad);
        }
        e.tells(0, "held", 0, 0, 0);
        e.tells(906, "held", 6, 0, 3);
        e.tells(20, "owed", 1);
        e.tells(0, "owed", 6);
        e.tells(0, "led", 0, 0, 0, 0);
        e.tells(0, "led", 0, 0, 999, 0);
    }

    /** "from a DAY to a DAY (both, 0 .. 999)" */
    private static void paperDays() {
        Edge e = state();
        int[][] days = {{0, 0}, {999, 999}, {0, 999}, {998, 999}};
        for (int i = 0; i < days.length; i++) {
            e.gives(i + 2, "paper", 6, 1, 4, days[i][0], days[i][1]);
            e.tells(days[i][0], "held", 6, i + 1, 2);
            e.tells(days[i][1], "held", 6, i + 1, 3);
        }
    }

    /** Promise 11: "2 (a DAY, or to below from)" */
    private static void toBelowFrom() {
        Edge e = state();
        for (int[] days : new int[][] {{1, 0}, {999, 998}, {999, 0}, {1000, 999}, {0, -1}, {-1, -2}, {1000, 1000}, {HIGH, LOW}}) {
            e.refuses(2, "paper", 0, 0, 0, days[0], days[1]);
        }
        e.refuses(1, "paper", 7, 0, 0, 1, 0);
        e.tells(-1, "held", 0, 1, 0);
        e.gives(2, "paper", 0, 0, 0, 500, 500);
    }

    /** Promise 7: "So many DAYS go by (1 .. 400)"; "2 (also beyond 999)" */
    private static void passing() {
        Edge e = new Edge(CHECK, "place a");
        e.gives(400, "pass", 400);
        e.gives(800, "pass", 400);
        for (int days : new int[] {200, 400, 401, 0, -1, -800, LOW, HIGH, HIGH - 800, HIGH - 799}) {
            e.refuses(2, "pass", days);
            e.tells(800, "count", 12);
        }
        e.gives(999, "pass", 199);
        e.refuses(2, "pass", 1);
        e.refuses(2, "pass", 0);
        e.refuses(2, "pass", 400);
        e.tells(999, "count", 12);
        e.takesBook("place a", 0);
        e.tells(0, "count", 12);
        e.gives(1, "pass", 1);
    }

    /** Promises 13 and 34: "5 (they are there)", "5 (it is theirs)" */
    private static void thereAlready() {
        Edge e = state();
        e.refuses(5, "move", 1, 1);
        e.gives(1, "move", 1, 3);
        e.refuses(5, "move", 1, 3);
        e.refuses(1, "move", 1, 4);
        e.refuses(1, "move", 7, 3);
        e.gives(1, "move", 1, 1);
        e.refuses(5, "rename", 2, 2);
        e.gives(1, "rename", 2, 6);
        e.refuses(5, "rename", 2, 6);
        e.refuses(1, "rename", 2, 7);
        e.refuses(1, "rename", 8, 6);
        e.gives(1, "rename", 2, 2);
    }

    /** A BOOK without lands, offices, kinds, roads, laws and gifts: empty, but no wrong number. */
    private static void emptyBook() {
        Edge e = new Edge(CHECK, "place a");
        e.gives(0, "person", 0);
        e.gives(0, "first", 0, 0, 0);
        e.gives(0, "cheap", 0, 0, 0);
        e.gives(1, "reach", 0, 0);
        e.gives(-2, "opener", 0, 0);
        e.gives(0, "least", 0, 0, 0);
        e.tells(0, "bought");
        e.gives(1, "child", 0);
        e.holds(1);
        e.gives(0, "unlike", 0, 0, 0);
        e.gives(0, "signed");
        e.signs(-2, -2, -2, -2, -2, -2, -2, -2, -2);
        e.tells(0, "owed", 0);
        e.leads(0, 0, 7, 0);
        e.refuses(1, "open", 0, 0, 0);
        e.refuses(1, "is", 0, 0, 0);
        e.refuses(1, "nowhere", 0, 0);
        e.refuses(1, "binds", 0, 0, 0, 0);
        e.refuses(1, "takes", 0, 0, 0, 0, 0);
        e.refuses(1, "stamp", 0, 0, 0);
        e.refuses(1, "paper", 0, 0, 0, 0, 0);
        e.refuses(1, "judge", 0, 0, 0, 0, 0);
        e.refuses(1, "burn", 0, 1);
        e.refuses(1, "rename", 0, 0);
    }

    /** One sort is missing, the others are not. */
    private static void emptySorts() {
        Edge noLand = new Edge(CHECK, "place a;place b;kind k;office o;road a b days 1 coin 1");
        noLand.gives(0, "person", 0);
        noLand.gives(1, "paper", 0, 0, 0, 0, 999);
        noLand.gives(0, "is", 0, 0, 0);
        noLand.gives(1, "nowhere", 0, 0);
        noLand.gives(0, "judge", 0, 0, 0, 0, 0);
        noLand.gives(0, "unlike", 0, 0, 0);
        noLand.refuses(1, "binds", 0, 0, 0, 0);
        noLand.refuses(1, "takes", 0, 0, 0, 0, 0);
        Edge noOffice = new Edge(CHECK, "place a;place b;land l;kind k;road a b days 1 coin 1 ask k by l");
        noOffice.gives(0, "person", 0);
        noOffice.gives(-2, "opener", 0, 0);
        noOffice.gives(0, "is", 0, 0, 0);
        noOffice.gives(0, "nowhere", 0, 0);
        noOffice.refuses(1, "paper", 0, 0, 0, 0, 0);
        noOffice.refuses(1, "stamp", 0, 0, 0);
        noOffice.refuses(6, "least", 0, 1, 0);
        Edge noPlace = new Edge(CHECK, "land l;kind k;office o;law l takes k of o since 0");
        noPlace.refuses(1, "person", 0);
        noPlace.refuses(1, "child", 0);
        noPlace.refuses(1, "least", 0, 0, 0);
        noPlace.gives(0, "nowhere", 0, 0);
        noPlace.gives(1, "takes", 0, 0, 0, 0, 0);
        noPlace.gives(0, "stamp", 0, 0, 0);
    }

    // ---- room

    /** "PERSONS: up to 30": "NONE: 1; 3", also of a CHILD. */
    private static void fullOfPersons() {
        Edge e = new Edge(CHECK, "place a;place b");
        for (int i = 0; i < 30; i++) {
            e.gives(i, i % 3 == 2 ? "child" : "person", i % 2);
        }
        for (int i = 0; i < 2; i++) {
            e.refuses(3, "person", i);
            e.refuses(3, "child", 29);
            e.refuses(1, "person", 2);
            e.refuses(1, "child", 30);
            e.tells(30, "count", 7);
        }
        e.gives(1, "move", 29, 0);
        e.gives(0, "contract", 29, 1);
        e.refuses(1, "contract", 30, 1);
        e.tells(0, "owed", 29);
        e.tells(-1, "owed", 30);
        e.takesBook("place a", 0);
        e.gives(0, "person", 0);
    }

    /** "PAPERS: up to 8 each" */
    private static void fullOfPapers() {
        Edge e = new Edge(CHECK, "place a;kind k;kind m;office o;office q");
        e.gives(0, "person", 0);
        e.gives(1, "person", 0);
        for (int i = 0; i < 8; i++) {
            e.gives(i + 1, "paper", 0, i % 2, i / 4, i, 10 + i);
        }
        e.refuses(3, "paper", 0, 0, 0, 0, 0);
        e.refuses(2, "paper", 0, 0, 0, 1, 0);
        e.refuses(2, "paper", 0, 0, 0, 0, 1000);
        e.refuses(1, "paper", 0, 2, 0, 0, 0);
        for (int i = 0; i < 8; i++) {
            e.tells(i % 2, "held", 0, i, 0);
            e.tells(i / 4, "held", 0, i, 1);
            e.tells(i, "held", 0, i, 2);
            e.tells(10 + i, "held", 0, i, 3);
        }
        e.tells(-1, "held", 0, 8, 0);
        e.holds(1);
        e.gives(1, "paper", 1, 0, 0, 5, 5);
        e.holds(1, new int[] {0, 0, 5, 5});
    }

    /** "STAMPS: up to 9" */
    private static void fullOfStamps() {
        Edge e = new Edge(CHECK, "place a;kind k;office o");
        for (int i = 0; i < 9; i++) {
            e.gives(i, "stamp", 0, 0, 999 - i);
        }
        e.refuses(3, "stamp", 0, 0, 0);
        e.refuses(2, "stamp", 0, 0, -1);
        e.refuses(1, "stamp", 1, 0, -1);
        e.tells(9, "count", 8);
        e.takesBook("place a;kind k;office o", 0);
        e.gives(0, "stamp", 0, 0, 0);
    }

    /** "JUDGMENTS: up to 20, numbered" */
    private static void fullOfJudgments() {
        Edge e = new Edge(CHECK, "place a;land l;kind k;office o;law l takes k of o since 0");
        e.gives(0, "person", 0);
        for (int i = 0; i < 20; i++) {
            e.gives(i, "judge", 0, 0, 0, i % 10, 99 - i);
        }
        e.refuses(3, "judge", 0, 0, 0, 0, 0);
        e.refuses(2, "judge", 0, 0, 0, 0, 100);
        e.refuses(2, "judge", 0, 0, 0, 10, 0);
        e.refuses(1, "judge", 0, 0, 1, 10, 0);
        e.tells(20, "count", 9);
        e.gives(99 - 10, "binds", 0, 0, 0, 0);
        e.gives(99 - 19, "binds", 0, 9, 0, 999);
        e.takesBook("place a;kind k;office o", 0);
        e.gives(0, "person", 0);
        e.gives(0, "judge", 0, 0, 0, 0, 0);
    }

    /** "up to 9 THINGS, each with up to 4 CLAUSES" */
    private static void fullOfClauses() {
        Edge e = new Edge(CHECK, "place a");
        for (int i = 0; i < 4; i++) {
            for (int thing = 8; thing >= 0; thing--) {
                e.gives(i, "clause", thing, i == 3 ? 0 : 65_535);
            }
        }
        for (int thing = 0; thing < 9; thing++) {
            e.refuses(3, "clause", thing, 0);
        }
        e.refuses(2, "clause", 0, 65_536);
        e.refuses(1, "clause", 9, 65_536);
        e.signs(0, 0, 0, 0, 0, 0, 0, 0, 0);
        e.gives(1, "quarrel", 15, 15);
        e.signs(3, 3, 3, 3, 3, 3, 3, 3, 3);
        e.takesBook("place a", 0);
        e.gives(0, "clause", 0, 65_535);
        e.gives(0, "signs", 0);
        e.gives(1, "signed");
    }

    /** Every clause there is room for is barred. */
    private static void noClauseMayStand() {
        Edge e = new Edge(CHECK, "place a");
        for (int i = 0; i < 36; i++) {
            e.gives(i % 4, "clause", i / 4, 1 << i % 16);
        }
        for (int word = 0; word < 16; word++) {
            e.gives(word + 1, "quarrel", word, word);
        }
        e.signs(-2, -2, -2, -2, -2, -2, -2, -2, -2);
    }

    /** "QUARRELS: up to 20", also where one is told again. */
    private static void fullOfQuarrels() {
        Edge e = new Edge(CHECK, "place a");
        for (int i = 1; i <= 20; i++) {
            e.gives(i, "quarrel", i % 3, 15 - i % 4);
        }
        e.refuses(3, "quarrel", 9, 9);
        e.refuses(2, "quarrel", 16, 0);
        e.refuses(2, "quarrel", 0, 16);
        e.tells(20, "count", 10);
        e.gives(0, "clause", 0, 1 << 9);
        e.signs(0);
        e.takesBook("place a", 0);
        e.gives(1, "quarrel", 9, 9);
    }

    /** "up to 10 CONTRACTS" */
    private static void fullOfContracts() {
        Edge e = new Edge(CHECK, "place a");
        e.gives(0, "person", 0);
        e.gives(1, "person", 0);
        for (int i = 0; i < 10; i++) {
            e.gives(i, "contract", i % 2, i + 1);
        }
        e.refuses(3, "contract", 0, 1);
        e.refuses(2, "contract", 0, 0);
        e.refuses(2, "contract", 0, 1000);
        e.refuses(1, "contract", 2, 0);
        e.tells(10, "count", 11);
        e.gives(10_000, "burn", 9, 1000);
        e.gives(9, "burn", 8, 1);
        e.refuses(1, "burn", 10, 1);
        e.takesBook("place a", 0);
        e.gives(0, "person", 0);
        e.gives(0, "contract", 0, 1);
        e.tells(0, "owed", 0);
    }

    /** The last place, land, office, kind, road, post, law, person, paper, stamp and judgment that there is room for. */
    private static void fullOfAll() {
        StringBuilder text = new StringBuilder();
        String[] sorts = {"place ", "land ", "office ", "kind "};
        int[] room = {8, 5, 6, 6};
        char name = 'a';
        for (int sort = 0; sort < 4; sort++) {
            for (int i = 0; i < room[sort]; i++) {
                text.append(sorts[sort]).append(name++).append(";");
            }
        }
        text.append("road a b days 1 coin 9;".repeat(15)).append("road a h days 60 coin 999 ask y by m ask y by m ask x by m");
        Edge e = new Edge(CHECK, text.toString());
        CHECK.due("all laws", e.laws("law m bars y of s since 9;".repeat(22) + "law m takes y of s since 5;law m takes x of s since 7"), 24);
        for (int i = 0; i < 30; i++) {
            e.ask("person", 0);
        }
        for (int i = 0; i < 6; i++) {
            e.ask("paper", 29, 0, 0, 0, 0);
        }
        e.ask("paper", 29, 5, 5, 0, 999);
        e.ask("paper", 29, 4, 5, 0, 999);
        e.ask("paper", 27, 5, 5, 0, 999);
        for (int i = 0; i < 19; i++) {
            e.ask("judge", 5, 5, 28, 9, i);
        }
        e.ask("judge", 5, 5, 29, 9, 99);
        for (int i = 0; i < 7; i++) {
            e.ask("stamp", 0, 0, 0);
        }
        e.ask("stamp", 5, 5, 999);
        e.ask("stamp", 4, 5, 998);
        for (int i = 0; i < 10; i++) {
            e.ask("contract", 29, 999);
        }
        int[] counts = {8, 5, 6, 6, 16, 24, 0, 30, 9, 20, 0, 10, 0, 0};
        for (int what = 0; what < counts.length; what++) {
            CHECK.due("count(" + what + ")", e.ask("count", what), counts[what]);
        }
        asksForTheLast(e);
    }

    private static void asksForTheLast(Edge e) {
        e.gives(22, "why", 4, 5, 5, 5, 0);
        e.gives(23, "why", 4, 4, 5, 7, 0);
        e.gives(-2, "why", 4, 4, 5, 6, 0);
        e.gives(16, "is", 29, 5, 5);
        e.gives(0, "is", 29, 5, 4);
        e.gives(2, "nowhere", 5, 4);
        e.gives(0, "nowhere", 5, 5);
        e.gives(1, "nowhere", 0, 0);
        e.gives(0, "open", 29, 15, 6);
        e.gives(1, "open", 29, 15, 7);
        e.gives(67, "first", 29, 7, 0);
        e.gives(1059, "first", 29, 7, 999);
        e.gives(999, "cheap", 29, 7, 7);
        e.gives(2, "reach", 29, 6);
        e.gives(3, "reach", 29, 7);
        e.gives(-2, "opener", 28, 7);
        e.gives(37, "opener", 27, 7);
        e.gives(-2, "opener", 29, 7);
        e.leads(29, 7, 0, 0, 7);
        e.gives(1997, "least", 0, 7, 7);
        e.tells(384, "bought");
        e.gives(1997, "least", 7, 1, 7);
        e.refuses(6, "least", 7, 1, 6);
        e.tells(384, "bought");
        e.gives(99, "binds", 29, 9, 4, 5);
        e.gives(-2, "binds", 29, 9, 4, 4);
        e.gives(18, "binds", 28, 9, 4, 5);
        e.gives(0, "unlike", 29, 9, 5);
        e.gives(999_000, "burn", 9, 1000);
        e.tells(999_000, "owed", 29);
        e.tells(5, "held", 29, 7, 1);
        e.tells(-1, "held", 29, 8, 1);
        e.refuses(3, "paper", 29, 0, 0, 0, 0);
        e.refuses(3, "child", 29);
    }
}
