import java.util.ArrayList;
import java.util.Arrays;
import java.util.List;
import java.util.Random;

/** Runs of calls by chance, always the same ones, with every answer held against Plain. */
public final class RandomTest {
    private static final String[] WORDS = {"place", "land", "office", "kind", "road", "law", "gift", "ask",
        "until", "if", "days", "coin", "by", "takes", "bars", "of", "since", "after", "born", "parent", "holds",
        "a", "b", "x", "abcdefgh", "abcdefghi", "0", "1", "60", "61", "400", "401", "999", "1000", "9999",
        "00001", "0001", ";", ";;", "A", "-", "\t", "\u00e9"};

    private static final int MOST_CALLS = 512;
    private static final String[] AFTERWARDS = {"trouble", "trouble", "where", "fault"};
    private static final int ANY = 0;
    private static final int WAYS = 1;
    private static final int GIFTS = 2;
    private static final int RULINGS = 3;

    private final Random random;
    private final Check check;
    private final List<String> told = new ArrayList<>();
    private int flavour;
    private BridgeStrip strip;
    private Plain plain;
    private int calls;
    private int[] sizes = {1, 1, 1, 1};
    /** Days at which something in the texts changes: questions are asked about them most. */
    private final List<Integer> days = new ArrayList<>();

    private RandomTest(Random random, Check check) {
        this.random = random;
        this.check = check;
    }

    public static void main(String[] args) {
        int runs = args.length > 0 ? Integer.parseInt(args[0]) : 600;
        long seed = args.length > 1 ? Long.parseLong(args[1]) : 17;
        Check check = new Check("RandomTest");
        for (int run = 0; run < runs && check.wrong() == 0; run++) {
            RandomTest test = new RandomTest(new Random(seed * 1_000_003 + run), check);
            test.run(run);
        }
        check.end();
    }

    private void run(int number) {
        begin();
        flavour = number % 4;
        if (number % 3 == 0) {
            texts(14);
            begin();
        }
        if (number % 10 == 0) {
            anyCalls(10);
        }
        book(goodBook());
        settle();
        if (number % 5 == 0) {
            clausesAndDebts();
        }
        anyCalls(300);
        if (check.wrong() != 0) {
            System.out.println("run " + number + ":");
            told.subList(Math.max(0, told.size() - 600), told.size()).forEach(System.out::println);
        }
    }

    private void begin() {
        strip = new BridgeStrip();
        plain = new Plain();
        told.clear();
        calls = 0;
    }

    /** A call, and one of the three that tell how it went: together no more than an object is used for. */
    private long ask(String name, int... x) {
        boolean isFeed = name.equals("feed");
        if (calls + (isFeed ? 1 : 2) > MOST_CALLS || check.wrong() != 0) {
            return -1;
        }
        long got = same(name, x);
        if (!isFeed) {
            same(AFTERWARDS[pick(AFTERWARDS.length)]);
        }
        return got;
    }

    private long same(String name, int... x) {
        calls++;
        long got = Caller.call(strip, name, x);
        long want = plain.call(name, x);
        told.add("  " + name + Arrays.toString(x) + " -> " + got);
        check.due(name + Arrays.toString(x), got, want);
        return got;
    }

    private int counted(int what) {
        return (int) plain.call("count", what);
    }

    private int pick(int bound) {
        return random.nextInt(bound);
    }

    // ---- texts

    private void feed(String text) {
        told.add("  [" + text + "]");
        for (int[] row : Caller.rows(text)) {
            ask("feed", row);
        }
    }

    private void book(String text) {
        feed(text);
        ask("book", text.length());
        for (int i = 0; i <= 13; i++) {
            ask("count", i);
        }
    }

    private void texts(int many) {
        for (int i = 0; i < many; i++) {
            String text = mutated(shortBook());
            boolean later = pick(3) == 0;
            if (later) {
                text = pick(2) == 0 ? lawText() : mutated(lawText());
            }
            feed(text.length() > 400 ? text.substring(0, 400) : text);
            ask(later ? "laws" : "book", Math.min(400, text.length()) + (pick(20) == 0 ? 40 : 0));
        }
    }

    private String mutated(String text) {
        StringBuilder b = new StringBuilder(text);
        for (int n = pick(3); n >= 0; n--) {
            int at = pick(b.length() + 1);
            int kind = pick(9);
            if (kind > 4) {
                b = new StringBuilder(mixed(b.toString(), kind));
            } else if (kind == 0) {
                b.insert(at, " " + WORDS[pick(WORDS.length)] + " ");
            } else if (kind == 1 && at < b.length()) {
                b.setCharAt(at, "abcdxyz019; A".charAt(pick(13)));
            } else if (kind == 2) {
                b.delete(at, Math.min(b.length(), at + pick(6)));
            } else if (kind == 3) {
                b.setLength(at);
            } else {
                String[] parts = b.toString().split(" ");
                if (parts.length > 0) {
                    parts[pick(parts.length)] = WORDS[pick(WORDS.length)];
                }
                b = new StringBuilder(String.join(" ", parts));
            }
        }
        return b.length() > 700 ? b.substring(0, 700) : b.toString();
    }

    /** A text with tokens of its own set elsewhere in it, a whole changed, or a line told again. */
    private String mixed(String text, int kind) {
        String[] lines = text.split(";");
        if (kind == 5 && lines.length > 0) {
            return text + ";" + lines[pick(lines.length)];
        }
        String[] parts = text.split("(?<=[ ;])|(?=[ ;])");
        for (int tries = 0; tries < 60 && parts.length > 0; tries++) {
            int at = pick(parts.length);
            String other = kind == 6 ? WORDS[26 + pick(11)] : parts[pick(parts.length)];
            boolean alike = kind == 8 || isWhole(parts[at]) == isWhole(other);
            if (alike && parts[at].trim().length() == parts[at].length() && !parts[at].equals(";")) {
                parts[at] = other;
                break;
            }
        }
        return String.join("", parts);
    }

    private static boolean isWhole(String part) {
        return !part.isEmpty() && Character.isDigit(part.charAt(0));
    }

    private void chooseSizes() {
        if (flavour == WAYS) {
            sizes = new int[] {3 + pick(5), 1 + pick(2), 1 + pick(2), 1 + pick(2)};
        } else if (flavour == GIFTS) {
            sizes = new int[] {1 + pick(2), 1, 1 + pick(4), 1 + pick(4)};
        } else if (flavour == RULINGS) {
            sizes = new int[] {1 + pick(2), 2 + pick(4), 1 + pick(2), 1};
        } else {
            sizes = new int[] {1 + pick(8), 1 + pick(5), 1 + pick(pick(2) == 0 ? 2 : 6), 1 + pick(pick(2) == 0 ? 2 : 6)};
        }
    }

    /** A good book with a few lines of each sort, so that a fault may be of every sort. */
    private String shortBook() {
        String[] lines = goodBook().split(";");
        StringBuilder text = new StringBuilder();
        int names = sizes[0] + sizes[1] + sizes[2] + sizes[3];
        for (int i = 0; i < lines.length && text.length() < 260; i++) {
            if (i < names || pick(3) == 0) {
                text.append(text.length() == 0 ? "" : ";").append(lines[i]);
            }
        }
        return text.toString();
    }

    private String goodBook() {
        chooseSizes();
        days.clear();
        days.addAll(List.of(0, 999, 998));
        List<String> lines = new ArrayList<>();
        String[] words = {"place p", "land l", "office o", "kind k"};
        for (int sort = 0; sort < 4; sort++) {
            for (int i = 0; i < sizes[sort]; i++) {
                lines.add(words[sort] + (char) ('a' + i));
            }
        }
        List<String> rest = new ArrayList<>();
        addMany(rest, flavour == WAYS ? 12 : flavour == ANY ? pick(17) : 3, "road");
        addMany(rest, flavour == RULINGS ? 20 : flavour == GIFTS ? 4 : 4 + pick(8), "law");
        addMany(rest, flavour == GIFTS ? 12 : flavour == ANY ? pick(13) : 2, "gift");
        java.util.Collections.shuffle(rest, random);
        lines.addAll(rest);
        StringBuilder text = new StringBuilder();
        for (String line : lines) {
            if (text.length() + line.length() + 2 <= 700) {
                text.append(text.length() == 0 ? "" : pick(2) == 0 ? ";" : "; ").append(line);
            }
        }
        return text.toString();
    }

    private void addMany(List<String> lines, int room, String sort) {
        for (int n = room; n > 0; n--) {
            if (sort.equals("road") && sizes[0] > 1) {
                lines.add(roadLine());
            } else if (sort.equals("law")) {
                lines.add(lawLine());
            } else if (sort.equals("gift")) {
                lines.add(giftLine());
            }
        }
    }

    private String roadLine() {
        int a = pick(sizes[0]);
        int b = (a + 1 + pick(sizes[0] - 1)) % sizes[0];
        StringBuilder text = new StringBuilder("road p" + (char) ('a' + a) + " p" + (char) ('a' + b)
                + " days " + (1 + pick(pick(2) == 0 ? 3 : 60)) + " coin " + pick(pick(2) == 0 ? 4 : 1000));
        int posts = new int[] {0, 1, 1, 1, 2, 3}[pick(flavour == WAYS ? 5 : 6)];
        for (int i = 0; i < posts; i++) {
            text.append(" ask ").append(name(3)).append(" by ").append(name(1));
        }
        return text.toString();
    }

    private String name(int sort) {
        return "" + "plok".charAt(sort) + (char) ('a' + pick(sizes[sort]));
    }

    private int newDay() {
        int day = pick(4) == 0 ? pick(1000) : pick(40);
        days.add(day);
        days.add(Math.max(0, day - 1));
        days.add(Math.min(999, day + 1));
        return day;
    }

    private String lawLine() {
        int since = newDay();
        int until = Math.min(999, since + pick(pick(2) == 0 ? 10 : 400));
        days.add(until);
        days.add(Math.min(999, until + 1));
        return "law " + name(1) + (pick(4) == 0 ? " bars " : " takes ") + name(3) + " of " + name(2)
                + " since " + since + (pick(2) == 0 ? "" : " until " + until);
    }

    private String giftLine() {
        StringBuilder text = new StringBuilder("gift " + name(3) + " of " + name(2) + " after "
                + (pick(2) == 0 ? pick(4) : pick(401)));
        for (int n = pick(pick(3) == 0 ? 4 : 2); n > 0; n--) {
            int kind = pick(3);
            text.append(kind == 0 ? " if born " + name(0)
                    : (kind == 1 ? " if parent " : " if holds ") + name(3) + " of " + name(2));
        }
        return text.toString();
    }

    private String lawText() {
        StringBuilder text = new StringBuilder(lawLine());
        for (int n = pick(3); n > 0; n--) {
            text.append(";").append(lawLine());
        }
        return text.toString();
    }

    // ---- calls

    private void settle() {
        for (int n = pick(6); n >= 0; n--) {
            ask("person", pick(sizes[0]));
            for (int k = pick(9); k > 0; k--) {
                paper();
            }
        }
        for (int n = flavour == RULINGS ? 16 : 0; n > 0; n--) {
            ask("judge", pick(sizes[3]), pick(sizes[2]), pick(2), pick(2), pick(4));
            if (pick(4) == 0) {
                ask("pass", 1 + pick(6));
            }
        }
        for (int n = flavour == RULINGS ? 40 : 0; n > 0; n--) {
            ask("binds", pick(2), pick(2), pick(sizes[1]), day());
            ask("unlike", pick(2), pick(2), day());
        }
        for (int n = pick(10); n > 0; n--) {
            ask("stamp", pick(sizes[3]), pick(sizes[2]), pick(2) == 0 ? pick(3) : pick(1000));
        }
    }

    private void paper() {
        int from = day();
        int to = odd(pick(3) == 0 ? 999 : Math.min(999, from + pick(60)));
        ask("paper", person(), any(3), any(2), from, to);
    }

    private void clausesAndDebts() {
        int things = 1 + pick(5);
        for (int n = pick(14); n > 0; n--) {
            int words = 1 << pick(6) | 1 << pick(6);
            ask("clause", pick(things), pick(3) == 0 ? words | 1 << pick(16) : words);
            if (pick(2) == 0) {
                ask("quarrel", pick(7), pick(7));
            }
        }
        ask("signed");
        for (int thing = -1; thing <= 9; thing++) {
            ask("signs", thing);
        }
    }

    private int odd(int usual) {
        int[] strange = {-1, -2, 1000, 10, 9, 100, Integer.MAX_VALUE, Integer.MIN_VALUE, 65536, usual + 1, usual - 1};
        return pick(40) == 0 ? strange[pick(strange.length)] : usual;
    }

    private int person() {
        int many = counted(7);
        return odd(many == 0 ? 0 : pick(many));
    }

    private int day() {
        return odd(days.isEmpty() || pick(3) == 0 ? pick(60) : days.get(pick(days.size())));
    }

    private int any(int sort) {
        return odd(pick(Math.max(1, sizes[sort])));
    }

    private void anyCalls(int many) {
        for (int i = 0; i < many && check.wrong() == 0; i++) {
            anyCall(pick(44));
        }
    }

    private void anyCall(int which) {
        switch (which) {
            case 0 -> ask("takes", any(1), any(3), any(2), day(), day());
            case 1 -> ask("why", any(1), any(3), any(2), day(), day());
            case 2 -> ask("person", any(0));
            case 3 -> paper();
            case 4 -> ask("held", person(), pick(8), odd(pick(4)));
            case 5 -> ask("move", person(), any(0));
            case 6 -> ask("is", person(), any(3), day());
            case 7 -> ask("nowhere", any(3), day());
            case 8, 9 -> ask("open", person(), odd(pick(Math.max(1, counted(4)))), day());
            case 10, 11, 12 -> ask("first", person(), any(0), day());
            case 13, 14 -> ask("cheap", person(), any(0), day());
            case 15 -> ask("reach", person(), day());
            case 16, 17 -> ask("opener", person(), day());
            case 18 -> ask("stamp", any(3), any(2), odd(pick(5)));
            case 19, 20 -> ask("least", any(0), any(0), day());
            case 21 -> ask("bought");
            case 22, 23 -> children();
            case 24 -> ask("judge", any(3), any(2), person(), odd(pick(2)), odd(pick(4)));
            case 25 -> ask("binds", person(), odd(pick(2)), any(1), day());
            case 26 -> ask("unlike", person(), odd(pick(2)), day());
            case 27 -> ask("contract", person(), odd(1 + pick(999)));
            case 28 -> ask("burn", odd(pick(3)), odd(1 + pick(1000)));
            case 29 -> ask("rename", odd(pick(3)), person());
            case 30 -> ask("owed", person());
            case 31, 32, 33 -> ask("led", person(), any(0), day(), odd(pick(4)));
            case 34 -> ask("count", odd(pick(15)));
            case 35 -> ask("pass", odd(1 + pick(pick(6) == 0 ? 400 : 10)));
            case 36 -> later();
            case 37 -> ask("clause", odd(pick(4)), odd(pick(64)));
            case 38 -> ask("quarrel", odd(pick(7)), odd(pick(7)));
            case 39 -> ask("signed");
            case 40 -> ask("signs", odd(pick(5)));
            case 41 -> again();
            default -> ask("feed", random.nextInt(), 538976288, 538976288, 538976288, 538976288);
        }
    }

    private void children() {
        long number = ask("child", person());
        for (int i = 0; number >= 0 && i < 3; i++) {
            for (int what = 0; what < 4; what++) {
                ask("held", (int) number, i, what);
            }
        }
    }

    private void later() {
        ask("laws", counted(13));
        String text = pick(5) == 0 ? mutated(lawText()) : lawText();
        feed(text);
        ask("laws", text.length());
    }

    private void again() {
        if (pick(12) == 0) {
            ask("book", counted(13));
            book(goodBook());
            settle();
        }
    }
}
