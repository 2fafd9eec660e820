import java.util.ArrayList;
import java.util.Arrays;
import java.util.HashMap;
import java.util.LinkedHashMap;
import java.util.List;
import java.util.Map;
import java.util.TreeSet;

/**
 * The document's words once more, in the plainest form that can be thought of, with no thought of
 * speed: days are gone through one by one, sets and choices are all tried. RandomTest holds the
 * class against it.
 */
final class Plain {
    /** What call() answers where the document asks for NoSuchElementException. */
    static final long THROWS = Long.MIN_VALUE;

    private static final class Road {
        int a;
        int b;
        int days;
        int coin;
        final List<int[]> posts = new ArrayList<>();
    }

    private record Law(int land, int kind, int office, boolean takes, int since, int until, int known) {
    }

    private static final class Gift {
        int kind;
        int office;
        int after;
        final List<Object[]> cases = new ArrayList<>();
    }

    private record Paper(int kind, int office, int from, int to) {
        boolean lasts(int day) {
            return from <= day && day <= to;
        }
    }

    private static final class Person {
        int place;
        long owed;
        final List<Paper> papers = new ArrayList<>();
    }

    private record Stamp(int kind, int office, int coin) {
    }

    private record Judgment(int kind, int office, int person, int matter, int value, int day) {
    }

    private record Token(char sort, String text, int place) {
    }

    /** Thrown by the reader at the first fault. */
    private static final class Fault extends RuntimeException {
        private static final long serialVersionUID = 1L;
        final int number;
        final int place;

        Fault(int number, int place) {
            this.number = number;
            this.place = place;
        }
    }

    private static final List<String> SORTS = List.of("place", "land", "office", "kind");
    private static final Map<String, Integer> ROOM = Map.of(
            "place", 8, "land", 5, "office", 6, "kind", 6, "road", 16, "law", 24, "gift", 12);
    private static final List<String> RESERVED = List.of(
            "place", "land", "office", "kind", "road", "law", "gift", "ask", "until", "if");

    /** A BOOK: what is told in it. */
    private static final class Told {
        final Map<String, String> sortOf = new HashMap<>();
        final Map<String, List<String>> names = new LinkedHashMap<>();
        final List<Road> roads = new ArrayList<>();
        List<Law> laws = new ArrayList<>();
        final List<Gift> gifts = new ArrayList<>();

        Told() {
            for (String sort : SORTS) {
                names.put(sort, new ArrayList<>());
            }
        }

        int size(String sort) {
            switch (sort) {
                case "road":
                    return roads.size();
                case "law":
                    return laws.size();
                case "gift":
                    return gifts.size();
                default:
                    return names.get(sort).size();
            }
        }
    }

    private final List<Integer> tape = new ArrayList<>();
    private Told book = new Told();
    private boolean hasBook;
    private int today;
    private List<Person> persons = new ArrayList<>();
    private List<Stamp> stamps = new ArrayList<>();
    private List<Judgment> judgments = new ArrayList<>();
    private Map<Integer, List<Integer>> clauses = new HashMap<>();
    private List<int[]> quarrels = new ArrayList<>();
    private List<int[]> contracts = new ArrayList<>();
    private int bought = -1;
    private int trouble;
    private int fault;
    private int where;

    /** What was refused, and why: thrown so that every call reads as the document's row does. */
    private static final class Refused extends RuntimeException {
        private static final long serialVersionUID = 1L;
        final int number;

        Refused(int number) {
            this.number = number;
        }
    }

    long call(String name, int... x) {
        switch (name) {
            case "feed":
                return feed(x);
            case "fault":
                return fault;
            case "where":
                return trouble == 4 ? where : -1;
            case "held":
                return held(x[0], x[1], x[2]);
            case "bought":
                return bought;
            case "owed":
                return in(x[0], persons.size()) ? persons.get(x[0]).owed : -1;
            case "led":
                return led(x[0], x[1], x[2], x[3]);
            case "count":
                return count(x[0]);
            case "trouble":
                return trouble;
            default:
                try {
                    long answer = mayRefuse(name, x);
                    trouble = 0;
                    return answer;
                } catch (Refused r) {
                    trouble = r.number;
                    return name.equals("move") || name.equals("rename") ? 0 : -1;
                }
        }
    }

    private static boolean in(int i, int size) {
        return i >= 0 && i < size;
    }

    private static void need(boolean holds, int number) {
        if (!holds) {
            throw new Refused(number);
        }
    }

    private void needDay(int day) {
        need(day >= 0 && day <= 999, 2);
    }

    private void needName(String sort, int i) {
        need(in(i, book.size(sort)), 1);
    }

    private void needPerson(int i) {
        need(in(i, persons.size()), 1);
    }

    private long mayRefuse(String name, int[] x) {
        switch (name) {
            case "book":
                return read(x[0], false);
            case "laws":
                need(hasBook, 1);
                return read(x[0], true);
            case "pass":
                need(hasBook, 1);
                need(x[0] >= 1 && x[0] <= 400 && today + x[0] <= 999, 2);
                today += x[0];
                return today;
            case "takes":
            case "why":
                return takesOrWhy(name, x);
            case "person":
                needName("place", x[0]);
                need(persons.size() < 30, 3);
                return addPerson(x[0]);
            case "paper":
                return paper(x);
            case "move":
                needPerson(x[0]);
                needName("place", x[1]);
                need(persons.get(x[0]).place != x[1], 5);
                persons.get(x[0]).place = x[1];
                return 1;
            case "is":
                needPerson(x[0]);
                needName("kind", x[1]);
                needDay(x[2]);
                return lands(persons.get(x[0]), x[1], x[2]);
            case "nowhere":
                needName("kind", x[0]);
                needDay(x[1]);
                return persons.stream().filter(p -> p.papers.stream().anyMatch(q -> q.kind == x[0] && q.lasts(x[1]))
                        && lands(p, x[0], x[1]) == 0).count();
            case "open":
                needPerson(x[0]);
                needName("road", x[1]);
                needDay(x[2]);
                return isOpen(persons.get(x[0]), book.roads.get(x[1]), x[2]) ? 1 : 0;
            case "child":
                needPerson(x[0]);
                need(persons.size() < 30, 3);
                return child(persons.get(x[0]));
            default:
                return mayRefuseMore(name, x);
        }
    }

    private long mayRefuseMore(String name, int[] x) {
        switch (name) {
            case "first": {
                needPerson(x[0]);
                needName("place", x[1]);
                needDay(x[2]);
                int day = firsts(persons.get(x[0]), x[2])[x[1]];
                need(day >= 0, 6);
                return day;
            }
            case "cheap":
                needPerson(x[0]);
                needName("place", x[1]);
                needDay(x[2]);
                return cheap(persons.get(x[0]), x[1], x[2]);
            case "reach":
                needPerson(x[0]);
                needDay(x[1]);
                return reach(persons.get(x[0]), x[1]);
            case "opener":
                needPerson(x[0]);
                needDay(x[1]);
                return opener(persons.get(x[0]), x[1]);
            case "stamp":
                needName("kind", x[0]);
                needName("office", x[1]);
                need(in(x[2], 1000), 2);
                need(stamps.size() < 9, 3);
                stamps.add(new Stamp(x[0], x[1], x[2]));
                return stamps.size() - 1;
            case "least":
                needName("place", x[0]);
                needName("place", x[1]);
                needDay(x[2]);
                return least(x[0], x[1], x[2]);
            case "judge":
                needName("kind", x[0]);
                needName("office", x[1]);
                needPerson(x[2]);
                need(in(x[3], 10) && in(x[4], 100), 2);
                need(judgments.size() < 20, 3);
                judgments.add(new Judgment(x[0], x[1], x[2], x[3], x[4], today));
                return judgments.size() - 1;
            case "binds":
                needPerson(x[0]);
                needName("land", x[2]);
                need(in(x[1], 10), 2);
                needDay(x[3]);
                return binding(x[0], x[1], x[2], x[3]);
            case "unlike":
                needPerson(x[0]);
                need(in(x[1], 10), 2);
                needDay(x[2]);
                return unlike(x[0], x[1], x[2]);
            default:
                return mayRefuseLast(name, x);
        }
    }

    private long mayRefuseLast(String name, int[] x) {
        switch (name) {
            case "clause": {
                need(hasBook && in(x[0], 9), 1);
                need(in(x[1], 65536), 2);
                List<Integer> of = clauses.computeIfAbsent(x[0], k -> new ArrayList<>());
                need(of.size() < 4, 3);
                of.add(x[1]);
                return of.size() - 1;
            }
            case "quarrel":
                need(hasBook, 1);
                need(in(x[0], 16) && in(x[1], 16), 2);
                need(quarrels.size() < 20, 3);
                quarrels.add(new int[] {x[0], x[1]});
                return quarrels.size();
            case "signed":
                need(hasBook, 1);
                return Arrays.stream(signing()).filter(c -> c >= 0).count();
            case "signs":
                need(hasBook && in(x[0], 9), 1);
                return signing()[x[0]];
            case "contract":
                needPerson(x[0]);
                need(x[1] >= 1 && x[1] <= 999, 2);
                need(contracts.size() < 10, 3);
                contracts.add(new int[] {x[0], x[1]});
                return contracts.size() - 1;
            case "burn": {
                need(in(x[0], contracts.size()), 1);
                need(x[1] >= 1 && x[1] <= 1000, 2);
                Person p = persons.get(contracts.get(x[0])[0]);
                p.owed += (long) contracts.get(x[0])[1] * x[1];
                return p.owed;
            }
            case "rename":
                need(in(x[0], contracts.size()), 1);
                needPerson(x[1]);
                need(contracts.get(x[0])[0] != x[1], 5);
                contracts.get(x[0])[0] = x[1];
                return 1;
            default:
                throw new IllegalArgumentException(name);
        }
    }

    // ---- the text

    private int feed(int[] x) {
        if (tape.size() + 20 > 700) {
            return -1;
        }
        for (int number : x) {
            tape.addAll(List.of(number >>> 24, number >>> 16 & 255, number >>> 8 & 255, number & 255));
        }
        return tape.size();
    }

    private int read(int n, boolean lawsAlone) {
        need(n >= 0 && n <= tape.size(), 2);
        StringBuilder text = new StringBuilder();
        for (int i = 0; i < n; i++) {
            text.append((char) (int) tape.get(i));
        }
        tape.clear();
        Told into = lawsAlone ? book : new Told();
        List<Law> before = new ArrayList<>(into.laws);
        try {
            new Lines(text.toString(), into, lawsAlone, lawsAlone ? today : 0).read();
        } catch (Fault f) {
            into.laws = before;
            fault = f.number;
            where = f.place;
            throw new Refused(4);
        }
        fault = 0;
        if (!lawsAlone) {
            beginAnew(into);
        }
        return book.laws.size();
    }

    private void beginAnew(Told into) {
        book = into;
        hasBook = true;
        today = 0;
        persons = new ArrayList<>();
        stamps = new ArrayList<>();
        judgments = new ArrayList<>();
        clauses = new HashMap<>();
        quarrels = new ArrayList<>();
        contracts = new ArrayList<>();
        bought = -1;
    }

    /** Goes through a text with a row of patterns: a LINE's words, with a sign for what is not a keyword. */
    private static final class Lines {
        private static final Map<String, String> PATTERNS = Map.of(
                "place", "+", "land", "+", "office", "+", "kind", "+",
                "road", "place place days 1-60 coin 0-999",
                "law", "land TAKES kind of* office since 0-999",
                "gift", "kind of* office after 0-400");

        private final List<Token> tokens = new ArrayList<>();
        private final Told book;
        private final boolean lawsAlone;
        private final int known;
        private int at;

        Lines(String text, Told book, boolean lawsAlone, int known) {
            this.book = book;
            this.lawsAlone = lawsAlone;
            this.known = known;
            java.util.regex.Matcher m = java.util.regex.Pattern.compile("[a-z]+|[0-9]+|;|[^ ]", java.util.regex.Pattern.DOTALL)
                    .matcher(text);
            while (m.find()) {
                String found = m.group();
                char sort = found.matches("[a-z]{1,8}") ? 'w' : found.matches("[0-9]{1,4}") ? 'n'
                        : found.equals(";") ? ';' : '?';
                tokens.add(new Token(sort, found, m.start()));
            }
            tokens.add(new Token('.', "", text.length()));
        }

        void read() {
            while (true) {
                line();
                Token t = tokens.get(at);
                if (t.sort == '.') {
                    return;
                }
                fit(t.sort == ';', 1, t);
                at++;
            }
        }

        private static void fit(boolean holds, int fault, Token t) {
            if (!holds) {
                throw new Fault(fault, t.place);
            }
        }

        private void line() {
            Token head = tokens.get(at);
            fit(PATTERNS.containsKey(head.text) && (!lawsAlone || head.text.equals("law")), 1, head);
            fit(book.size(head.text) < ROOM.get(head.text), 5, head);
            at++;
            List<Integer> got = new ArrayList<>();
            for (String part : PATTERNS.get(head.text).split(" ")) {
                got.add(part(part, head.text, got));
            }
            switch (head.text) {
                case "road":
                    road(got);
                    break;
                case "law":
                    law(got);
                    break;
                case "gift":
                    gift(got);
                    break;
                default:
                    break;
            }
        }

        private int part(String part, String head, List<Integer> got) {
            Token t = tokens.get(at++);
            if (part.contains("-")) {
                String[] bounds = part.split("-");
                fit(t.sort == 'n', 1, t);
                int n = Integer.parseInt(t.text);
                fit(n >= Integer.parseInt(bounds[0]) && n <= Integer.parseInt(bounds[1]), 4, t);
                return n;
            }
            fit(t.sort == 'w', 1, t);
            if (part.equals("+")) {
                fit(!RESERVED.contains(t.text), 1, t);
                fit(!book.sortOf.containsKey(t.text), 3, t);
                book.sortOf.put(t.text, head);
                book.names.get(head).add(t.text);
                return 0;
            }
            if (part.equals("TAKES")) {
                fit(t.text.equals("takes") || t.text.equals("bars"), 1, t);
                return t.text.equals("takes") ? 1 : 0;
            }
            if (SORTS.contains(part)) {
                fit(!RESERVED.contains(t.text), 1, t);
                fit(part.equals(book.sortOf.get(t.text)), 2, t);
                int number = book.names.get(part).indexOf(t.text);
                fit(!head.equals("road") || !part.equals("place") || got.isEmpty() || got.get(0) != number, 3, t);
                return number;
            }
            fit(t.text.equals(part.replace("*", "")), 1, t);
            return 0;
        }

        private boolean sees(String word) {
            return tokens.get(at).text.equals(word);
        }

        private void road(List<Integer> got) {
            Road r = new Road();
            r.a = got.get(0);
            r.b = got.get(1);
            r.days = got.get(3);
            r.coin = got.get(5);
            book.roads.add(r);
            while (sees("ask")) {
                fit(r.posts.size() < 3, 5, tokens.get(at));
                at++;
                int kind = part("kind", "", got);
                part("by", "", got);
                r.posts.add(new int[] {kind, part("land", "", got)});
            }
        }

        private void law(List<Integer> got) {
            int until = 1_000_000;
            if (sees("until")) {
                at++;
                until = part(got.get(6) + "-999", "", got);
            }
            book.laws.add(new Law(got.get(0), got.get(2), got.get(4), got.get(1) == 1, got.get(6), until, known));
        }

        private void gift(List<Integer> got) {
            Gift g = new Gift();
            g.kind = got.get(0);
            g.office = got.get(2);
            g.after = got.get(4);
            book.gifts.add(g);
            while (sees("if")) {
                fit(g.cases.size() < 3, 5, tokens.get(at));
                at++;
                Token t = tokens.get(at);
                fit(List.of("born", "parent", "holds").contains(t.text), 1, t);
                at++;
                if (t.text.equals("born")) {
                    g.cases.add(new Object[] {t.text, part("place", "", got), 0});
                } else {
                    int kind = part("kind", "", got);
                    part("of", "", got);
                    g.cases.add(new Object[] {t.text, kind, part("office", "", got)});
                }
            }
        }
    }

    // ---- laws, papers

    private int ruling(int land, int kind, int office, int day, int known) {
        int found = -2;
        for (int i = 0; i < book.laws.size(); i++) {
            Law l = book.laws.get(i);
            if (l.land == land && l.kind == kind && l.office == office && l.since <= day && day <= l.until
                    && l.known <= known) {
                found = i;
            }
        }
        return found;
    }

    private boolean taken(int land, int kind, int office, int day) {
        int law = ruling(land, kind, office, day, day);
        return law >= 0 && book.laws.get(law).takes;
    }

    private long takesOrWhy(String name, int[] x) {
        needName("land", x[0]);
        needName("kind", x[1]);
        needName("office", x[2]);
        needDay(x[3]);
        needDay(x[4]);
        int law = ruling(x[0], x[1], x[2], x[3], x[4]);
        if (name.equals("why")) {
            return law;
        }
        return law >= 0 && book.laws.get(law).takes ? 1 : 0;
    }

    private int addPerson(int place) {
        Person p = new Person();
        p.place = place;
        persons.add(p);
        return persons.size() - 1;
    }

    private long paper(int[] x) {
        needPerson(x[0]);
        needName("kind", x[1]);
        needName("office", x[2]);
        needDay(x[3]);
        needDay(x[4]);
        need(x[3] <= x[4], 2);
        List<Paper> papers = persons.get(x[0]).papers;
        need(papers.size() < 8, 3);
        papers.add(new Paper(x[1], x[2], x[3], x[4]));
        return papers.size();
    }

    private long held(int person, int i, int what) {
        if (!in(person, persons.size()) || !in(i, persons.get(person).papers.size()) || !in(what, 4)) {
            return -1;
        }
        Paper p = persons.get(person).papers.get(i);
        return new int[] {p.kind, p.office, p.from, p.to}[what];
    }

    private boolean good(Paper p, int land, int day) {
        return p.lasts(day) && taken(land, p.kind, p.office, day);
    }

    private int lands(Person p, int kind, int day) {
        int bits = 0;
        for (int land = 0; land < book.size("land"); land++) {
            int l = land;
            if (p.papers.stream().anyMatch(q -> q.kind == kind && good(q, l, day))) {
                bits += 1 << land;
            }
        }
        return bits;
    }

    private boolean isOpen(Person p, Road r, int day) {
        return r.posts.stream().allMatch(post -> p.papers.stream().anyMatch(q -> q.kind == post[0] && good(q, post[1], day)));
    }

    // ---- ways

    /** The FIRST of every place, -1 for none, by going through all days. */
    private int[] firsts(Person p, int from) {
        int places = book.size("place");
        int[] first = new int[places];
        Arrays.fill(first, Integer.MAX_VALUE);
        first[p.place] = from;
        for (int day = from; day <= 999; day++) {
            for (Road r : book.roads) {
                if (first[r.a] > day && first[r.b] > day || !isOpen(p, r, day)) {
                    continue;
                }
                if (first[r.a] <= day) {
                    first[r.b] = Math.min(first[r.b], day + r.days);
                }
                if (first[r.b] <= day) {
                    first[r.a] = Math.min(first[r.a], day + r.days);
                }
            }
        }
        for (int i = 0; i < places; i++) {
            first[i] = first[i] == Integer.MAX_VALUE ? -1 : first[i];
        }
        return first;
    }

    private long led(int person, int place, int day, int i) {
        if (!in(person, persons.size()) || !in(place, book.size("place")) || !in(day, 1000)) {
            return THROWS;
        }
        Person p = persons.get(person);
        int[] first = firsts(p, day);
        if (first[place] < 0) {
            return THROWS;
        }
        List<Integer> way = new ArrayList<>(List.of(place));
        while (way.get(0) != p.place) {
            way.add(0, ahead(p, first, way.get(0)));
        }
        return in(i, way.size()) ? way.get(i) : THROWS;
    }

    private int ahead(Person p, int[] first, int place) {
        for (Road r : book.roads) {
            if (r.a != place && r.b != place) {
                continue;
            }
            int from = r.a == place ? r.b : r.a;
            if (first[from] < 0) {
                continue;
            }
            int going = first[from];
            while (going <= 999 && !isOpen(p, r, going)) {
                going++;
            }
            if (going <= 999 && going + r.days == first[place]) {
                return from;
            }
        }
        throw new IllegalStateException("no place ahead");
    }

    private long cheap(Person p, int place, int day) {
        int places = book.size("place");
        long[][] cost = new long[places][places];
        for (int a = 0; a < places; a++) {
            Arrays.fill(cost[a], 1_000_000_000);
            cost[a][a] = 0;
        }
        for (Road r : book.roads) {
            if (isOpen(p, r, day)) {
                cost[r.a][r.b] = Math.min(cost[r.a][r.b], r.coin);
                cost[r.b][r.a] = cost[r.a][r.b];
            }
        }
        for (int k = 0; k < places; k++) {
            for (int a = 0; a < places; a++) {
                for (int b = 0; b < places; b++) {
                    cost[a][b] = Math.min(cost[a][b], cost[a][k] + cost[k][b]);
                }
            }
        }
        need(cost[p.place][place] < 1_000_000_000, 6);
        return cost[p.place][place];
    }

    private TreeSet<Integer> spread(List<Road> open, int from) {
        TreeSet<Integer> seen = new TreeSet<>(List.of(from));
        boolean grew = true;
        while (grew) {
            grew = false;
            for (Road r : open) {
                if (seen.contains(r.a) != seen.contains(r.b)) {
                    seen.add(r.a);
                    seen.add(r.b);
                    grew = true;
                }
            }
        }
        return seen;
    }

    private int reach(Person p, int day) {
        List<Road> open = new ArrayList<>(book.roads);
        open.removeIf(r -> !isOpen(p, r, day));
        return spread(open, p.place).size();
    }

    private long opener(Person p, int day) {
        int most = reach(p, day);
        int best = -2;
        for (int kind = 0; kind < book.size("kind"); kind++) {
            for (int office = 0; office < book.size("office"); office++) {
                p.papers.add(new Paper(kind, office, day, day));
                int now = reach(p, day);
                p.papers.remove(p.papers.size() - 1);
                if (now > most) {
                    most = now;
                    best = 8 * kind + office;
                }
            }
        }
        return best;
    }

    private long least(int from, int to, int day) {
        int best = -1;
        for (int set = 0; set < 1 << stamps.size(); set++) {
            if ((best < 0 || before(set, best)) && carries(set, from, to, day)) {
                best = set;
            }
        }
        need(best >= 0, 6);
        bought = best;
        return coin(best);
    }

    private boolean before(int set, int other) {
        if (coin(set) != coin(other)) {
            return coin(set) < coin(other);
        }
        if (Integer.bitCount(set) != Integer.bitCount(other)) {
            return Integer.bitCount(set) < Integer.bitCount(other);
        }
        return set < other;
    }

    private int coin(int set) {
        int sum = 0;
        for (int i = 0; i < stamps.size(); i++) {
            sum += (set >> i & 1) * stamps.get(i).coin;
        }
        return sum;
    }

    private boolean carries(int set, int from, int to, int day) {
        List<Road> open = new ArrayList<>();
        for (Road r : book.roads) {
            boolean all = true;
            for (int[] post : r.posts) {
                boolean some = false;
                for (int i = 0; i < stamps.size(); i++) {
                    Stamp s = stamps.get(i);
                    some |= (set >> i & 1) == 1 && s.kind == post[0] && taken(post[1], s.kind, s.office, day);
                }
                all &= some;
            }
            if (all) {
                open.add(r);
            }
        }
        return spread(open, from).contains(to);
    }

    // ---- children, judgments

    private long child(Person parent) {
        int number = addPerson(parent.place);
        Person c = persons.get(number);
        boolean[] given = new boolean[book.gifts.size()];
        for (int day = today; day <= 999; day++) {
            boolean again = true;
            while (again) {
                again = false;
                for (int g = 0; g < given.length && !again; g++) {
                    if (!given[g] && giftDay(book.gifts.get(g), c, parent) == day) {
                        given[g] = true;
                        again = true;
                        give(c, book.gifts.get(g), day);
                    }
                }
            }
        }
        return number;
    }

    private void give(Person c, Gift g, int day) {
        boolean has = c.papers.stream().anyMatch(q -> q.kind == g.kind && q.office == g.office && q.from <= day);
        if (!has && c.papers.size() < 8) {
            c.papers.add(new Paper(g.kind, g.office, day, 999));
        }
    }

    private int giftDay(Gift g, Person c, Person parent) {
        int last = today;
        for (Object[] x : g.cases) {
            int a = (int) x[1];
            int b = (int) x[2];
            boolean holds = false;
            if (x[0].equals("born")) {
                holds = c.place == a;
            } else if (x[0].equals("parent")) {
                holds = parent.papers.stream().anyMatch(q -> q.kind == a && q.office == b && q.lasts(today));
            } else {
                for (int day = today; day <= 999 && !holds && !c.papers.isEmpty(); day++) {
                    int d = day;
                    holds = c.papers.stream().anyMatch(q -> q.kind == a && q.office == b && q.lasts(d));
                    last = holds ? Math.max(last, d) : last;
                }
            }
            if (!holds) {
                return -1;
            }
        }
        return last + g.after;
    }

    private int binding(int person, int matter, int land, int day) {
        int value = -2;
        for (Judgment j : judgments) {
            if (j.person == person && j.matter == matter && j.day <= day && taken(land, j.kind, j.office, day)) {
                value = j.value;
            }
        }
        return value;
    }

    private int unlike(int person, int matter, int day) {
        int pairs = 0;
        for (int a = 0; a < book.size("land"); a++) {
            for (int b = a + 1; b < book.size("land"); b++) {
                int x = binding(person, matter, a, day);
                int y = binding(person, matter, b, day);
                pairs += x >= 0 && y >= 0 && x != y ? 1 : 0;
            }
        }
        return pairs;
    }

    // ---- clauses

    /** What is signed, by trying every choice in the order of the document. */
    private int[] signing() {
        int[] choice = new int[9];
        int[] best = null;
        int most = -1;
        while (true) {
            int things = 0;
            int words = 0;
            for (int t = 0; t < 9; t++) {
                if (choice[t] < size(t)) {
                    things++;
                    words |= clauses.get(t).get(choice[t]);
                }
            }
            if (things > most && peaceful(words)) {
                most = things;
                best = choice.clone();
            }
            int t = 8;
            while (t >= 0 && choice[t] >= size(t)) {
                choice[t--] = 0;
            }
            if (t < 0) {
                break;
            }
            choice[t]++;
        }
        for (int t = 0; t < 9; t++) {
            best[t] = best[t] < size(t) ? best[t] : -2;
        }
        return best;
    }

    private int size(int thing) {
        return clauses.containsKey(thing) ? clauses.get(thing).size() : 0;
    }

    private boolean peaceful(int words) {
        return quarrels.stream().noneMatch(q -> (words >> q[0] & 1) == 1 && (words >> q[1] & 1) == 1);
    }

    private long count(int what) {
        int[] all = {book.size("place"), book.size("land"), book.size("office"), book.size("kind"),
            book.size("road"), book.size("law"), book.size("gift"), persons.size(), stamps.size(),
            judgments.size(), quarrels.size(), contracts.size(), today, tape.size()};
        return in(what, all.length) ? all[what] : -1;
    }
}
