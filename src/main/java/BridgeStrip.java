import java.util.NoSuchElementException;

/**
 * A strip by a river that does all that a state does. What each call promises stands in the
 * project's document; README.md tells how the parts of this file divide the work.
 *
 * All rows are made once, in the constructors, and used again by every later call: no call but
 * the constructor makes an object, save for the exception that led() throws.
 */
public final class BridgeStrip {
    public static final int NONE = -1;

    /** What a call answers that was not refused and has nothing to name. */
    private static final int NOTHING = -2;

    private static final int LAST_DAY = 999;
    /** A day or a coin that no way comes to: above all days (1,059) and all coins of a way. */
    private static final int NEVER = 1_000_000;

    private static final int TAPE_ROOM = 700;
    private static final int FED_AT_ONCE = 20;

    private static final int NO_TROUBLE = 0;
    private static final int NO_SUCH = 1;
    private static final int BAD_NUMBER = 2;
    private static final int NO_ROOM = 3;
    private static final int FAULTY = 4;
    private static final int NOT_SO = 5;
    private static final int NO_WAY = 6;

    private static final int PLACE = 0;
    private static final int LAND = 1;
    private static final int OFFICE = 2;
    private static final int KIND = 3;

    private final byte[] tape = new byte[TAPE_ROOM];
    private int tapeLength;

    private Book now = new Book();
    /** Where the next book is read into, so that a faulty one leaves the present one alone. */
    private Book spare = new Book();
    private final Reader reader = new Reader(tape, spare);
    private boolean hasBook;
    private int today;

    private final People people = new People();
    private final Ways ways = new Ways(people);
    private final Loads loads = new Loads();
    private final Court court = new Court();
    private final Treaty treaty = new Treaty();
    private final Ledger ledger = new Ledger();

    private int trouble;
    private int latestFault;

    public BridgeStrip() {
    }

    // ---- the book

    public int feed(int a, int b, int c, int d, int e) {
        if (tapeLength + FED_AT_ONCE > TAPE_ROOM) {
            return NONE;
        }
        putBytes(a);
        putBytes(b);
        putBytes(c);
        putBytes(d);
        putBytes(e);
        return tapeLength;
    }

    private void putBytes(int number) {
        for (int shift = 24; shift >= 0; shift -= 8) {
            if (tapeLength < TAPE_ROOM) {
                tape[tapeLength] = (byte) (number >> shift);
                tapeLength++;
            }
        }
    }

    public int book(int n) {
        if (n < 0 || n > tapeLength) {
            return refuse(BAD_NUMBER);
        }
        tapeLength = 0;
        spare.clear();
        boolean read = reader.read(n, spare, false, 0);
        latestFault = reader.fault;
        if (!read) {
            return refuse(FAULTY);
        }
        Book former = now;
        now = spare;
        spare = former;
        beginAnew();
        return grant(now.laws.count);
    }

    private void beginAnew() {
        hasBook = true;
        today = 0;
        people.count = 0;
        loads.clear();
        court.count = 0;
        treaty.clear();
        ledger.clear();
    }

    public int laws(int n) {
        if (!hasBook) {
            return refuse(NO_SUCH);
        }
        if (n < 0 || n > tapeLength) {
            return refuse(BAD_NUMBER);
        }
        tapeLength = 0;
        int before = now.laws.count;
        boolean read = reader.read(n, now, true, today);
        latestFault = reader.fault;
        if (!read) {
            now.laws.count = before;
            return refuse(FAULTY);
        }
        return grant(now.laws.count);
    }

    public int fault() {
        return latestFault;
    }

    public int where() {
        return trouble == FAULTY ? reader.faultPlace : NONE;
    }

    public int pass(int days) {
        if (!hasBook) {
            return refuse(NO_SUCH);
        }
        if (days < 1 || days > 400 || today + days > LAST_DAY) {
            return refuse(BAD_NUMBER);
        }
        today += days;
        return grant(today);
    }

    public int takes(int land, int kind, int office, int day, int known) {
        int refusal = rulingRefusal(land, kind, office, day, known);
        if (refusal != NO_TROUBLE) {
            return refuse(refusal);
        }
        int law = now.laws.ruling(land, kind, office, day, known);
        return grant(now.laws.saysTakes(law) ? 1 : 0);
    }

    public int why(int land, int kind, int office, int day, int known) {
        int refusal = rulingRefusal(land, kind, office, day, known);
        if (refusal != NO_TROUBLE) {
            return refuse(refusal);
        }
        int law = now.laws.ruling(land, kind, office, day, known);
        return grant(law == NONE ? NOTHING : law);
    }

    private int rulingRefusal(int land, int kind, int office, int day, int known) {
        if (!now.has(LAND, land) || !isPaperSort(kind, office)) {
            return NO_SUCH;
        }
        return isDay(day) && isDay(known) ? NO_TROUBLE : BAD_NUMBER;
    }

    // ---- persons, papers, roads

    public int person(int place) {
        if (!now.has(PLACE, place)) {
            return refuse(NO_SUCH);
        }
        if (!people.hasRoom()) {
            return refuse(NO_ROOM);
        }
        return grant(people.add(place));
    }

    public int paper(int person, int kind, int office, int from, int to) {
        if (!people.has(person) || !isPaperSort(kind, office)) {
            return refuse(NO_SUCH);
        }
        if (!isDay(from) || !isDay(to) || to < from) {
            return refuse(BAD_NUMBER);
        }
        if (!people.hasPaperRoom(person)) {
            return refuse(NO_ROOM);
        }
        people.give(person, kind, office, from, to);
        return grant(people.papers[person]);
    }

    public int held(int person, int i, int what) {
        if (!people.has(person) || i < 0 || i >= people.papers[person]) {
            return NONE;
        }
        int paper = People.firstPaper(person) + i;
        switch (what) {
            case 0:
                return people.kind[paper];
            case 1:
                return people.office[paper];
            case 2:
                return people.from[paper];
            case 3:
                return people.to[paper];
            default:
                return NONE;
        }
    }

    public boolean move(int person, int place) {
        if (!people.has(person) || !now.has(PLACE, place)) {
            return decline(NO_SUCH);
        }
        if (people.place[person] == place) {
            return decline(NOT_SO);
        }
        people.place[person] = place;
        trouble = NO_TROUBLE;
        return true;
    }

    public int is(int person, int kind, int day) {
        if (!people.has(person) || !now.has(KIND, kind)) {
            return refuse(NO_SUCH);
        }
        if (!isDay(day)) {
            return refuse(BAD_NUMBER);
        }
        return grant(people.goodLands(person, kind, day, now));
    }

    public int nowhere(int kind, int day) {
        if (!now.has(KIND, kind)) {
            return refuse(NO_SUCH);
        }
        if (!isDay(day)) {
            return refuse(BAD_NUMBER);
        }
        int lost = 0;
        for (int person = 0; person < people.count; person++) {
            if (people.hasLasting(person, kind, day)
                    && people.goodLands(person, kind, day, now) == 0) {
                lost++;
            }
        }
        return grant(lost);
    }

    public int open(int person, int road, int day) {
        if (!people.has(person) || road < 0 || road >= now.roads.count) {
            return refuse(NO_SUCH);
        }
        if (!isDay(day)) {
            return refuse(BAD_NUMBER);
        }
        return grant(ways.isOpen(now, person, road, day) ? 1 : 0);
    }

    public int first(int person, int place, int day) {
        int refusal = travelRefusal(person, place, day);
        if (refusal != NO_TROUBLE) {
            return refuse(refusal);
        }
        ways.findDays(now, person, day);
        return grantWay(ways.least[place]);
    }

    public int cheap(int person, int place, int day) {
        int refusal = travelRefusal(person, place, day);
        if (refusal != NO_TROUBLE) {
            return refuse(refusal);
        }
        ways.findCoins(now, person, day);
        return grantWay(ways.least[place]);
    }

    private int travelRefusal(int person, int place, int day) {
        if (!people.has(person) || !now.has(PLACE, place)) {
            return NO_SUCH;
        }
        return isDay(day) ? NO_TROUBLE : BAD_NUMBER;
    }

    private int grantWay(int found) {
        return found == NEVER ? refuse(NO_WAY) : grant(found);
    }

    public int reach(int person, int day) {
        int refusal = personDayRefusal(person, day);
        if (refusal != NO_TROUBLE) {
            return refuse(refusal);
        }
        return grant(ways.countReach(now, person, day));
    }

    public int opener(int person, int day) {
        int refusal = personDayRefusal(person, day);
        if (refusal != NO_TROUBLE) {
            return refuse(refusal);
        }
        return grant(ways.bestOpener(now, person, day));
    }

    private int personDayRefusal(int person, int day) {
        if (!people.has(person)) {
            return NO_SUCH;
        }
        return isDay(day) ? NO_TROUBLE : BAD_NUMBER;
    }

    // ---- loads

    public int stamp(int kind, int office, int coin) {
        if (!isPaperSort(kind, office)) {
            return refuse(NO_SUCH);
        }
        if (coin < 0 || coin > 999) {
            return refuse(BAD_NUMBER);
        }
        if (loads.count >= Loads.ROOM) {
            return refuse(NO_ROOM);
        }
        return grant(loads.add(kind, office, coin));
    }

    public int least(int from, int to, int day) {
        if (!now.has(PLACE, from) || !now.has(PLACE, to)) {
            return refuse(NO_SUCH);
        }
        if (!isDay(day)) {
            return refuse(BAD_NUMBER);
        }
        return grantWay(loads.buy(now, from, to, day));
    }

    public int bought() {
        return loads.bought;
    }

    // ---- children, judgments

    public int child(int parent) {
        if (!people.has(parent)) {
            return refuse(NO_SUCH);
        }
        if (!people.hasRoom()) {
            return refuse(NO_ROOM);
        }
        int born = people.add(people.place[parent]);
        now.gifts.giveAll(people, born, parent, today);
        return grant(born);
    }

    public int judge(int kind, int office, int person, int matter, int value) {
        if (!isPaperSort(kind, office) || !people.has(person)) {
            return refuse(NO_SUCH);
        }
        if (!Court.isMatter(matter) || value < 0 || value > 99) {
            return refuse(BAD_NUMBER);
        }
        if (court.count >= Court.ROOM) {
            return refuse(NO_ROOM);
        }
        return grant(court.add(kind, office, person, matter, value, today));
    }

    public int binds(int person, int matter, int land, int day) {
        if (!people.has(person) || !now.has(LAND, land)) {
            return refuse(NO_SUCH);
        }
        if (!Court.isMatter(matter) || !isDay(day)) {
            return refuse(BAD_NUMBER);
        }
        return grant(court.bindingValue(person, matter, land, day, now.laws));
    }

    public int unlike(int person, int matter, int day) {
        if (!people.has(person)) {
            return refuse(NO_SUCH);
        }
        if (!Court.isMatter(matter) || !isDay(day)) {
            return refuse(BAD_NUMBER);
        }
        return grant(court.countUnlike(person, matter, day, now));
    }

    // ---- clauses, debts

    public int clause(int thing, int words) {
        if (!hasBook || !Treaty.isThing(thing)) {
            return refuse(NO_SUCH);
        }
        if (words < 0 || words > 65_535) {
            return refuse(BAD_NUMBER);
        }
        if (!treaty.hasClauseRoom(thing)) {
            return refuse(NO_ROOM);
        }
        return grant(treaty.addClause(thing, words));
    }

    public int quarrel(int a, int b) {
        if (!hasBook) {
            return refuse(NO_SUCH);
        }
        if (!Treaty.isWord(a) || !Treaty.isWord(b)) {
            return refuse(BAD_NUMBER);
        }
        if (treaty.quarrels >= Treaty.QUARRELS) {
            return refuse(NO_ROOM);
        }
        return grant(treaty.addQuarrel(a, b));
    }

    public int signed() {
        if (!hasBook) {
            return refuse(NO_SUCH);
        }
        treaty.settle();
        return grant(treaty.most);
    }

    public int signs(int thing) {
        if (!hasBook || !Treaty.isThing(thing)) {
            return refuse(NO_SUCH);
        }
        treaty.settle();
        return grant(treaty.chosen[thing]);
    }

    public int contract(int person, int price) {
        if (!people.has(person)) {
            return refuse(NO_SUCH);
        }
        if (price < 1 || price > 999) {
            return refuse(BAD_NUMBER);
        }
        if (ledger.count >= Ledger.ROOM) {
            return refuse(NO_ROOM);
        }
        return grant(ledger.add(person, price));
    }

    public long burn(int contract, int units) {
        if (!ledger.has(contract)) {
            return refuse(NO_SUCH);
        }
        if (units < 1 || units > 1_000) {
            return refuse(BAD_NUMBER);
        }
        trouble = NO_TROUBLE;
        return ledger.charge(contract, units);
    }

    public boolean rename(int contract, int person) {
        if (!ledger.has(contract) || !people.has(person)) {
            return decline(NO_SUCH);
        }
        if (ledger.name[contract] == person) {
            return decline(NOT_SO);
        }
        ledger.name[contract] = person;
        trouble = NO_TROUBLE;
        return true;
    }

    public long owed(int person) {
        return people.has(person) ? ledger.debt[person] : NONE;
    }

    public int led(int person, int place, int day, int i) throws NoSuchElementException {
        if (travelRefusal(person, place, day) != NO_TROUBLE) {
            throw new NoSuchElementException("no such person, place or day");
        }
        ways.findDays(now, person, day);
        int steps = ways.trace(now.roads, place);
        if (i < 0 || i >= steps) {
            throw new NoSuchElementException("no such place on the way");
        }
        return ways.trail[steps - 1 - i];
    }

    public int count(int what) {
        switch (what) {
            case 0:
            case 1:
            case 2:
            case 3:
                return now.told[what];
            case 4:
                return now.roads.count;
            case 5:
                return now.laws.count;
            case 6:
                return now.gifts.count;
            case 7:
                return people.count;
            case 8:
                return loads.count;
            case 9:
                return court.count;
            case 10:
                return treaty.quarrels;
            case 11:
                return ledger.count;
            case 12:
                return today;
            case 13:
                return tapeLength;
            default:
                return NONE;
        }
    }

    public int trouble() {
        return trouble;
    }

    private int grant(int answer) {
        trouble = NO_TROUBLE;
        return answer;
    }

    private int refuse(int reason) {
        trouble = reason;
        return NONE;
    }

    private boolean decline(int reason) {
        trouble = reason;
        return false;
    }

    private boolean isPaperSort(int kind, int office) {
        return now.has(KIND, kind) && now.has(OFFICE, office);
    }

    private static boolean isDay(int day) {
        return day >= 0 && day <= LAST_DAY;
    }

    /** The names that a book tells, with its roads, laws and gifts. */
    private static final class Book {
        private static final int[] ROOM = {8, 5, 6, 6};
        private static final int NAMES = 25;

        /** How many there are of PLACE, LAND, OFFICE and KIND. */
        final int[] told = new int[4];
        final long[] name = new long[NAMES];
        final int[] sort = new int[NAMES];
        final int[] number = new int[NAMES];
        int names;
        final Roads roads = new Roads();
        final Laws laws = new Laws();
        final Gifts gifts = new Gifts();

        void clear() {
            for (int i = 0; i < told.length; i++) {
                told[i] = 0;
            }
            names = 0;
            roads.count = 0;
            laws.count = 0;
            gifts.count = 0;
        }

        boolean has(int ofSort, int i) {
            return i >= 0 && i < told[ofSort];
        }

        boolean hasRoom(int ofSort) {
            return names < NAMES && told[ofSort] < ROOM[ofSort];
        }

        void tell(long word, int ofSort) {
            name[names] = word;
            sort[names] = ofSort;
            number[names] = told[ofSort];
            names++;
            told[ofSort]++;
        }

        int find(long word) {
            for (int i = 0; i < names; i++) {
                if (name[i] == word) {
                    return i;
                }
            }
            return NONE;
        }
    }

    private static final class Roads {
        private static final int ROOM = 16;
        private static final int POSTS = 3;

        final int[] one = new int[ROOM];
        final int[] other = new int[ROOM];
        final int[] days = new int[ROOM];
        final int[] coin = new int[ROOM];
        final int[] posts = new int[ROOM];
        /** Of the posts of road r, those from r times POSTS on: the KIND, and the LAND that asks. */
        final int[] asked = new int[ROOM * POSTS];
        final int[] asking = new int[ROOM * POSTS];
        int count;

        boolean hasRoom() {
            return count < ROOM;
        }

        void add(int from, int to, int inDays, int forCoin) {
            one[count] = from;
            other[count] = to;
            days[count] = inDays;
            coin[count] = forCoin;
            posts[count] = 0;
            count++;
        }

        boolean lastHasPostRoom() {
            return count > 0 && posts[count - 1] < POSTS;
        }

        void addPostToLast(int kind, int land) {
            int road = count - 1;
            int post = road * POSTS + posts[road];
            asked[post] = kind;
            asking[post] = land;
            posts[road]++;
        }

        /** The other end of a road, NONE if it doesn't touch the place. */
        int across(int road, int place) {
            if (one[road] == place) {
                return other[road];
            }
            return other[road] == place ? one[road] : NONE;
        }
    }

    private static final class Laws {
        private static final int ROOM = 24;

        final int[] land = new int[ROOM];
        final int[] kind = new int[ROOM];
        final int[] office = new int[ROOM];
        final boolean[] accepting = new boolean[ROOM];
        final int[] since = new int[ROOM];
        final int[] until = new int[ROOM];
        final int[] known = new int[ROOM];
        int count;

        boolean hasRoom() {
            return count < ROOM;
        }

        void add(int inLand, int ofKind, int ofOffice, boolean accepts, int from, int to, int knownFrom) {
            land[count] = inLand;
            kind[count] = ofKind;
            office[count] = ofOffice;
            accepting[count] = accepts;
            since[count] = from;
            until[count] = to;
            known[count] = knownFrom;
            count++;
        }

        /** The law that decides, the latest of those that apply; NONE without one. */
        int ruling(int inLand, int ofKind, int ofOffice, int day, int knownOn) {
            for (int i = count - 1; i >= 0; i--) {
                if (land[i] == inLand && kind[i] == ofKind && office[i] == ofOffice
                        && since[i] <= day && day <= until[i] && known[i] <= knownOn) {
                    return i;
                }
            }
            return NONE;
        }

        boolean saysTakes(int law) {
            return law >= 0 && law < count && accepting[law];
        }

        boolean acceptOn(int day, int inLand, int ofKind, int ofOffice) {
            return saysTakes(ruling(inLand, ofKind, ofOffice, day, day));
        }

        /** The least day behind this one on which a law of a land on a kind begins to count or has ended. */
        int changeBehind(int day, int inLand, int ofKind) {
            int soonest = NEVER;
            for (int i = 0; i < count; i++) {
                if (land[i] == inLand && kind[i] == ofKind) {
                    soonest = sooner(soonest, since[i], day);
                    soonest = sooner(soonest, until[i] + 1, day);
                    soonest = sooner(soonest, known[i], day);
                }
            }
            return soonest;
        }

        static int sooner(int soonest, int candidate, int behind) {
            return candidate > behind && candidate < soonest ? candidate : soonest;
        }
    }

    private static final class Gifts {
        private static final int ROOM = 12;
        private static final int CASES = 3;
        private static final int BORN = 0;
        private static final int PARENT = 1;
        private static final int HOLDS = 2;

        final int[] kind = new int[ROOM];
        final int[] office = new int[ROOM];
        final int[] after = new int[ROOM];
        final int[] cases = new int[ROOM];
        /** Of the cases of gift g, those from g times CASES on: the sort, its PLACE or KIND, its OFFICE. */
        final int[] caseSort = new int[ROOM * CASES];
        final int[] caseSubject = new int[ROOM * CASES];
        final int[] caseOffice = new int[ROOM * CASES];
        final boolean[] past = new boolean[ROOM];
        int count;

        boolean hasRoom() {
            return count < ROOM;
        }

        void add(int ofKind, int ofOffice, int afterDays) {
            kind[count] = ofKind;
            office[count] = ofOffice;
            after[count] = afterDays;
            cases[count] = 0;
            count++;
        }

        boolean lastHasCaseRoom() {
            return count > 0 && cases[count - 1] < CASES;
        }

        void addCaseToLast(int sort, int subject, int ofOffice) {
            int gift = count - 1;
            int at = gift * CASES + cases[gift];
            caseSort[at] = sort;
            caseSubject[at] = subject;
            caseOffice[at] = ofOffice;
            cases[gift]++;
        }

        /** Gives a child all that it can come to, always the soonest next: what it has then may open more. */
        void giveAll(People people, int child, int parent, int birth) {
            for (int gift = 0; gift < count; gift++) {
                past[gift] = false;
            }
            for (int round = 0; round < count && people.hasPaperRoom(child); round++) {
                int next = NONE;
                int day = LAST_DAY + 1;
                for (int gift = 0; gift < count; gift++) {
                    int due = past[gift] ? NEVER : dueDay(gift, people, child, parent, birth);
                    if (due < day) {
                        next = gift;
                        day = due;
                    }
                }
                if (next == NONE) {
                    return;
                }
                past[next] = true;
                if (people.dayHad(child, kind[next], office[next], birth) > day) {
                    people.give(child, kind[next], office[next], day, LAST_DAY);
                }
            }
        }

        private int dueDay(int gift, People people, int child, int parent, int birth) {
            int last = birth;
            for (int i = 0; i < cases[gift]; i++) {
                int day = caseDay(gift * CASES + i, people, child, parent, birth);
                if (day == NEVER) {
                    return NEVER;
                }
                last = Math.max(last, day);
            }
            return last + after[gift];
        }

        private int caseDay(int at, People people, int child, int parent, int birth) {
            int subject = caseSubject[at];
            if (caseSort[at] == BORN) {
                return people.place[child] == subject ? birth : NEVER;
            }
            if (caseSort[at] == PARENT) {
                return people.dayHad(parent, subject, caseOffice[at], birth) == birth ? birth : NEVER;
            }
            return people.dayHad(child, subject, caseOffice[at], birth);
        }
    }

    /** Reads the text of a book or of later laws, token by token, up to the first fault. */
    private static final class Reader {
        private static final int FORM = 1;
        private static final int UNTOLD = 2;
        private static final int AGAIN = 3;
        private static final int BOUNDS = 4;
        private static final int MANY = 5;

        private static final int END = 0;
        private static final int WORD = 1;
        private static final int WHOLE = 2;
        private static final int SIGN = 3;
        /** What begins no token: it fits nowhere, so it is a fault of form where it is met. */
        private static final int WRONG = 4;

        private static final int WORD_ROOM = 8;
        private static final int WHOLE_ROOM = 4;
        private static final int BLANK = 32;

        int fault;
        int faultPlace;

        /** The words that are no names, as numbers: a look at one calls nothing, so that calls stay few deep. */
        private final long[] reserved = {numberOf("place"), numberOf("land"), numberOf("office"),
            numberOf("kind"), numberOf("road"), numberOf("law"), numberOf("gift"), numberOf("ask"),
            numberOf("until"), numberOf("if")};
        private final byte[] text;
        private int end;
        private Book book;
        private int knownFrom;
        private boolean lawsAlone;

        private int token;
        private int start;
        private int next;
        /** The latest word's letters, five bits each: unlike words have unlike numbers. */
        private long word;
        private int whole;

        Reader(byte[] tape, Book into) {
            text = tape;
            book = into;
        }

        /** Reads the first bytes of the tape into a book: whether there was no fault. */
        boolean read(int length, Book into, boolean onlyLaws, int known) {
            end = Math.min(length, text.length);
            book = into;
            lawsAlone = onlyLaws;
            knownFrom = known;
            fault = 0;
            faultPlace = NONE;
            next = 0;
            step();
            for (int line = 0; line <= end; line++) {
                if (!readLine()) {
                    return false;
                }
                if (token == END) {
                    return true;
                }
                if (token != SIGN) {
                    return fail(FORM);
                }
                step();
            }
            return fail(FORM);
        }

        private boolean readLine() {
            if (sees("law")) {
                return readLaw();
            }
            if (lawsAlone) {
                return fail(FORM);
            }
            if (sees("place")) {
                return readName(PLACE);
            }
            if (sees("land")) {
                return readName(LAND);
            }
            if (sees("office")) {
                return readName(OFFICE);
            }
            if (sees("kind")) {
                return readName(KIND);
            }
            if (sees("road")) {
                return readRoad();
            }
            return sees("gift") ? readGift() : fail(FORM);
        }

        private boolean readName(int sort) {
            if (!book.hasRoom(sort)) {
                return fail(MANY);
            }
            step();
            if (!isName()) {
                return fail(FORM);
            }
            if (book.find(word) != NONE) {
                return fail(AGAIN);
            }
            book.tell(word, sort);
            step();
            return true;
        }

        private boolean readRoad() {
            if (!book.roads.hasRoom()) {
                return fail(MANY);
            }
            step();
            int one = use(PLACE);
            int second = start;
            int other = one == NONE ? NONE : use(PLACE);
            if (other == NONE) {
                return false;
            }
            if (other == one) {
                return failAt(AGAIN, second);
            }
            int days = goBy("days") ? number(1, 60) : NONE;
            int coin = days != NONE && goBy("coin") ? number(0, 999) : NONE;
            if (coin == NONE) {
                return false;
            }
            book.roads.add(one, other, days, coin);
            for (int post = 0; post <= Roads.POSTS && sees("ask"); post++) {
                if (!readPost()) {
                    return false;
                }
            }
            return true;
        }

        private boolean readPost() {
            if (!book.roads.lastHasPostRoom()) {
                return fail(MANY);
            }
            step();
            int kind = use(KIND);
            int land = kind != NONE && goBy("by") ? use(LAND) : NONE;
            if (land == NONE) {
                return false;
            }
            book.roads.addPostToLast(kind, land);
            return true;
        }

        private boolean readLaw() {
            if (!book.laws.hasRoom()) {
                return fail(MANY);
            }
            step();
            int land = use(LAND);
            if (land == NONE) {
                return false;
            }
            boolean accepts = sees("takes");
            if (!accepts && !sees("bars")) {
                return fail(FORM);
            }
            step();
            int kind = use(KIND);
            int office = kind != NONE && goBy("of") ? use(OFFICE) : NONE;
            int since = office != NONE && goBy("since") ? number(0, LAST_DAY) : NONE;
            if (since == NONE) {
                return false;
            }
            int until = LAST_DAY;
            if (sees("until")) {
                step();
                until = number(since, LAST_DAY);
            }
            if (until == NONE) {
                return false;
            }
            book.laws.add(land, kind, office, accepts, since, until, knownFrom);
            return true;
        }

        private boolean readGift() {
            if (!book.gifts.hasRoom()) {
                return fail(MANY);
            }
            step();
            int kind = use(KIND);
            int office = kind != NONE && goBy("of") ? use(OFFICE) : NONE;
            int after = office != NONE && goBy("after") ? number(0, 400) : NONE;
            if (after == NONE) {
                return false;
            }
            book.gifts.add(kind, office, after);
            for (int i = 0; i <= Gifts.CASES && sees("if"); i++) {
                if (!readCase()) {
                    return false;
                }
            }
            return true;
        }

        private boolean readCase() {
            if (!book.gifts.lastHasCaseRoom()) {
                return fail(MANY);
            }
            step();
            if (sees("born")) {
                step();
                int place = use(PLACE);
                if (place == NONE) {
                    return false;
                }
                book.gifts.addCaseToLast(Gifts.BORN, place, NONE);
                return true;
            }
            boolean ofParent = sees("parent");
            if (!ofParent && !sees("holds")) {
                return fail(FORM);
            }
            step();
            int kind = use(KIND);
            int office = kind != NONE && goBy("of") ? use(OFFICE) : NONE;
            if (office == NONE) {
                return false;
            }
            book.gifts.addCaseToLast(ofParent ? Gifts.PARENT : Gifts.HOLDS, kind, office);
            return true;
        }

        /** The number behind a name of this sort; NONE with a fault. */
        private int use(int sort) {
            if (!isName()) {
                fail(FORM);
                return NONE;
            }
            int found = book.find(word);
            if (found == NONE || book.sort[found] != sort) {
                fail(UNTOLD);
                return NONE;
            }
            step();
            return book.number[found];
        }

        /** A whole within bounds; NONE with a fault. */
        private int number(int low, int high) {
            if (token != WHOLE) {
                fail(FORM);
                return NONE;
            }
            if (whole < low || whole > high) {
                fail(BOUNDS);
                return NONE;
            }
            int read = whole;
            step();
            return read;
        }

        private boolean goBy(String keyword) {
            if (!sees(keyword)) {
                return fail(FORM);
            }
            step();
            return true;
        }

        private boolean sees(String keyword) {
            if (token != WORD || next - start != keyword.length()) {
                return false;
            }
            for (int i = 0; i < keyword.length(); i++) {
                if (text[start + i] != keyword.charAt(i)) {
                    return false;
                }
            }
            return true;
        }

        private boolean isName() {
            boolean free = token == WORD;
            for (int i = 0; i < reserved.length; i++) {
                free = free && word != reserved[i];
            }
            return free;
        }

        /** The number that a word of these letters has behind stepOverWord(). */
        private static long numberOf(String letters) {
            long number = 0;
            for (int i = 0; i < letters.length(); i++) {
                number = number * 32 + (letters.charAt(i) - 'a' + 1);
            }
            return number;
        }

        private void step() {
            start = next;
            while (start < end && text[start] == BLANK) {
                start++;
            }
            next = start;
            int sign = start < end ? text[start] : BLANK;
            if (sign >= 'a' && sign <= 'z') {
                stepOverWord();
            } else if (sign >= '0' && sign <= '9') {
                stepOverWhole();
            } else if (start < end) {
                token = sign == ';' ? SIGN : WRONG;
                next = start + 1;
            } else {
                token = END;
            }
        }

        private void stepOverWord() {
            word = 0;
            while (next < end && text[next] >= 'a' && text[next] <= 'z') {
                word = word * 32 + (text[next] - 'a' + 1);
                next++;
            }
            token = next - start <= WORD_ROOM ? WORD : WRONG;
        }

        private void stepOverWhole() {
            whole = 0;
            while (next < end && text[next] >= '0' && text[next] <= '9') {
                whole = whole * 10 + (text[next] - '0');
                next++;
            }
            token = next - start <= WHOLE_ROOM ? WHOLE : WRONG;
        }

        private boolean fail(int sort) {
            return failAt(sort, start);
        }

        private boolean failAt(int sort, int place) {
            fault = sort;
            faultPlace = place;
            return false;
        }
    }

    private static final class People {
        private static final int ROOM = 30;
        private static final int PAPERS = 8;

        final int[] place = new int[ROOM];
        final int[] papers = new int[ROOM];
        final int[] kind = new int[ROOM * PAPERS];
        final int[] office = new int[ROOM * PAPERS];
        final int[] from = new int[ROOM * PAPERS];
        final int[] to = new int[ROOM * PAPERS];
        int count;

        boolean has(int person) {
            return person >= 0 && person < count;
        }

        boolean hasRoom() {
            return count < ROOM;
        }

        int add(int atPlace) {
            place[count] = atPlace;
            papers[count] = 0;
            count++;
            return count - 1;
        }

        static int firstPaper(int person) {
            return person * PAPERS;
        }

        int endOfPapers(int person) {
            return person * PAPERS + papers[person];
        }

        boolean hasPaperRoom(int person) {
            return papers[person] < PAPERS;
        }

        void give(int person, int ofKind, int ofOffice, int fromDay, int toDay) {
            int paper = endOfPapers(person);
            kind[paper] = ofKind;
            office[paper] = ofOffice;
            from[paper] = fromDay;
            to[paper] = toDay;
            papers[person]++;
        }

        private boolean lasts(int paper, int day) {
            return from[paper] <= day && day <= to[paper];
        }

        boolean hasLasting(int person, int ofKind, int day) {
            int end = endOfPapers(person);
            for (int paper = firstPaper(person); paper < end; paper++) {
                if (kind[paper] == ofKind && lasts(paper, day)) {
                    return true;
                }
            }
            return false;
        }

        boolean hasGood(int person, int ofKind, int land, int day, Laws laws) {
            int end = endOfPapers(person);
            for (int paper = firstPaper(person); paper < end; paper++) {
                if (kind[paper] == ofKind && lasts(paper, day)
                        && laws.acceptOn(day, land, ofKind, office[paper])) {
                    return true;
                }
            }
            return false;
        }

        int goodLands(int person, int ofKind, int day, Book book) {
            int lands = 0;
            for (int land = 0; land < book.told[LAND]; land++) {
                if (hasGood(person, ofKind, land, day, book.laws)) {
                    lands |= 1 << land;
                }
            }
            return lands;
        }

        /** The first day, this one at the earliest, on which a person has such a paper, or NEVER. */
        int dayHad(int person, int ofKind, int ofOffice, int earliest) {
            int day = NEVER;
            int end = endOfPapers(person);
            for (int paper = firstPaper(person); paper < end; paper++) {
                if (kind[paper] == ofKind && office[paper] == ofOffice && earliest <= to[paper]) {
                    day = Math.min(day, Math.max(from[paper], earliest));
                }
            }
            return day;
        }

        /** The least day behind this one on which a person's paper of a kind begins, or NEVER. */
        int beginningBehind(int day, int person, int ofKind) {
            int soonest = NEVER;
            int end = endOfPapers(person);
            for (int paper = firstPaper(person); paper < end; paper++) {
                if (kind[paper] == ofKind) {
                    soonest = Laws.sooner(soonest, from[paper], day);
                }
            }
            return soonest;
        }
    }

    /** The ways of a person: by days, by coin, and how far they go. */
    private static final class Ways {
        private static final int PLACES = 8;

        final People people;
        /** What the latest search found for each place: a day or a coin, or NEVER. */
        final int[] least = new int[PLACES];
        /** The latest traced way, from its end back. */
        final int[] trail = new int[PLACES];
        private final int[] by = new int[PLACES];
        private final boolean[] settled = new boolean[PLACES];
        private final boolean[] postMet = new boolean[Roads.ROOM * Roads.POSTS];
        private final boolean[] roadOpen = new boolean[Roads.ROOM];

        Ways(People travellers) {
            people = travellers;
        }

        boolean isOpen(Book book, int person, int road, int day) {
            Roads roads = book.roads;
            for (int i = 0; i < roads.posts[road]; i++) {
                int post = road * Roads.POSTS + i;
                if (!people.hasGood(person, roads.asked[post], roads.asking[post], day, book.laws)) {
                    return false;
                }
            }
            return true;
        }

        /**
         * FIRST for every place, with the road by which. Waiting is free, so being somewhere sooner
         * never makes a way later; and each road takes a day at least, so all places from which one
         * can be somewhere on its FIRST are settled ahead of it.
         */
        void findDays(Book book, int person, int day) {
            begin(people.place[person], day);
            for (int round = 0; round < book.told[PLACE]; round++) {
                int at = soonestUnsettled(book.told[PLACE]);
                if (at == NONE) {
                    return;
                }
                settled[at] = true;
                for (int road = 0; road < book.roads.count; road++) {
                    int to = book.roads.across(road, at);
                    if (to != NONE && !settled[to]) {
                        offerDay(to, road, comingDay(book, person, road, least[at]));
                    }
                }
            }
        }

        private void offerDay(int place, int road, int day) {
            if (day < least[place] || day == least[place] && day != NEVER && road < by[place]) {
                least[place] = day;
                by[place] = road;
            }
        }

        private void begin(int place, int value) {
            for (int i = 0; i < PLACES; i++) {
                least[i] = NEVER;
                by[i] = NONE;
                settled[i] = false;
            }
            least[place] = value;
        }

        private int soonestUnsettled(int places) {
            int soonest = NONE;
            int day = NEVER;
            for (int place = 0; place < places; place++) {
                if (!settled[place] && least[place] < day) {
                    soonest = place;
                    day = least[place];
                }
            }
            return soonest;
        }

        /** The day of coming over a road by going as soon as one can from a day on, or NEVER. */
        private int comingDay(Book book, int person, int road, int from) {
            int day = from;
            for (int tries = 0; tries <= LAST_DAY && day <= LAST_DAY; tries++) {
                if (isOpen(book, person, road, day)) {
                    return day + book.roads.days[road];
                }
                day = openingBehind(book, person, road, day);
            }
            return NEVER;
        }

        /**
         * The least day behind this one on which a closed road may have opened, or NEVER: only a law
         * that begins, is known or has ended, or a paper that begins, can open one.
         */
        private int openingBehind(Book book, int person, int road, int day) {
            Roads roads = book.roads;
            int soonest = NEVER;
            for (int i = 0; i < roads.posts[road]; i++) {
                int post = road * Roads.POSTS + i;
                int byLaw = book.laws.changeBehind(day, roads.asking[post], roads.asked[post]);
                int byPaper = people.beginningBehind(day, person, roads.asked[post]);
                soonest = Math.min(soonest, Math.min(byLaw, byPaper));
            }
            return soonest;
        }

        /** Lays the way of FIRST to a place into the trail, behind findDays(): how many places, 0 without one. */
        int trace(Roads roads, int place) {
            int at = place;
            for (int steps = 1; steps <= PLACES && least[at] != NEVER; steps++) {
                trail[steps - 1] = at;
                int ahead = by[at] == NONE ? NONE : roads.across(by[at], at);
                if (ahead == NONE) {
                    return steps;
                }
                at = ahead;
            }
            return 0;
        }

        void findCoins(Book book, int person, int day) {
            meetPosts(book, person, day);
            openRoads(book, NONE, NONE, day);
            begin(people.place[person], 0);
            for (int round = 1; round < book.told[PLACE]; round++) {
                for (int road = 0; road < book.roads.count; road++) {
                    if (roadOpen[road]) {
                        lowerEnds(book.roads, road);
                    }
                }
            }
        }

        private void lowerEnds(Roads roads, int road) {
            int one = roads.one[road];
            int other = roads.other[road];
            int coin = roads.coin[road];
            if (least[one] != NEVER) {
                least[other] = Math.min(least[other], least[one] + coin);
            }
            if (least[other] != NEVER) {
                least[one] = Math.min(least[one], least[other] + coin);
            }
        }

        int countReach(Book book, int person, int day) {
            meetPosts(book, person, day);
            return reachWith(book, person, NONE, NONE, day);
        }

        int bestOpener(Book book, int person, int day) {
            meetPosts(book, person, day);
            int most = reachWith(book, person, NONE, NONE, day);
            int best = NOTHING;
            for (int kind = 0; kind < book.told[KIND]; kind++) {
                for (int office = 0; office < book.told[OFFICE]; office++) {
                    int reached = reachWith(book, person, kind, office, day);
                    if (reached > most) {
                        most = reached;
                        best = 8 * kind + office;
                    }
                }
            }
            return best;
        }

        /** Marks the posts that a person's own papers satisfy. */
        private void meetPosts(Book book, int person, int day) {
            Roads roads = book.roads;
            for (int road = 0; road < roads.count; road++) {
                for (int i = 0; i < roads.posts[road]; i++) {
                    int post = road * Roads.POSTS + i;
                    postMet[post] = people.hasGood(person, roads.asked[post], roads.asking[post], day, book.laws);
                }
            }
        }

        /** Marks the roads that are open by the posts met and one paper more, if there is a kind of it. */
        private void openRoads(Book book, int kind, int office, int day) {
            Roads roads = book.roads;
            for (int road = 0; road < roads.count; road++) {
                roadOpen[road] = true;
                for (int i = 0; i < roads.posts[road]; i++) {
                    int post = road * Roads.POSTS + i;
                    if (!postMet[post] && (roads.asked[post] != kind
                            || !book.laws.acceptOn(day, roads.asking[post], kind, office))) {
                        roadOpen[road] = false;
                    }
                }
            }
        }

        private int reachWith(Book book, int person, int kind, int office, int day) {
            openRoads(book, kind, office, day);
            return Integer.bitCount(spread(book, roadOpen, people.place[person]));
        }

        /** The places, as bits, that hang together with one by the marked roads. */
        static int spread(Book book, boolean[] marked, int place) {
            Roads roads = book.roads;
            int reached = 1 << place;
            for (int round = 1; round < book.told[PLACE]; round++) {
                for (int road = 0; road < roads.count && road < marked.length; road++) {
                    int ends = 1 << roads.one[road] | 1 << roads.other[road];
                    if (marked[road] && (reached & ends) != 0) {
                        reached |= ends;
                    }
                }
            }
            return reached;
        }
    }

    private static final class Loads {
        private static final int ROOM = 9;

        private final int[] kind = new int[ROOM];
        private final int[] office = new int[ROOM];
        private final int[] coin = new int[ROOM];
        /** For each post the stamps, as bits, that it lets by on the day asked for. */
        private final int[] fitting = new int[Roads.ROOM * Roads.POSTS];
        private final boolean[] roadOpen = new boolean[Roads.ROOM];
        int count;
        int bought = NONE;

        void clear() {
            count = 0;
            bought = NONE;
        }

        int add(int ofKind, int ofOffice, int forCoin) {
            kind[count] = ofKind;
            office[count] = ofOffice;
            coin[count] = forCoin;
            count++;
            return count - 1;
        }

        /** The coin of the least set, which is kept as bought; NEVER if no set carries. */
        int buy(Book book, int from, int to, int day) {
            findFitting(book, day);
            int best = NEVER;
            int bestSet = NONE;
            for (int set = 0; set < 1 << count; set++) {
                int cost = costOf(set);
                boolean better = cost < best
                        || cost == best && Integer.bitCount(set) < Integer.bitCount(bestSet);
                if (better && carries(book, set, from, to)) {
                    best = cost;
                    bestSet = set;
                }
            }
            if (best != NEVER) {
                bought = bestSet;
            }
            return best;
        }

        private void findFitting(Book book, int day) {
            Roads roads = book.roads;
            for (int road = 0; road < roads.count; road++) {
                for (int i = 0; i < roads.posts[road]; i++) {
                    int post = road * Roads.POSTS + i;
                    fitting[post] = 0;
                    for (int stamp = 0; stamp < count; stamp++) {
                        if (kind[stamp] == roads.asked[post]
                                && book.laws.acceptOn(day, roads.asking[post], kind[stamp], office[stamp])) {
                            fitting[post] |= 1 << stamp;
                        }
                    }
                }
            }
        }

        private int costOf(int set) {
            int cost = 0;
            for (int stamp = 0; stamp < count; stamp++) {
                if ((set >> stamp & 1) != 0) {
                    cost += coin[stamp];
                }
            }
            return cost;
        }

        private boolean carries(Book book, int set, int from, int to) {
            Roads roads = book.roads;
            for (int road = 0; road < roads.count; road++) {
                roadOpen[road] = true;
                for (int i = 0; i < roads.posts[road]; i++) {
                    if ((fitting[road * Roads.POSTS + i] & set) == 0) {
                        roadOpen[road] = false;
                    }
                }
            }
            return (Ways.spread(book, roadOpen, from) >> to & 1) != 0;
        }
    }

    private static final class Court {
        private static final int ROOM = 20;
        private static final int LANDS = 5;

        private final int[] kind = new int[ROOM];
        private final int[] office = new int[ROOM];
        private final int[] person = new int[ROOM];
        private final int[] matter = new int[ROOM];
        private final int[] value = new int[ROOM];
        private final int[] since = new int[ROOM];
        private final int[] byLand = new int[LANDS];
        int count;

        static boolean isMatter(int number) {
            return number >= 0 && number <= 9;
        }

        int add(int ofKind, int ofOffice, int on, int inMatter, int ofValue, int from) {
            kind[count] = ofKind;
            office[count] = ofOffice;
            person[count] = on;
            matter[count] = inMatter;
            value[count] = ofValue;
            since[count] = from;
            count++;
            return count - 1;
        }

        int bindingValue(int on, int inMatter, int land, int day, Laws laws) {
            for (int i = count - 1; i >= 0; i--) {
                if (person[i] == on && matter[i] == inMatter && since[i] <= day
                        && laws.acceptOn(day, land, kind[i], office[i])) {
                    return value[i];
                }
            }
            return NOTHING;
        }

        int countUnlike(int on, int inMatter, int day, Book book) {
            int pairs = 0;
            for (int land = 0; land < book.told[LAND] && land < LANDS; land++) {
                byLand[land] = bindingValue(on, inMatter, land, day, book.laws);
                for (int other = 0; other < land; other++) {
                    if (byLand[land] != NOTHING && byLand[other] != NOTHING && byLand[land] != byLand[other]) {
                        pairs++;
                    }
                }
            }
            return pairs;
        }
    }

    /** Clauses on things, and quarrels between words. */
    private static final class Treaty {
        private static final int THINGS = 9;
        private static final int CLAUSES = 4;
        private static final int WORDS = 16;
        private static final int QUARRELS = 20;

        private final int[] clauses = new int[THINGS];
        private final int[] words = new int[THINGS * CLAUSES];
        /** For each word those, as bits, that it may not stand with. */
        private final int[] foes = new int[WORDS];
        /** For each clause the words, as bits, that may not stand with it. */
        private final int[] barred = new int[THINGS * CLAUSES];
        private final int[] tried = new int[THINGS];
        final int[] chosen = new int[THINGS];
        int most;
        int quarrels;
        private boolean stale = true;

        void clear() {
            for (int thing = 0; thing < THINGS; thing++) {
                clauses[thing] = 0;
            }
            for (int word = 0; word < WORDS; word++) {
                foes[word] = 0;
            }
            quarrels = 0;
            stale = true;
        }

        static boolean isThing(int number) {
            return number >= 0 && number < THINGS;
        }

        static boolean isWord(int number) {
            return number >= 0 && number < WORDS;
        }

        boolean hasClauseRoom(int thing) {
            return clauses[thing] < CLAUSES;
        }

        int addClause(int thing, int ofWords) {
            words[thing * CLAUSES + clauses[thing]] = ofWords;
            clauses[thing]++;
            stale = true;
            return clauses[thing] - 1;
        }

        int addQuarrel(int a, int b) {
            foes[a] |= 1 << b;
            foes[b] |= 1 << a;
            quarrels++;
            stale = true;
            return quarrels;
        }

        /** Finds what is signed, unless it is known since the latest clause or quarrel. */
        void settle() {
            if (!stale) {
                return;
            }
            for (int thing = 0; thing < THINGS; thing++) {
                chosen[thing] = NOTHING;
                for (int i = 0; i < clauses[thing]; i++) {
                    int clause = thing * CLAUSES + i;
                    barred[clause] = foesOf(words[clause]);
                }
            }
            most = 0;
            choose(0, 0, 0);
            stale = false;
        }

        private int foesOf(int set) {
            int all = 0;
            for (int word = 0; word < WORDS; word++) {
                if ((set >> word & 1) != 0) {
                    all |= foes[word];
                }
            }
            return all;
        }

        /**
         * Tries the clauses of a thing and of those behind it, in the order in which one choice is
         * better than another of as many things: so a later one must have more things to be taken.
         */
        private void choose(int thing, int things, int bars) {
            if (things > most) {
                keepTried(thing);
                most = things;
            }
            if (thing >= THINGS || things + countFree(thing, bars) <= most) {
                return;
            }
            for (int i = 0; i < clauses[thing]; i++) {
                int clause = thing * CLAUSES + i;
                if (mayStand(clause, bars)) {
                    tried[thing] = i;
                    choose(thing + 1, things + 1, bars | barred[clause]);
                }
            }
            tried[thing] = NOTHING;
            choose(thing + 1, things, bars);
        }

        private boolean mayStand(int clause, int bars) {
            return (words[clause] & (bars | barred[clause])) == 0;
        }

        /** How many things from one on have a clause that may stand with what is chosen ahead of it. */
        private int countFree(int from, int bars) {
            int free = 0;
            for (int thing = from; thing < THINGS; thing++) {
                boolean may = false;
                for (int i = 0; i < clauses[thing] && !may; i++) {
                    may = mayStand(thing * CLAUSES + i, bars);
                }
                free += may ? 1 : 0;
            }
            return free;
        }

        /** Keeps what is tried for the things ahead of one, and none for the others. */
        private void keepTried(int end) {
            for (int thing = 0; thing < THINGS; thing++) {
                chosen[thing] = thing < end ? tried[thing] : NOTHING;
            }
        }
    }

    /** Contracts, and what is owed in each person's name. */
    private static final class Ledger {
        private static final int ROOM = 10;

        final int[] name = new int[ROOM];
        private final int[] price = new int[ROOM];
        final long[] debt = new long[People.ROOM];
        int count;

        void clear() {
            count = 0;
            for (int person = 0; person < debt.length; person++) {
                debt[person] = 0;
            }
        }

        boolean has(int contract) {
            return contract >= 0 && contract < count;
        }

        int add(int person, int forUnit) {
            name[count] = person;
            price[count] = forUnit;
            count++;
            return count - 1;
        }

        long charge(int contract, int units) {
            int person = name[contract];
            debt[person] += (long) price[contract] * units;
            return debt[person];
        }
    }
}
