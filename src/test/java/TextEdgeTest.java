import java.util.ArrayList;
import java.util.List;

/**
 * Terms I and promises 2 to 6: each sentence that names a boundary case of the tape or of a text,
 * in the document's order. What is quoted in a comment is the document's.
 */
public final class TextEdgeTest {
    private static final Check CHECK = new Check("TextEdgeTest");
    private static final int LOW = Integer.MIN_VALUE;
    private static final int HIGH = Integer.MAX_VALUE;
    private static final int BLANKS = 0x20202020;
    private static final String NAMES = "place p;place q;land l;office o;kind k;";
    private static final String[] SORTS = {"place", "land", "office", "kind"};
    private static final int[] ROOM = {8, 5, 6, 6};

    public static void main(String[] args) {
        fullTape();
        highestByteFirst();
        bytesAskedFor();
        cutTexts();
        endOfTheTape();
        bytesThatBeginTokens();
        wordLengths();
        wholeLengths();
        blanks();
        ends();
        missingTokens();
        missingParts();
        reservedNames();
        freeNames();
        namesOfAnotherSort();
        aheadOfUse();
        toldOnce();
        wholesOutOfBounds();
        rooms();
        postsAndCases();
        leastNumberOfOnePlace();
        fromTheLeft();
        laterLaws();
        laterLawsAllOrNone();
        faultyBookStays();
        nothingElseAnyMore();
        whereOfOtherCalls();
        CHECK.end();
    }

    private static void good(String text, int laws) {
        new Edge(CHECK).takesBook(text, laws);
    }

    private static void bad(int fault, String text, int where) {
        new Edge(CHECK).findsFault("book", text, fault, where);
    }

    /** A fault at the place of the sign ^ in the text, which is left out. */
    private static void bad(int fault, String text) {
        bad(fault, text.replace("^", ""), text.indexOf('^'));
    }

    private static String times(int many, String text) {
        return text.repeat(many);
    }

    // ---- promise 2

    /** "how many it has; NONE, and none comes, if there would be more than 700" */
    private static void fullTape() {
        Edge e = new Edge(CHECK);
        int[][] rows = Caller.rows("place a;place b" + times(684, " ") + ";");
        for (int i = 0; i < 35; i++) {
            e.tells(20 * (i + 1), "feed", rows[i]);
            e.tells(20 * (i + 1), "count", 13);
        }
        e.tells(-1, "feed", 0, 0, 0, 0, 0);
        e.tells(-1, "feed", rows[0]);
        e.tells(700, "count", 13);
        e.refuses(2, "book", 701);
        e.tells(-1, "feed", rows[0]);
        e.gives(0, "book", 699);
        e.tells(2, "count", 0);
        e.tells(0, "count", 13);
        e.tells(20, "feed", rows[0]);
    }

    /** "Twenty bytes come behind THE TAPE, of each number the highest first" */
    private static void highestByteFirst() {
        for (int at = 0; at < 20; at++) {
            int[] row = {BLANKS, BLANKS, BLANKS, BLANKS, BLANKS};
            row[at / 4] ^= (' ' ^ '#') << 24 - 8 * (at % 4);
            Edge e = new Edge(CHECK);
            e.tells(20, "feed", BLANKS, BLANKS, BLANKS, BLANKS, BLANKS);
            e.tells(40, "feed", row);
            e.refuses(4, "book", 40);
            e.tells(20 + at, "where");
        }
        Edge e = new Edge(CHECK);
        e.tells(20, "feed", BLANKS, LOW, HIGH, -1, 0);
        e.refuses(4, "book", 20);
        e.tells(4, "where");
    }

    // ---- promise 3

    /** "The first n bytes of THE TAPE (it is empty then)"; "NONE: 2 (THE TAPE stays)" */
    private static void bytesAskedFor() {
        Edge e = new Edge(CHECK);
        e.refuses(2, "book", 1);
        e.refuses(2, "book", -1);
        e.refuses(4, "book", 0);
        e.tells(1, "fault");
        e.tells(0, "where");
        e.feed("place a;place b");
        for (int n : new int[] {-1, 21, 700, 701, LOW, HIGH}) {
            e.refuses(2, "book", n);
            e.tells(20, "count", 13);
            e.tells(0, "count", 0);
        }
        e.gives(0, "book", 20);
        e.tells(2, "count", 0);
        e.tells(0, "count", 13);
        e.refuses(2, "book", 1);
        e.feed("place a;place b");
        e.gives(0, "book", 7);
        e.tells(1, "count", 0);
        e.tells(0, "count", 13);
        e.feed("place a");
        e.refuses(4, "book", 0);
        e.tells(0, "count", 13);
        e.tells(1, "count", 0);
    }

    /** "The first n bytes": what stands behind them is no part of a token. */
    private static void cutTexts() {
        Edge e = new Edge(CHECK);
        e.feed("place p;place q;road p q days 60 coin 123");
        e.gives(0, "book", 40);
        e.gives(0, "person", 0);
        e.gives(12, "cheap", 0, 1, 0);
        e.gives(60, "first", 0, 1, 0);
        e.feed(NAMES + "law l takes k of ox since 0");
        e.refuses(4, "book", (NAMES + "law l takes k of o").length());
        e.tells(1, "fault");
        e.tells((NAMES + "law l takes k of o").length(), "where");
        e.feed("place abcdefghijk");
        e.gives(0, "book", "place abcdefgh".length());
        e.feed("place p;place q;road p q days 1 coin 12345");
        e.refuses(4, "book", "place p;place q;road p q days 1 coin 1234".length());
        e.tells(4, "fault");
    }

    /** "THE TAPE has 700 bytes": a word, a whole or blanks may stand up to its very end. */
    private static void endOfTheTape() {
        good(times(686, " ") + "place abcdefgh", 0);
        bad(1, times(685, " ") + "place ^abcdefghi");
        bad(1, times(695, " ") + "place", 700);
        bad(1, times(700, " "), 700);
        bad(1, times(692, " ") + "place a;", 700);
        good("place p;place q;" + times(662, " ") + "road p q days 1 coin 0", 0);
        bad(4, "place p;place q;" + times(659, " ") + "road p q days 1 coin ^1000");
        good("place a" + times(693, " "), 0);
        bad(1, "place p;place q;" + times(658, " ") + "road p q days 1 coin ^00000");
        bad(1, "place a" + times(692, " ") + "^#");
    }

    // ---- terms I: tokens

    /** "the first byte that begins no TOKEN": each byte behind a name, ahead of a line and in a whole's stead. */
    private static void bytesThatBeginTokens() {
        for (int sign = 0; sign < 256; sign++) {
            char c = (char) sign;
            boolean letter = c >= 'a' && c <= 'z';
            boolean digit = c >= '0' && c <= '9';
            if (c == ' ' || letter) {
                good("place a" + c, 0);
            } else {
                bad(1, "place a" + c, c == ';' ? 8 : 7);
            }
            if (c == ' ') {
                good(c + "place a", 0);
            } else {
                bad(1, c + "place a", 0);
            }
            String text = "place p;place q;road p q days ";
            if (c == '0') {
                bad(4, text + c + " coin 1", text.length());
            } else if (digit) {
                good(text + c + " coin 1", 0);
            } else {
                bad(1, text + c + " coin 1", text.length() + (c == ' ' ? 2 : 0));
            }
        }
    }

    /** "WORDS of 1 to 8 small letters that stand together" */
    private static void wordLengths() {
        for (int length = 1; length <= 8; length++) {
            good("place " + "abcdefgh".substring(0, length), 0);
        }
        for (int length = 9; length <= 40; length++) {
            bad(1, "place ^" + times(length, "z"));
            bad(1, "^" + times(length, "a") + " a");
        }
        bad(1, "^placeplace a");
        bad(1, "place abcdefgh;place q;road ^abcdefghi q days 1 coin 1");
        bad(1, "place b;place q;road ^" + times(13, "a") + "b q days 1 coin 1");
        // all eight letters tell words apart
        for (int at = 0; at < 8; at++) {
            StringBuilder other = new StringBuilder("abcdefgh");
            other.setCharAt(at, 'z');
            good("place abcdefgh;place " + other, 0);
            bad(2, "place abcdefgh;road ^" + other + " abcdefgh days 1 coin 1");
        }
        bad(3, "place abcdefgh;place ^abcdefgh");
        for (char c = 'a'; c <= 'z'; c++) {
            StringBuilder text = new StringBuilder("place " + c);
            for (int length = 2; length <= 8; length++) {
                text.append(";place ").append(times(length, "" + c));
            }
            good(text.toString(), 0);
            bad(2, "place @;road ^@@ @ days 1 coin 1".replace('@', c));
            bad(2, "place @@;road ^@ @@ days 1 coin 1".replace('@', c));
        }
    }

    /** "WHOLES of 1 to 4 digits that do" */
    private static void wholeLengths() {
        String road = "place p;place q;road p q days 1 coin ";
        for (String whole : new String[] {"7", "07", "007", "0007"}) {
            Edge e = new Edge(CHECK, road + whole);
            e.gives(0, "person", 0);
            e.gives(7, "cheap", 0, 1, 0);
        }
        // 4294967297 and its like are 1 where digits run over
        for (String whole : new String[] {"00007", "12345", "00000", "99999", "4294967297", "18446744073709551617",
            times(40, "0")}) {
            bad(1, road + "^" + whole);
        }
        bad(4, road + "^9999");
    }

    /** "blanks, 32, part TOKENS and mean nothing else" */
    private static void blanks() {
        good("   place   a   ;   land   b   ", 0);
        good("place a;land b", 0);
        good(NAMES + "law l takes k of o since 0until 9", 1);
        good("place p;place q;road p q days60coin0", 0);
        bad(1, "^pla ce a");
        bad(1, "^placea");
        bad(1, "place a ^b");
        bad(1, "place p;place q;road p q days 6 ^0 coin 1");
        bad(2, "place p;place q;road ^pq days 6 coin 1");
        bad(1, "place p;place q;road p q days 6coin1 ^2");
        bad(1, "place^\ta");
        bad(1, "place a^\n;place b");
    }

    // ---- terms I: form

    /** "TOKEN with which no such TEXT goes on (the end: its place)": a text cut at each of its bytes. */
    private static void ends() {
        // behind each | the text may end
        String marked = "place p|;place q|;land l|;office o|;kind k|;road p q days 1 coin 1|2| ask k by l| ask k by l|;"
                + "law l takes k of o since 1|0| until 2|0|;law l bars k of o since 5|;"
                + "gift k of o after 4|0| if born p| if parent k of o| if holds k of o|;gift k of o after 0|";
        List<Integer> goodEnds = new ArrayList<>();
        StringBuilder text = new StringBuilder();
        for (char c : marked.toCharArray()) {
            if (c == '|') {
                goodEnds.add(text.length());
            } else {
                text.append(c);
            }
        }
        // 20 is not below 10, but 2 is
        goodEnds.remove((Integer) (text.indexOf("until 20") + 7));
        for (int n = 0; n <= text.length(); n++) {
            String cut = text.substring(0, n);
            int trimmed = cut.stripTrailing().length();
            if (goodEnds.contains(trimmed)) {
                new Edge(CHECK).takesBook(cut, cut.split("law ", -1).length - 1);
            } else if (cut.endsWith("until 2")) {
                bad(4, cut, n - 1);
            } else {
                bad(1, cut, cutPlace(text.toString(), n));
            }
        }
    }

    /** A keyword that is cut is another word, at its own place; else the end is what the text can't go on with. */
    private static int cutPlace(String text, int n) {
        boolean inWord = n > 0 && n < text.length() && Character.isLetter(text.charAt(n - 1))
                && Character.isLetter(text.charAt(n));
        if (!inWord) {
            return n;
        }
        int start = n;
        while (start > 0 && Character.isLetter(text.charAt(start - 1))) {
            start--;
        }
        return start;
    }

    /** "TOKEN with which no such TEXT goes on": each token of a line in turn is one that can't stand there. */
    private static void missingTokens() {
        String[] lines = {"place z", "land z", "office z", "kind z", "road p q days 1 coin 1 ask k by l ask k by l ask k by l",
            "law l takes k of o since 1 until 2", "law l bars k of o since 1 until 2",
            "gift k of o after 1 if born p if parent k of o if holds k of o"};
        for (String line : lines) {
            String[] tokens = line.split(" ");
            for (int i = 0; i < tokens.length; i++) {
                List<String> wrong = new ArrayList<>(List.of("#", "A", "abcdefghi", "12345", "gift", "place", "if"));
                wrong.add(Character.isDigit(tokens[i].charAt(0)) ? "k" : "1");
                if (!List.of("ask", "until", "if").contains(tokens[i]) && i > 0) {
                    wrong.add(";");
                }
                wrong.remove(tokens[i]);
                for (String other : wrong) {
                    badToken(tokens, i, other);
                }
                if (tokens[i].length() > 1) {
                    badToken(tokens, i, "zz");
                    badToken(tokens, i, tokens[i] + "s");
                }
            }
        }
    }

    private static void badToken(String[] tokens, int at, String other) {
        boolean isHead = at == 0;
        if (isHead && (other.equals("gift") || other.equals("place"))) {
            return;
        }
        StringBuilder text = new StringBuilder(NAMES);
        for (int i = 0; i < tokens.length; i++) {
            text.append(i == at ? "^" + other : tokens[i]).append(" ");
        }
        bad(1, text.toString());
    }

    /** The parts of a line stand in their order, and none is left out but those in brackets. */
    private static void missingParts() {
        String[] lines = {"road p q ^coin 1", "road p q ^coin 1 days 1", "road p q ^1 coin 1", "road p q days ^coin 1", "road p q days 1 ^1",
            "road p q days 1 ^ask k by l", "road p q days 1 coin ^ask k by l", "road p q ^ask k by l", "road p q^", "road p q days 1^",
            "road p q days 1 coin 1 ^k by l", "road p q days 1 coin 1 ask k ^l", "road p q days 1 coin 1 ask k^",
            "road p q days 1 coin 1 ask k by l ^days 1", "road p q days 1 coin 1 ^until 1", "road p q days 1 coin 1 ^road p q days 1 coin 1",
            "law l ^k of o since 1", "law l takes k ^o since 1", "law l takes k ^since 1", "law l takes k of o ^1", "law l takes k of o^",
            "law l bars k of o ^until 1", "law l takes k of o since ^until 1", "law l takes k of o since 1 ^2",
            "law l takes k of o since 1 ^ask k by l", "law l takes k of o since 1 ^if born p", "law l takes ^1",
            "gift k ^o after 1", "gift k ^after 1", "gift k of o ^1", "gift k of o ^if born p", "gift k of o after ^if born p",
            "gift k of o after 1 ^born p", "gift k of o after 1 if ^p", "gift k of o after 1 if holds k ^o", "gift k of o after 1 if parent k^",
            "gift k of o after 1 ^until 2", "gift k of o after 1 if born p ^born p", "place z ^place y", "place z;^"};
        for (String line : lines) {
            bad(1, NAMES + line);
        }
        // a keyword that stands where a name is due is a name, and isn't told
        for (String line : new String[] {"road q ^days 1 coin 1", "road ^days 1 coin 1", "law ^takes k of o since 1", "law l takes ^of o since 1",
            "law l takes k of ^since 1", "gift ^of o after 1", "gift k of ^after 1", "road p q days 1 coin 1 ask ^by l"}) {
            bad(2, NAMES + line);
        }
    }

    // ---- terms I: names

    /** "NAMES are WORDS but place, land, office, kind, road, law, gift, ask, until, if" */
    private static void reservedNames() {
        String[] uses = {"road ^@", "road p ^@", "road p q days 1 coin 1 ask ^@", "road p q days 1 coin 1 ask k by ^@", "law ^@",
            "law l takes ^@", "law l bars k of ^@", "gift ^@", "gift k of ^@", "gift k of o after 1 if born ^@",
            "gift k of o after 1 if parent ^@", "gift k of o after 1 if parent k of ^@",
            "gift k of o after 1 if holds ^@", "gift k of o after 1 if holds k of ^@"};
        for (String word : new String[] {"place", "land", "office", "kind", "road", "law", "gift", "ask", "until", "if"}) {
            for (String sort : SORTS) {
                bad(1, sort + " ^" + word);
            }
            for (String use : uses) {
                bad(1, NAMES + use.replace("@", word));
            }
        }
    }

    /** The other words of the lines may be names, and are told apart from what they stand for. */
    private static void freeNames() {
        String[] words = {"days", "coin", "by", "takes", "bars", "of", "since", "after", "born", "parent", "holds",
            "placed", "lan", "ifs", "untils", "asks", "gifts", "laws", "roads"};
        for (String w : words) {
            for (String sort : SORTS) {
                good(sort + " " + w, 0);
                bad(3, sort + " " + w + ";place ^" + w);
            }
            good("place @;place z;road @ z days 1 coin 1;road z @ days 1 coin 1".replace("@", w), 0);
            good("land @;kind k;office o;law @ takes k of o since 1".replace("@", w), 1);
            good("land l;kind @;office o;law l bars @ of o since 1".replace("@", w), 1);
            good("land l;kind k;office @;law l takes k of @ since 1;gift k of @ after 1 if holds k of @".replace("@", w), 1);
            good("kind @;office o;gift @ of o after 1 if parent @ of o if holds @ of o".replace("@", w), 0);
            good("place @;kind k;office o;gift k of o after 1 if born @".replace("@", w), 0);
            good("place a;place b;land l;kind @;road a b days 1 coin 1 ask @ by l".replace("@", w), 0);
            good("place a;place b;land @;kind k;road a b days 1 coin 1 ask k by @".replace("@", w), 0);
        }
    }

    /** "2 a NAME that isn't told, or names another sort of thing; at it" */
    private static void namesOfAnotherSort() {
        // a line up to the name, what goes on behind it, and the sort that is due
        String[][] uses = {
            {"road ", " q days 1 coin 1", "place"}, {"road q ", " days 1 coin 1", "place"},
            {"road p q days 1 coin 1 ask ", " by l", "kind"}, {"road p q days 1 coin 1 ask k by ", "", "land"},
            {"road p q days 1 coin 1 ask k by l ask k by l ask k by ", "", "land"},
            {"law ", " takes k of o since 1", "land"}, {"law l bars ", " of o since 1", "kind"},
            {"law l takes k of ", " since 1 until 1", "office"},
            {"gift ", " of o after 1", "kind"}, {"gift k of ", " after 1", "office"},
            {"gift k of o after 1 if born ", "", "place"},
            {"gift k of o after 1 if parent ", " of o", "kind"}, {"gift k of o after 1 if parent k of ", "", "office"},
            {"gift k of o after 1 if holds ", " of o", "kind"}, {"gift k of o after 1 if holds k of ", "", "office"},
            {"gift k of o after 1 if born p if born p if holds k of ", "", "office"}};
        String[] names = {"p", "l", "o", "k", "x", "pp", "kk"};
        for (String[] use : uses) {
            for (int i = 0; i < names.length; i++) {
                boolean fits = i < 4 && SORTS[i].equals(use[2]);
                String text = NAMES + use[0] + "^" + names[i] + use[1];
                if (fits) {
                    good(text.replace("^", ""), use[0].startsWith("law") ? 1 : 0);
                } else {
                    bad(2, text);
                    bad(2, NAMES + use[0] + "^" + names[i]);
                }
            }
        }
    }

    /** "ahead of its use" */
    private static void aheadOfUse() {
        bad(2, "place p;road p ^q days 1 coin 1;place q");
        bad(2, "land l;office o;law l takes ^k of o since 1;kind k");
        bad(2, "law ^l takes k of o since 1;land l;kind k;office o");
        bad(2, "kind k;gift k of ^o after 1;office o");
        good("kind k;place p;office o;land l;law l takes k of o since 1;place q;road q p days 1 coin 1;place r;road r q days 1 coin 1", 1);
    }

    /** "3 a NAME told again; a second PLACE of a ROAD that is the first; at it" */
    private static void toldOnce() {
        for (String sort : SORTS) {
            for (String other : SORTS) {
                bad(3, sort + " a;" + other + " ^a");
                bad(3, sort + " b; " + other + " a ;" + sort + "  ^b;kind");
            }
        }
        bad(3, NAMES + "road p ^p days 1 coin 1");
        bad(3, NAMES + "road q ^q days 0");
        bad(3, NAMES + "road q   ^q");
        good(NAMES + "road p q days 1 coin 1;road p q days 1 coin 1;road q p days 1 coin 1", 0);
    }

    // ---- terms I: bounds and room

    /** "days 1 .. 60, coin 0 .. 999"; "DAYS 0 .. 999, until not below since"; "0 .. 400 DAYS"; "4 ..; at it" */
    private static void wholesOutOfBounds() {
        bounds("road p q days ", " coin 1", 1, 60);
        bounds("road p q days 1 coin ", "", 0, 999);
        bounds("road p q days 1 coin ", " ask k by l", 0, 999);
        bounds("law l takes k of o since ", "", 0, 999);
        bounds("law l bars k of o since ", " until 999", 0, 999);
        bounds("law l takes k of o since 0 until ", "", 0, 999);
        bounds("law l takes k of o since 500 until ", "", 500, 999);
        bounds("law l bars k of o since 999 until ", "", 999, 999);
        bounds("gift k of o after ", "", 0, 400);
        bounds("gift k of o after ", " if born p", 0, 400);
    }

    private static void bounds(String ahead, String behind, int low, int high) {
        int laws = ahead.startsWith("law") ? 1 : 0;
        good(NAMES + ahead + low + behind, laws);
        good(NAMES + ahead + high + behind, laws);
        bad(4, NAMES + ahead + "^" + (high + 1) + behind);
        bad(4, NAMES + ahead + "^9999" + behind);
        bad(4, NAMES + ahead + "^9999 zz");
        if (low > 0) {
            bad(4, NAMES + ahead + "^" + (low - 1) + behind);
            bad(4, NAMES + ahead + "^0000" + behind);
        }
    }

    /** "Up to 8 PLACES, 5 LANDS, 6 OFFICES, 6 KINDS, 16 ROADS, 24 LAWS, 12 GIFTS"; "at its first WORD" */
    private static void rooms() {
        StringBuilder all = new StringBuilder();
        for (int sort = 0; sort < 4; sort++) {
            StringBuilder text = new StringBuilder();
            for (int i = 0; i < ROOM[sort]; i++) {
                text.append(SORTS[sort]).append(" ").append(SORTS[sort].charAt(0)).append((char) ('a' + i)).append(";");
            }
            all.append(text);
            full(text.toString(), SORTS[sort] + " zz", 0);
        }
        good(all.substring(0, all.length() - 1), 0);
        for (String sort : SORTS) {
            bad(5, all + "  ^" + sort + " zz");
        }
        full("place a;place b;" + times(16, "road a b days 1 coin 1;"), "road a b days 1 coin 1", 0);
        full("land l;kind k;office o;" + times(24, "law l bars k of o since 0;"), "law l bars k of o since 0", 24);
        full("kind k;office o;" + times(12, "gift k of o after 0;"), "gift k of o after 0", 0);
    }

    private static void full(String text, String line, int laws) {
        String head = line.substring(0, line.indexOf(' '));
        good(text.substring(0, text.length() - 1), laws);
        bad(5, text + "^" + line);
        bad(5, text + "  ^" + line + ";place A");
        bad(5, text + "^" + head);
        bad(5, text + "^" + head + " #");
        bad(5, text + "^" + head + ";" + head);
    }

    /** "up to 3 POSTS"; "up to 3 CASES"; "a fourth ask or if, at it" */
    private static void postsAndCases() {
        String road = NAMES + "road p q days 1 coin 1";
        String gift = NAMES + "gift k of o after 1";
        String[] cases = {" if born p", " if parent k of o", " if holds k of o"};
        for (int many = 0; many <= 3; many++) {
            good(road + times(many, " ask k by l"), 0);
            good(road + times(many, " ask k by l") + ";road q p days 1 coin 1 ask k by l", 0);
            for (String c : cases) {
                good(gift + times(many, c), 0);
                good(gift + times(many, c) + ";gift k of o after 2" + c, 0);
            }
        }
        for (String behind : new String[] {"", " k by l", " #", " ask", ";"}) {
            bad(5, road + times(3, " ask k by l") + " ^ask" + behind);
            bad(5, NAMES + times(15, "road p q days 1 coin 1;") + "road p q days 1 coin 1" + times(3, " ask k by l")
                    + " ^ask" + behind);
        }
        for (String c : cases) {
            bad(5, gift + times(3, c) + " ^if");
            bad(5, gift + times(3, c) + " ^" + c.substring(1));
        }
    }

    /** "the first that is met from the left, of one place the least number" */
    private static void leastNumberOfOnePlace() {
        // out of bounds too, but no token
        bad(1, NAMES + "road p q days ^00061 coin 1");
        bad(1, NAMES + "gift k of o after ^99999");
        // a line more than there is room for, but none that a text of laws may have
        Edge e = new Edge(CHECK, "place a;place b;place c;place d;place e;place f;place g;place h");
        e.findsFault("laws", "place i", 1, 0);
        e.findsFault("laws", "law", 1, 3);
        // neither told nor a place
        bad(2, "land l;road ^l l days 1 coin 1");
        bad(2, "place p;land l;road p ^l days 1 coin 1");
    }

    private static void fromTheLeft() {
        bad(3, "place a;place ^a;place #");
        bad(2, "place a;road a ^b days 0 coin 9999");
        bad(4, NAMES + "road p q days ^61 coin 9999 ask x by x");
        bad(1, NAMES + "law l ^gives x of x since 9999");
        bad(5, "place a;place b;place c;place d;place e;place f;place g;place h;^place a;land a");
        bad(3, "place a;place b;place c;place d;place e;place f;place g;place ^a;place h;place i");
        bad(4, NAMES + "law l bars k of o since 9 until ^8;law x");
        bad(1, "place a^9;place a");
    }

    // ---- promise 4

    /** "THE TEXT of later LAWS: LINES of law alone"; "NONE: 1 (no BOOK; THE TAPE stays); 2 (THE TAPE stays); 4" */
    private static void laterLaws() {
        Edge none = new Edge(CHECK);
        none.feed("law l takes k of o since 0");
        for (int n : new int[] {0, 1, 26, 40, 41, -1, LOW, HIGH}) {
            none.refuses(1, "laws", n);
            none.tells(40, "count", 13);
        }
        none.tells(0, "fault");
        Edge e = new Edge(CHECK, NAMES + "law l takes k of o since 0");
        e.feed("law l takes k of o since 0");
        for (int n : new int[] {-1, 41, 700, LOW, HIGH}) {
            e.refuses(2, "laws", n);
            e.tells(40, "count", 13);
            e.tells(1, "count", 5);
        }
        e.gives(2, "laws", 40);
        e.tells(0, "count", 13);
        e.refuses(2, "laws", 1);
        e.findsFault("laws", "", 1, 0);
        Edge f = new Edge(CHECK, NAMES + "law l takes k of o since 0");
        for (String line : new String[] {"place z", "land z", "office z", "kind z", "road p q days 1 coin 1", "gift k of o after 0",
            "zz", ";", "#", "1"}) {
            f.findsFault("laws", line, 1, 0);
            f.findsFault("laws", "law l bars k of o since 1;" + line, 1, 26);
        }
        f.findsFault("laws", "   ", 1, 3);
        f.findsFault("laws", "law l bars k of o since 1;", 1, 26);
        f.tells(1, "count", 5);
        f.feed("law l bars k of o since 12");
        f.gives(2, "laws", 25);
        f.gives(1, "why", 0, 0, 0, 1, 0);
    }

    /** "all or none: how many LAWS there are"; there is room for 24 with the BOOK's. */
    private static void laterLawsAllOrNone() {
        Edge e = new Edge(CHECK, "land l;kind k;office o;" + times(21, "law l takes k of o since 0;") + "law l takes k of o since 0");
        String law = "law l bars k of o since 0";
        e.findsFault("laws", law + ";" + law + ";" + law, 5, 52);
        e.findsFault("laws", law + ";law x", 2, 30);
        e.findsFault("laws", law + ";law l takes l", 2, 38);
        e.findsFault("laws", law + ";" + law + " until 1000", 4, 58);
        e.findsFault("laws", law + ";" + law + ";", 1, 52);
        e.tells(22, "count", 5);
        e.gives(1, "takes", 0, 0, 0, 0, 999);
        e.gives(21, "why", 0, 0, 0, 0, 999);
        e.feed(law);
        e.gives(23, "laws", law.length());
        e.gives(22, "why", 0, 0, 0, 0, 0);
        e.feed("  " + law + "  ");
        e.gives(24, "laws", law.length() + 4);
        e.gives(23, "why", 0, 0, 0, 0, 0);
        e.findsFault("laws", law, 5, 0);
        e.findsFault("laws", "  law", 5, 2);
        e.findsFault("laws", "lax", 1, 0);
        e.tells(24, "count", 5);
    }

    /** "4 (the BOOK stays)", and all that there is with it; the names of a faulty one are not told. */
    private static void faultyBookStays() {
        Edge e = new Edge(CHECK, NAMES + "law l takes k of o since 0");
        e.gives(0, "person", 1);
        e.gives(9, "pass", 9);
        String faulty = "place x;land y;kind z;office w;law y takes z of w since 0;law y bars z of w since 0;place x";
        e.findsFault("book", faulty, 3, faulty.length() - 1);
        int[] want = {2, 1, 1, 1, 0, 1, 0, 1, 0, 0, 0, 0, 9, 0};
        for (int what = 0; what < want.length; what++) {
            e.tells(want[what], "count", what);
        }
        e.findsFault("laws", "law y takes z of w since 0", 2, 4);
        e.feed("law l bars k of o since 0");
        e.gives(2, "laws", 25);
        e.gives(1, "why", 0, 0, 0, 0, 9);
        e.gives(0, "why", 0, 0, 0, 0, 8);
        Edge none = new Edge(CHECK);
        none.findsFault("book", "place x;place x", 3, 14);
        none.tells(0, "count", 0);
        none.refuses(1, "person", 0);
        none.refuses(1, "laws", 0);
        none.refuses(1, "pass", 1);
        none.refuses(1, "signed");
        none.takesBook("place x", 0);
    }

    /** "are the BOOK from now on (nothing else is there any more; DAY 0)": old names are not told either. */
    private static void nothingElseAnyMore() {
        Edge e = new Edge(CHECK, NAMES + "road p q days 1 coin 1 ask k by l;law l takes k of o since 0;gift k of o after 0");
        e.gives(400, "pass", 400);
        e.takesBook("kind p;land q;office l;law q bars p of l since 3", 1);
        int[] want = {0, 1, 1, 1, 0, 1, 0, 0, 0, 0, 0, 0, 0, 0};
        for (int what = 0; what < want.length; what++) {
            e.tells(want[what], "count", what);
        }
        e.refuses(1, "person", 0);
        e.findsFault("laws", "law l takes k of o since 0", 2, 4);
        e.findsFault("laws", "law q takes k of o since 0", 2, 12);
        e.findsFault("laws", "law q takes p of o since 0", 2, 17);
        e.feed("law q takes p of l since 0");
        e.gives(2, "laws", 26);
        e.gives(1, "why", 0, 0, 0, 3, 0);
        e.gives(1, "pass", 1);
        // a full book of each sort has its room again in the next one
        String places = "place a;place b;place c;place d;place e;place f;place g;place h";
        for (int i = 0; i < 3; i++) {
            e.takesBook(places, 0);
            e.findsFault("book", places + ";place i", 5, 64);
        }
    }

    // ---- promises 5 and 6

    /** "Its place, if the latest call that may be refused was by 4; NONE else"; "not refused by 1, 2" */
    private static void whereOfOtherCalls() {
        String[] calls = {"book -1", "book 99", "laws -1", "laws 99", "pass 1", "pass 0", "takes 0 0 0 0 0", "takes 9 0 0 0 0",
            "why 0 0 0 0 0", "why 0 0 0 0 1000", "person 0", "person 9", "paper 0 0 0 0 0", "paper 9 0 0 0 0", "move 0 1",
            "move 0 0", "is 0 0 0", "is 9 0 0", "nowhere 0 0", "nowhere 9 0", "open 0 0 0", "open 0 9 0", "first 0 0 0",
            "first 0 1 0", "cheap 0 0 0", "cheap 0 1 0", "reach 0 0", "reach 9 0", "opener 0 0", "opener 9 0", "stamp 0 0 0",
            "stamp 9 0 0", "least 0 0 0", "least 0 1 0", "child 0", "child 9", "judge 0 0 0 0 0", "judge 0 0 0 0 100",
            "binds 0 0 0 0", "binds 9 0 0 0", "unlike 0 0 0", "unlike 9 0 0", "clause 0 0", "clause 9 0", "quarrel 0 0",
            "quarrel 16 0", "signed", "signs 0", "signs 9", "contract 0 1", "contract 0 0", "burn 0 1", "burn 9 1",
            "rename 0 0", "rename 0 1"};
        for (String call : calls) {
            Edge e = new Edge(CHECK, NAMES + "road p q days 1 coin 1 ask k by l");
            e.gives(0, "person", 0);
            e.gives(1, "person", 1);
            e.gives(0, "contract", 0, 5);
            e.findsFault("book", "place a; place a", 3, 15);
            e.tells(15, "where");
            e.tells(20, "feed", 0, 0, 0, 0, 0);
            e.tells(3, "fault");
            e.tells(-1, "held", 0, 0, 0);
            e.tells(-1, "bought");
            e.tells(0, "owed", 0);
            e.tells(-1, "owed", 9);
            e.tells(-1, "count", 14);
            e.tells(0, "led", 0, 0, 0, 0);
            e.leadsNowhere(0, 1, 0, 0);
            e.tells(15, "where");
            String[] parts = call.split(" ");
            int[] x = new int[parts.length - 1];
            for (int i = 0; i < x.length; i++) {
                x[i] = Integer.parseInt(parts[i + 1]);
            }
            e.ask(parts[0], x);
            e.tells(-1, "where");
            e.tells(3, "fault");
        }
    }
}
