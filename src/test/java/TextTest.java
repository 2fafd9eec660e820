/** Terms I: what a text is, and its faults, each with its place. */
public final class TextTest {
    private static final Check CHECK = new Check("TextTest");
    private static final String NAMES = "place p;place q;land l;kind k;office o;";

    public static void main(String[] args) {
        tokens();
        names();
        forms();
        untold();
        toldAgain();
        bounds();
        many();
        firstFault();
        laterLaws();
        CHECK.end();
    }

    private static void good(String text, int laws) {
        BridgeStrip s = new BridgeStrip();
        CHECK.due("book of [" + text + "]", Caller.book(s, text), laws);
        CHECK.due("fault of [" + text + "]", s.fault(), 0);
        CHECK.due("where of [" + text + "]", s.where(), -1);
    }

    private static void bad(String text, int fault, int where) {
        BridgeStrip s = new BridgeStrip();
        CHECK.refused("book of [" + text + "]", Caller.book(s, text), s, 4);
        CHECK.due("fault of [" + text + "]", s.fault(), fault);
        CHECK.due("where of [" + text + "]", s.where(), where);
    }

    /** A fault at the place of the sign ^ in the text, which is left out. */
    private static void badAt(String text, int fault) {
        bad(text.replace("^", ""), fault, text.indexOf('^'));
    }

    private static String times(String line, int many) {
        StringBuilder text = new StringBuilder();
        for (int i = 0; i < many; i++) {
            text.append(i == 0 ? "" : ";").append(line);
        }
        return text.toString();
    }

    private static void tokens() {
        good("place a", 0);
        good("   place    a   ", 0);
        good("place a;place b;road a b days1coin2", 0);
        good("place a ; place b ; road a b days 0060 coin 0000", 0);
        good("place abcdefgh", 0);
        good("place abcdefgh;place bbcdefgh;place abcdefgg;place bcdefgh;place a;place aa;place z;place za", 0);
        badAt("place abcdefgh;place bbcdefgh;place ^abcdefgh", 3);
        badAt("place ^abcdefghi", 1);
        badAt("^placeplace a", 1);
        badAt(NAMES + "road p q days ^00001 coin 2", 1);
        badAt("place ^A", 1);
        badAt("place a^.", 1);
        badAt("place a^\t", 1);
        badAt("place a^\n;place b", 1);
        badAt("place a ^\u00e9", 1);
        badAt("place a ^\u00ff", 1);
        badAt("place a ^\u0000", 1);
        badAt("^;place a", 1);
        badAt("place a;^;place b", 1);
        badAt("place a^1", 1);
        badAt("^1place a", 1);
        badAt("place aB".replace("B", "^B"), 1);
    }

    private static void names() {
        for (String word : new String[] {"place", "land", "office", "kind", "road", "law", "gift", "ask", "until", "if"}) {
            badAt("place ^" + word, 1);
            badAt("land l;law ^" + word, 1);
            good("place " + (word.length() < 8 ? word + "s" : "s"), 0);
        }
        for (String word : new String[] {"days", "coin", "by", "takes", "bars", "of", "since", "after", "born", "parent", "holds"}) {
            good("place " + word, 0);
        }
        good("land takes;kind of;office since;law takes takes of of since since 5", 1);
        good("place born;kind of;office after;gift of of after after 0 if born born", 0);
        good("place days;place coin;kind by;land by".replace("land by", "land of")
                + ";road days coin days 1 coin 2 ask by by of", 0);
    }

    private static void forms() {
        bad("", 1, 0);
        bad("   ", 1, 3);
        bad("place", 1, 5);
        bad("place  ", 1, 7);
        bad("place a;", 1, 8);
        bad("place a;  ", 1, 10);
        badAt("place a ^b", 1);
        badAt("^a", 1);
        badAt("^takes a", 1);
        badAt("place ^;", 1);
        badAt("place ^7", 1);
        badAt(NAMES + "road p q ^day 1", 1);
        badAt(NAMES + "road p q days ^x", 1);
        badAt(NAMES + "road p q days 1 ^;", 1);
        badAt(NAMES + "road p q days 1 coin ^ask", 1);
        badAt(NAMES + "road p q days 1 coin 1 ^if", 1);
        badAt(NAMES + "road p q days 1 coin 1 ask k ^of l", 1);
        badAt(NAMES + "road p q days 1 coin 1 ask k by l ^by", 1);
        badAt(NAMES + "road p q days 1 coin 1 ask k by^", 1);
        badAt(NAMES + "law l ^likes k of o since 0", 1);
        badAt(NAMES + "law l takes k ^by o since 0", 1);
        badAt(NAMES + "law l takes k of o ^until 0", 1);
        badAt(NAMES + "law l takes k of o since 0 until ^k", 1);
        badAt(NAMES + "law l takes k of o since 0 until 5 ^until 6", 1);
        badAt(NAMES + "law l takes k of o since 0 until^", 1);
        badAt(NAMES + "gift k of o ^since 0", 1);
        badAt(NAMES + "gift k of o after 0 ^ask k by l", 1);
        badAt(NAMES + "gift k of o after 0 if ^k", 1);
        badAt(NAMES + "gift k of o after 0 if ^if", 1);
        badAt(NAMES + "gift k of o after 0 if holds k ^by o", 1);
        badAt(NAMES + "gift k of o after 0 if born p ^of o", 1);
    }

    private static void untold() {
        badAt("road ^a", 2);
        badAt("place a;road a ^b", 2);
        badAt("place a;land b;road a ^b", 2);
        badAt("land b;road ^b", 2);
        badAt("law ^l", 2);
        badAt(NAMES + "law ^k takes k of o since 0", 2);
        badAt(NAMES + "law l takes ^o of o since 0", 2);
        badAt(NAMES + "law l bars k of ^k since 0", 2);
        badAt(NAMES + "gift ^o of o after 0", 2);
        badAt(NAMES + "gift k of ^p after 0", 2);
        badAt(NAMES + "gift k of o after 0 if born ^l", 2);
        badAt(NAMES + "gift k of o after 0 if parent ^l", 2);
        badAt(NAMES + "gift k of o after 0 if holds k of ^k", 2);
        badAt(NAMES + "road p q days 1 coin 1 ask ^l", 2);
        badAt(NAMES + "road p q days 1 coin 1 ask k by ^k", 2);
        badAt("place a;road a ^b days 1 coin 1;place b", 2);
    }

    private static void toldAgain() {
        badAt("place a;place ^a", 3);
        badAt("place a;land ^a", 3);
        badAt("kind a;land b;office ^a", 3);
        badAt("place a;place b;road b ^b days 1 coin 1", 3);
        badAt("place a;road a ^a", 3);
    }

    private static void bounds() {
        good(NAMES + "road p q days 1 coin 0;road p q days 60 coin 999", 0);
        badAt(NAMES + "road p q days ^0 coin 1", 4);
        badAt(NAMES + "road p q days ^61 coin 1", 4);
        badAt(NAMES + "road p q days 1 coin ^1000", 4);
        good(NAMES + "law l takes k of o since 999;law l bars k of o since 0 until 0", 2);
        good(NAMES + "law l takes k of o since 999 until 999", 1);
        badAt(NAMES + "law l takes k of o since ^1000", 4);
        badAt(NAMES + "law l takes k of o since 5 until ^4", 4);
        badAt(NAMES + "law l takes k of o since 5 until ^1000", 4);
        good(NAMES + "gift k of o after 400", 0);
        badAt(NAMES + "gift k of o after ^401", 4);
    }

    private static void many() {
        String[] sorts = {"place", "land", "office", "kind"};
        int[] room = {8, 5, 6, 6};
        for (int sort = 0; sort < 4; sort++) {
            StringBuilder text = new StringBuilder();
            for (int i = 0; i < room[sort]; i++) {
                text.append(i == 0 ? "" : ";").append(sorts[sort]).append(" ").append((char) ('a' + i));
            }
            good(text.toString(), 0);
            badAt(text + "; ^" + sorts[sort] + " z", 5);
            badAt(text + "; ^" + sorts[sort] + " a", 5);
            badAt(text + "; ^" + sorts[sort], 5);
        }
        String roads = "place a;place b;" + times("road a b days 1 coin 0", 16);
        good(roads, 0);
        badAt(roads + ";^road a b days 1 coin 0", 5);
        badAt(roads + ";^road b b", 5);
        String laws = "land l;kind k;office o;" + times("law l bars k of o since 0", 24);
        good(laws, 24);
        badAt(laws + ";^law l bars k of o since 0", 5);
        String gifts = "kind k;office o;" + times("gift k of o after 0", 12);
        good(gifts, 0);
        badAt(gifts + ";^gift k of o after 0", 5);
        String ask = " ask k by l";
        good(NAMES + "road p q days 1 coin 1" + ask + ask + ask, 0);
        badAt(NAMES + "road p q days 1 coin 1" + ask + ask + ask + " ^ask", 5);
        String cases = " if born p if holds k of o if parent k of o";
        good(NAMES + "gift k of o after 1" + cases, 0);
        badAt(NAMES + "gift k of o after 1" + cases + " ^if born p", 5);
    }

    private static void firstFault() {
        badAt("place a;place ^a;place B", 3);
        badAt("place a;road a ^x days 0", 2);
        badAt(NAMES + "road p q days ^0 coin x", 4);
        badAt("place a;^nonsense;place a", 1);
        badAt(NAMES + "law ^x likes", 2);
    }

    private static void laterLaws() {
        BridgeStrip s = new BridgeStrip();
        Caller.book(s, "land l;kind k;office o;place p;" + times("law l takes k of o since 0", 20));
        later(s, "", 1, 0);
        later(s, "place z", 1, 0);
        later(s, "law l takes k of o since 0;gift k of o after 0", 1, 27);
        later(s, "law l takes k of o since 0;", 1, 27);
        later(s, "law p", 2, 4);
        later(s, "law l takes k of o since 0;law l takes k of o since 9 until 8", 4, 60);
        CHECK.due("room is there for four laws more", Caller.laws(s, times("law l bars k of o since 0", 3)), 23);
        later(s, times("law l bars k of o since 0", 2), 5, 26);
        CHECK.due("the last law", Caller.laws(s, " law l bars k of o since 0 "), 24);
        CHECK.due("no fault", s.fault(), 0);
        later(s, "law", 5, 0);
    }

    private static void later(BridgeStrip s, String text, int fault, int where) {
        int before = s.count(5);
        CHECK.refused("laws of [" + text + "]", Caller.laws(s, text), s, 4);
        CHECK.due("fault of [" + text + "]", s.fault(), fault);
        CHECK.due("where of [" + text + "]", s.where(), where);
        CHECK.due("laws stay", s.count(5), before);
        CHECK.due("the tape is empty", s.count(13), 0);
    }
}
