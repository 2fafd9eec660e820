import java.util.NoSuchElementException;

/** Calls of BridgeStrip by name, so that a run can be told as rows; and texts fed to it. */
final class Caller {
    private Caller() {
    }

    static long call(BridgeStrip s, String name, int... x) {
        switch (name) {
            case "feed":
                return s.feed(x[0], x[1], x[2], x[3], x[4]);
            case "book":
                return s.book(x[0]);
            case "laws":
                return s.laws(x[0]);
            case "fault":
                return s.fault();
            case "where":
                return s.where();
            case "pass":
                return s.pass(x[0]);
            case "takes":
                return s.takes(x[0], x[1], x[2], x[3], x[4]);
            case "why":
                return s.why(x[0], x[1], x[2], x[3], x[4]);
            case "person":
                return s.person(x[0]);
            case "paper":
                return s.paper(x[0], x[1], x[2], x[3], x[4]);
            case "held":
                return s.held(x[0], x[1], x[2]);
            case "move":
                return s.move(x[0], x[1]) ? 1 : 0;
            case "is":
                return s.is(x[0], x[1], x[2]);
            case "nowhere":
                return s.nowhere(x[0], x[1]);
            case "open":
                return s.open(x[0], x[1], x[2]);
            case "first":
                return s.first(x[0], x[1], x[2]);
            case "cheap":
                return s.cheap(x[0], x[1], x[2]);
            case "reach":
                return s.reach(x[0], x[1]);
            case "opener":
                return s.opener(x[0], x[1]);
            default:
                return callMore(s, name, x);
        }
    }

    private static long callMore(BridgeStrip s, String name, int... x) {
        switch (name) {
            case "stamp":
                return s.stamp(x[0], x[1], x[2]);
            case "least":
                return s.least(x[0], x[1], x[2]);
            case "bought":
                return s.bought();
            case "child":
                return s.child(x[0]);
            case "judge":
                return s.judge(x[0], x[1], x[2], x[3], x[4]);
            case "binds":
                return s.binds(x[0], x[1], x[2], x[3]);
            case "unlike":
                return s.unlike(x[0], x[1], x[2]);
            case "clause":
                return s.clause(x[0], x[1]);
            case "quarrel":
                return s.quarrel(x[0], x[1]);
            case "signed":
                return s.signed();
            case "signs":
                return s.signs(x[0]);
            case "contract":
                return s.contract(x[0], x[1]);
            case "burn":
                return s.burn(x[0], x[1]);
            case "rename":
                return s.rename(x[0], x[1]) ? 1 : 0;
            case "owed":
                return s.owed(x[0]);
            case "led":
                try {
                    return s.led(x[0], x[1], x[2], x[3]);
                } catch (NoSuchElementException e) {
                    return Plain.THROWS;
                }
            case "count":
                return s.count(x[0]);
            case "trouble":
                return s.trouble();
            default:
                throw new IllegalArgumentException(name);
        }
    }

    /** The numbers that feed a text, five a row, with blanks behind its end. */
    static int[][] rows(String text) {
        int[][] rows = new int[(text.length() + 19) / 20][5];
        for (int i = 0; i < rows.length * 20; i++) {
            int sign = i < text.length() ? text.charAt(i) : ' ';
            rows[i / 20][i % 20 / 4] |= (sign & 255) << 24 - 8 * (i % 4);
        }
        return rows;
    }

    static void feed(BridgeStrip s, String text) {
        for (int[] row : rows(text)) {
            s.feed(row[0], row[1], row[2], row[3], row[4]);
        }
    }

    static int book(BridgeStrip s, String text) {
        feed(s, text);
        return s.book(text.length());
    }

    static int laws(BridgeStrip s, String text) {
        feed(s, text);
        return s.laws(text.length());
    }
}
