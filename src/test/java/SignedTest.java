import java.util.ArrayList;
import java.util.Arrays;
import java.util.List;
import java.util.Random;

/**
 * SIGNED with all the room that there is (9 things of 4 clauses, up to 20 quarrels), by chance but
 * always alike, held against every one of the choices: RandomTest's own runs have fewer things.
 */
public final class SignedTest {
    private static final int THINGS = 9;
    private static final int CLAUSES = 4;

    private final int[][] words = new int[THINGS][CLAUSES];
    private final List<int[]> quarrels = new ArrayList<>();
    private final int[] choice = new int[THINGS];
    private int[] best = new int[THINGS];
    private int most = -1;

    public static void main(String[] args) {
        int runs = args.length > 0 ? Integer.parseInt(args[0]) : 60;
        Check check = new Check("SignedTest");
        boolean[] seen = new boolean[THINGS + 1];
        for (int run = 0; run < runs; run++) {
            seen[new SignedTest().run(new Random(4_711 + run), check, run)] = true;
        }
        int unlike = 0;
        for (boolean one : seen) {
            unlike += one ? 1 : 0;
        }
        check.that(unlike >= 6, "runs with many unlike numbers of things signed: " + Arrays.toString(seen));
        check.end();
    }

    private int run(Random random, Check check, int run) {
        BridgeStrip strip = new BridgeStrip();
        Caller.feed(strip, "place a");
        strip.book(7);
        int bits = 1 + random.nextInt(5);
        for (int i = 0; i < THINGS * CLAUSES; i++) {
            int thing = i % THINGS;
            for (int b = 0; b < bits; b++) {
                words[thing][i / THINGS] |= 1 << random.nextInt(16);
            }
            check.due("clause", strip.clause(thing, words[thing][i / THINGS]), i / THINGS);
        }
        boolean alone = random.nextInt(4) == 0;
        for (int n = random.nextInt(21); n > 0; n--) {
            int a = random.nextInt(16);
            int b = alone ? a : random.nextInt(16);
            quarrels.add(new int[] {a, b});
            check.due("quarrel", strip.quarrel(a, b), quarrels.size());
        }
        tryAll(0, 0, 0);
        check.due("run " + run + ": signed", strip.signed(), most);
        for (int thing = 0; thing < THINGS; thing++) {
            check.due("run " + run + ": signs " + thing, strip.signs(thing), best[thing]);
        }
        return most;
    }

    /** In the document's order of as many things: the lesser clause first, none behind all. */
    private void tryAll(int thing, int things, int all) {
        if (thing == THINGS) {
            if (things > most && isPeaceful(all)) {
                most = things;
                best = choice.clone();
            }
            return;
        }
        for (int clause = 0; clause < CLAUSES; clause++) {
            choice[thing] = clause;
            tryAll(thing + 1, things + 1, all | words[thing][clause]);
        }
        choice[thing] = -2;
        tryAll(thing + 1, things, all);
    }

    private boolean isPeaceful(int all) {
        for (int[] q : quarrels) {
            if ((all >> q[0] & 1) == 1 && (all >> q[1] & 1) == 1) {
                return false;
            }
        }
        return true;
    }
}
