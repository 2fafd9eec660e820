import java.util.NoSuchElementException;

/** Counts and prints what isn't as it is due, and ends the program with 1 if there was such. */
final class Check {
    private final String name;
    private int looked;
    private int wrong;

    Check(String name) {
        this.name = name;
    }

    void that(boolean holds, String what) {
        looked++;
        if (!holds) {
            wrong++;
            System.out.println(name + ": not so: " + what);
        }
    }

    void due(String what, long got, long want) {
        that(got == want, what + " answered " + got + ", due is " + want);
    }

    void due(String what, boolean got, boolean want) {
        that(got == want, what + " answered " + got + ", due is " + want);
    }

    /** A refused call: what it answered, and its trouble. */
    void refused(String what, long got, BridgeStrip strip, int trouble) {
        due(what, got, BridgeStrip.NONE);
        due(what + ": trouble", strip.trouble(), trouble);
    }

    /** A call that wasn't refused. */
    void granted(String what, long got, BridgeStrip strip, long want) {
        due(what, got, want);
        due(what + ": trouble", strip.trouble(), 0);
    }

    void noneLed(String what, BridgeStrip strip, int person, int place, int day, int i) {
        boolean thrown = false;
        try {
            strip.led(person, place, day, i);
        } catch (NoSuchElementException e) {
            thrown = true;
        }
        that(thrown, what + " throws NoSuchElementException");
    }

    int wrong() {
        return wrong;
    }

    void end() {
        System.out.println(name + ": " + looked + " looks, " + wrong + " not so");
        if (wrong != 0) {
            System.exit(1);
        }
    }
}
