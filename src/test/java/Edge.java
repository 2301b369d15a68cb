import java.util.IdentityHashMap;
import java.util.Map;
import java.util.NoSuchElementException;

/** Calls at an edge: what is still taken, and what is refused and leaves all as it was. */
final class Edge {
    static final int NONE = TourRooms.NONE;
    static final int LEAST = Integer.MIN_VALUE;
    static final int MOST = Integer.MAX_VALUE;

    interface Make {
        TourRooms make();
    }

    interface Number {
        long of(TourRooms x);
    }

    interface Truth {
        boolean of(TourRooms x);
    }

    final Check check = new Check();
    private final Map<Make, String> looks = new IdentityHashMap<>();

    /** The call answers NONE, and nothing happens. */
    void none(String what, Make make, Number call) {
        refused(what, make, call, NONE);
    }

    /** The call answers false, and nothing happens. */
    void no(String what, Make make, Truth call) {
        refused(what, make, x -> call.of(x) ? 1 : 0, 0);
    }

    /** The call throws NoSuchElementException, and nothing happens. */
    void thrown(String what, Make make, Number call) {
        refused(what, make, x -> throwsIt(call, x) ? 1 : 0, 1);
    }

    /** The call answers so, and nothing happens. */
    void told(String what, Make make, Number call, long due) {
        refused(what, make, call, due);
    }

    /** The call is taken: the object after it. */
    TourRooms is(String what, Make make, Number call, long due) {
        TourRooms x = make.make();
        check.due(what, call.of(x), due);
        return x;
    }

    /** The call answers true: the object after it. */
    TourRooms yes(String what, Make make, Truth call) {
        return is(what, make, x -> call.of(x) ? 1 : 0, 1);
    }

    /** Two ways lead to objects that nobody can tell apart. */
    void alike(String what, Make one, Make other) {
        String difference = Look.difference(Look.through(one.make()), Look.through(other.make()));
        if (!difference.isEmpty()) {
            check.fail(what + ": " + difference);
        }
    }

    /** One call by which the two objects can be told apart, or the test that says so is worth nothing. */
    void unlike(String what, Make one, Make other) {
        if (Look.difference(Look.through(one.make()), Look.through(other.make())).isEmpty()) {
            check.fail(what + ": nothing tells of it");
        }
    }

    private static boolean throwsIt(Number call, TourRooms x) {
        try {
            call.of(x);
            return false;
        } catch (NoSuchElementException e) {
            return true;
        }
    }

    private void refused(String what, Make make, Number call, long due) {
        TourRooms x = make.make();
        String before = Look.at(x);
        check.due(what, call.of(x), due);
        String difference = Look.difference(Look.at(x), before);
        if (difference.isEmpty()) {
            String same = looks.computeIfAbsent(make, m -> Look.through(m.make()));
            difference = Look.difference(Look.through(x), same);
        }
        if (!difference.isEmpty()) {
            check.fail(what + " changed something: " + difference);
        }
    }
}
