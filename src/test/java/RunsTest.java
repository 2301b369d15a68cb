import java.nio.charset.StandardCharsets;
import java.util.Arrays;
import java.util.NoSuchElementException;
import java.util.Random;

/** Runs of calls by a fixed seed: all 39 promises against Plain, in order, 512 calls an object. */
public final class RunsTest {
    private static final Check check = new Check();
    private static final String[] WORDS = {"fee", "back", "refund", "free", "when", "and", "left", "held",
        "used", "people", "season", ";", "(", ")", "<", "=", "+", "-", "7", "30", "100", "12345", " ", "\n",
        "fe", "%", "0"};
    private static final String[] BUILD = {"person", "person", "person", "town", "room", "room", "room",
        "room", "friends", "bar", "start"};
    private static final String[] REST = {"season", "day", "listed", "stays", "gone", "absent", "meals",
        "townOf", "roomOf", "personOf", "count", "moved", "lay", "right"};
    // each run has one of these themes beside REST, which comes up less often
    private static final String[][] THEMES = {
        {"put", "put", "put", "settle", "settle", "moved", "most", "right", "friends", "bar", "room",
            "give", "buy", "stays", "roomOf", "listed", "town", "person"},
        {"text", "text", "worth", "worth", "worth", "day", "season", "put", "give", "buy", "buy", "room",
            "settle", "broken", "townOf"},
        {"fees", "loss", "loss", "loss", "loss", "settle", "room", "put", "person", "give", "buy", "day"},
        {"sight", "sight", "sight", "ways", "ways", "way", "trip", "trip", "trip", "clear"},
        {"settle", "settle", "night", "night", "absent", "absent", "text", "owes", "bill", "lay", "put",
            "day", "bar", "stays", "townOf"},
    };

    private final Random random;
    private final int seed;
    private final String[] theme;
    private final TourRooms x = new TourRooms();
    private final Plain y = new Plain();
    private final int mostPeople;
    private final int mostRooms;
    private final int longestWay;
    private int calls = 0;
    private int[] a = {};

    private RunsTest(int seed) {
        this.seed = seed;
        random = new Random(seed);
        theme = THEMES[seed % THEMES.length];
        mostPeople = 2 + random.nextInt(5);
        mostRooms = 2 + random.nextInt(5);
        longestWay = 30 + random.nextInt(240);
    }

    public static void main(String[] args) {
        int runs = args.length > 0 ? Integer.parseInt(args[0]) : 500;
        for (int seed = 0; seed < runs; seed++) {
            new RunsTest(seed).go();
        }
        check.end();
    }

    private int any(int least, int most) {
        // now and then one beyond the edge
        int edge = random.nextInt(60);
        return edge == 0 ? least - 1 : edge == 1 ? most + 1 : least + random.nextInt(most - least + 1);
    }

    private int aPerson() {
        return any(0, Math.max(0, y.people.size() - 1));
    }

    private int aTown() {
        return any(0, Math.max(0, y.towns.size() - 1));
    }

    private int aRoom(int town) {
        int rooms = y.isTown(town) ? y.towns.get(town).rooms.size() : 1;
        return any(0, Math.max(0, rooms - 1));
    }

    private boolean coin() {
        return random.nextBoolean();
    }

    private boolean oneOf(int many) {
        return random.nextInt(many) == 0;
    }

    private static String pick(Random random, String[] names) {
        return names[random.nextInt(names.length)];
    }

    private void go() {
        while (calls < 500) {
            if (calls < 35) {
                call(pick(random, BUILD));
            } else {
                call(pick(random, oneOf(3) ? REST : theme));
            }
        }
    }

    private void same(String call, long got, long want) {
        calls++;
        check.due("run " + seed + ", call " + calls + ": " + call + Arrays.toString(a), got, want);
    }

    private void same(String call, boolean got, boolean want) {
        same(call, got ? 1 : 0, want ? 1 : 0);
    }

    private void call(String name) {
        int t = aTown();
        switch (name) {
            case "person": newPerson(); break;
            case "town": same(name, x.town(set(any(1, 5))), y.town(a[0])); break;
            case "room": newRoom(t); break;
            case "start": same(name, x.start(set(oneOf(5) ? any(0, 400) : any(0, 40))), y.start(a[0])); break;
            case "season": same(name, x.season(set(any(0, 3))), y.season(a[0])); break;
            case "day": same(name, x.day(set(oneOf(20) ? any(0, 100) : any(0, 3))), y.day(a[0])); break;
            case "moved": same(name, x.moved(), y.moved()); break;
            case "most": same(name, x.most(set(t)), y.most(t)); break;
            case "right": same(name, x.right(set(t)), y.right(t)); break;
            case "night": same(name, x.night(), y.night()); break;
            case "count": same(name, x.count(set(any(0, 10))), y.count(a[0])); break;
            case "worth": same(name, x.worth(set(t, any(0, 3)), a[1]), y.worth(t, a[1])); break;
            case "meals": same(name, x.meals(set(t, any(0, 3)), a[1]), y.meals(t, a[1])); break;
            case "townOf": same(name, x.townOf(set(t, any(0, 8)), a[1]), y.townOf(t, a[1])); break;
            case "settle": same(name, x.settle(set(t, any(0, 1)), a[1]), y.settle(t, a[1])); break;
            case "give": same(name, x.give(set(t, aRoom(t)), a[1]), y.give(t, a[1])); break;
            case "buy": same(name, x.buy(set(t, aRoom(t)), a[1]), y.buy(t, a[1])); break;
            case "text": readOne(t, text(random.nextInt(6), false)); break;
            case "fees": readOne(t, text(1 + random.nextInt(3), true)); break;
            case "broken": readOne(t, broken()); break;
            case "loss": loss(t); break;
            case "sight": newSight(); break;
            case "ways": newWays(); break;
            case "trip": trip(); break;
            default: callMore(name, t);
        }
    }

    private void callMore(String name, int t) {
        boolean is = coin();
        int p = aPerson();
        switch (name) {
            case "friends": same(name, x.friends(set(p, aPerson()), a[1], is), y.friends(p, a[1], is)); break;
            case "bar": same(name, x.bar(set(p, aPerson()), a[1], is), y.bar(p, a[1], is)); break;
            case "stays":
                same(name, x.stays(set(p, any(0, 2), any(0, 5)), a[1], a[2]), y.stays(p, a[1], a[2]));
                break;
            case "gone":
                if (oneOf(8)) {
                    same(name, x.gone(set(p)), y.gone(p));
                }
                break;
            case "absent":
                set(p, any(y.bills.size(), Math.max(y.bills.size(), y.nights() - 1)));
                same(name, x.absent(p, a[1], is), y.absent(p, a[1], is));
                break;
            case "put":
                set(t, p, oneOf(5) ? -1 : aRoom(t));
                same(name, x.put(t, p, a[2]), y.put(t, p, a[2]));
                break;
            case "listed":
                same(name, x.listed(set(t, p, any(0, y.day)), p, a[2]), y.listed(t, p, a[2]));
                break;
            case "lay": same(name, x.lay(set(any(0, y.bills.size()), p), p), y.lay(a[0], p)); break;
            case "bill": bill(any(0, Math.max(0, y.bills.size() - 1))); break;
            case "owes": owes(p); break;
            case "roomOf":
                set(t, aRoom(t), any(0, 4));
                same(name, x.roomOf(t, a[1], a[2]), y.roomOf(t, a[1], a[2]));
                break;
            case "personOf": same(name, x.personOf(set(p, any(0, 8)), a[1]), y.personOf(p, a[1])); break;
            case "way":
                set(any(0, y.sights.size()), any(0, y.sights.size()), any(0, 270));
                same(name, x.way(a[0], a[1], a[2]), y.way(a[0], a[1], a[2]));
                break;
            case "clear":
                if (oneOf(4)) {
                    same(name, x.clear(), y.clear());
                }
                break;
            default: throw new IllegalStateException(name);
        }
    }

    /** Keeps the arguments, to be told if an answer is wrong; the first one comes back. */
    private int set(int... arguments) {
        a = arguments;
        return a[0];
    }

    private void newPerson() {
        if (y.people.size() >= mostPeople && !oneOf(50) || y.people.size() == 7) {
            return;
        }
        boolean shares = !oneOf(5);
        boolean low = oneOf(4);
        set(any(0, 3) / 2, any(0, 3), oneOf(3) ? any(0, 5) : 0, oneOf(3) ? any(0, 5) : 5);
        same("person", x.person(shares, a[0], low, a[1], a[2], a[3]),
            y.person(shares, a[0], low, a[1], a[2], a[3]));
    }

    private void newRoom(int t) {
        if (y.isTown(t) && y.towns.get(t).rooms.size() >= mostRooms) {
            return;
        }
        boolean low = coin();
        set(t, any(1, 2), oneOf(4) ? any(1, 1000) : 10 * any(1, 4));
        same("room", x.room(t, a[1], low, a[2]), y.room(t, a[1], low, a[2]));
    }

    private String text(int rules, boolean fees) {
        StringBuilder text = new StringBuilder();
        for (int k = 0; k < rules; k++) {
            text.append(fees ? "fee" : WORDS[random.nextInt(4)]).append(' ');
            text.append(oneOf(3) ? "" + random.nextInt(110) : expression(0));
            if (k < rules - 1 || coin()) {
                text.append(" when ").append(expression(0));
            }
            text.append(coin() ? ";" : " ;\n");
        }
        return text.toString();
    }

    private String broken() {
        if (oneOf(10)) {
            return "free 1;back 2 ".repeat(6).replace("2 ", "2;") + WORDS[random.nextInt(WORDS.length)] + "1;";
        }
        StringBuilder text = new StringBuilder(text(random.nextInt(4), false));
        for (int k = random.nextInt(3); k >= 0; k--) {
            int at = random.nextInt(text.length() + 1);
            if (coin() && at < text.length()) {
                text.deleteCharAt(at);
            } else {
                text.insert(at, pick(random, WORDS));
            }
        }
        return text.toString();
    }

    private void readOne(int t, String text) {
        byte[] bytes = text.getBytes(StandardCharsets.ISO_8859_1);
        for (int from = 0; from < bytes.length && calls < 500; from += 24) {
            long[] words = new long[3];
            for (int k = 0; k < 24; k++) {
                words[k / 8] = words[k / 8] << 8 | (from + k < bytes.length ? bytes[from + k] & 255 : 0);
            }
            same("feed", x.feed(words[0], words[1], words[2]), y.feed(words[0], words[1], words[2]));
        }
        if (!oneOf(20)) {
            set(t);
            String tape = y.tape.toString();
            same("read of '" + tape + "'", x.read(t), y.read(t));
        }
    }

    private String expression(int depth) {
        StringBuilder s = new StringBuilder();
        int parts = 1 + random.nextInt(3);
        boolean compared = false;
        for (int k = 0; k < parts; k++) {
            int sign = random.nextInt(6);
            if (k > 0 && sign < 2) {
                s.append(compared || oneOf(3) ? " and " : sign == 0 ? "<" : " = ");
                compared = !s.toString().endsWith(" and ");
            } else if (k > 0) {
                s.append(sign < 5 ? "+" : "-");
            }
            int kind = random.nextInt(depth < 6 ? 8 : 6);
            if (kind < 3) {
                s.append(random.nextInt(kind == 0 ? 120 : 12));
            } else if (kind < 6) {
                s.append(WORDS[6 + random.nextInt(5)]);
            } else {
                s.append('(').append(expression(depth + 1)).append(')');
            }
        }
        return s.toString();
    }

    private void loss(int t) {
        set(t, coin() ? any(0, 5) : any(0, 30), any(0, 3), any(0, 3), coin() ? any(0, 200) : any(0, 1000));
        same("loss", x.loss(t, a[1], a[2], a[3], a[4]), y.loss(t, a[1], a[2], a[3], a[4]));
        same("gives", x.gives(t, a[1], a[2], a[3], a[4]), y.gives(t, a[1], a[2], a[3], a[4]));
    }

    private void newSight() {
        set(any(0, coin() ? 600 : 1440), coin() ? any(700, 1440) : any(0, 1440), any(1, oneOf(4) ? 300 : 60));
        same("sight", x.sight(a[0], a[1], a[2]), y.sight(a[0], a[1], a[2]));
    }

    private void newWays() {
        int places = y.sights.size();
        for (int from = 0; from <= places && calls < 480; from++) {
            for (int to = 0; to <= places && calls < 480; to++) {
                if (from != to && !oneOf(6)) {
                    // few different lengths, so that trips tie
                    set(from, to, oneOf(3) ? 1 + random.nextInt(longestWay) : longestWay / 2);
                    same("way", x.way(from, to, a[2]), y.way(from, to, a[2]));
                }
            }
        }
    }

    private void trip() {
        set(oneOf(3) ? any(0, 1440) : any(200, 600));
        same("trip", x.trip(a[0]), y.trip(a[0]));
        int sights = y.told == null ? 0 : y.told.size();
        for (int what = 0; what <= 20 + sights && calls < 500; what++) {
            if (what <= 2 || what >= 10 && what <= 10 + sights || what >= 20) {
                same("tripOf " + what + " of ", x.tripOf(what), y.tripOf(what));
            }
        }
    }

    private void bill(int night) {
        int got = -7;
        int want = -7;
        set(night);
        try {
            got = x.bill(night);
        } catch (NoSuchElementException e) {
            got = -8;
        }
        try {
            want = y.bill(night);
        } catch (NoSuchElementException e) {
            want = -8;
        }
        same("bill", got, want);
    }

    private void owes(int person) {
        int got = -7;
        int want = -7;
        set(person);
        try {
            got = x.owes(person);
        } catch (NoSuchElementException e) {
            got = -8;
        }
        try {
            want = y.owes(person);
        } catch (NoSuchElementException e) {
            want = -8;
        }
        same("owes", got, want);
    }
}
