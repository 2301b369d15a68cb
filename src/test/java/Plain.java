import java.util.ArrayList;
import java.util.Arrays;
import java.util.List;
import java.util.NoSuchElementException;

/**
 * The document once more, written to be plain and not quick: all lists, trips and losses are tried,
 * and contracts are judged from their text each time. RunsTest holds TourRooms against it.
 */
final class Plain {
    static final class Guest {
        boolean shares, low, gone;
        int sort, diet, from, to, friend = -1, owed;
        boolean[] absent = new boolean[30];
    }

    static final class Bedroom {
        int beds, price;
        boolean low, held = true;
    }

    static final class Place {
        int number, nights, first;
        List<Bedroom> rooms = new ArrayList<>();
        int[] list = new int[10];
        String contract = "";
        Place() {
            Arrays.fill(list, -1);
        }
    }

    final List<Guest> people = new ArrayList<>();
    final List<Place> towns = new ArrayList<>();
    final boolean[][] bars = new boolean[10][10];
    final List<int[]> notes = new ArrayList<>();
    final List<int[]> lain = new ArrayList<>();
    final List<Integer> bills = new ArrayList<>();
    final List<int[]> sights = new ArrayList<>();
    int[][] ways = new int[7][7];
    StringBuilder tape = new StringBuilder();
    int day, start = 30, season, spent, moved = -1;
    List<Integer> told = null;
    int[] toldNumbers, toldBegins;

    static boolean in(int x, int a, int b) {
        return a <= x && x <= b;
    }

    boolean isPerson(int p) {
        return in(p, 0, people.size() - 1);
    }

    boolean isTown(int t) {
        return in(t, 0, towns.size() - 1);
    }

    boolean isRoom(int t, int r) {
        return isTown(t) && in(r, 0, towns.get(t).rooms.size() - 1);
    }

    int nights() {
        int sum = 0;
        for (Place t : towns) {
            sum += t.nights;
        }
        return sum;
    }

    boolean over(int t) {
        return towns.get(t).first + towns.get(t).nights - 1 < bills.size();
    }

    boolean there(int p, int t) {
        Guest g = people.get(p);
        return !g.gone && g.from <= t && t <= g.to;
    }

    boolean mayShare(int a, int b) {
        Guest x = people.get(a);
        Guest y = people.get(b);
        if (x.friend == b && y.friend == a) {
            return true;
        }
        return x.shares && y.shares && x.sort == y.sort && x.friend < 0 && y.friend < 0 && !bars[a][b];
    }

    int person(boolean shares, int sort, boolean low, int diet, int from, int to) {
        if (!in(sort, 0, 3) || !in(diet, 0, 3) || !in(from, 0, 5) || !in(to, 0, 5) || from > to
            || people.size() == 10) {
            return -1;
        }
        Guest g = new Guest();
        g.shares = shares;
        g.sort = sort;
        g.low = low;
        g.diet = diet;
        g.from = from;
        g.to = to;
        people.add(g);
        return people.size() - 1;
    }

    boolean friends(int a, int b, boolean are) {
        if (!isPerson(a) || !isPerson(b) || a == b) {
            return false;
        }
        Guest x = people.get(a);
        Guest y = people.get(b);
        boolean now = x.friend == b;
        if (x.gone || y.gone || now == are || are && (x.friend >= 0 || y.friend >= 0)) {
            return false;
        }
        x.friend = are ? b : -1;
        y.friend = are ? a : -1;
        return true;
    }

    boolean bar(int a, int b, boolean is) {
        if (!isPerson(a) || !isPerson(b) || a == b || bars[a][b] == is) {
            return false;
        }
        bars[a][b] = is;
        bars[b][a] = is;
        return true;
    }

    boolean stays(int p, int from, int to) {
        if (!isPerson(p) || people.get(p).gone || !in(from, 0, 5) || !in(to, 0, 5) || from > to) {
            return false;
        }
        List<Integer> leaves = new ArrayList<>();
        for (int t = 0; t < towns.size(); t++) {
            if (!over(t) && towns.get(t).list[p] >= 0 && !in(t, from, to)) {
                leaves.add(t);
            }
        }
        if (!leave(p, leaves)) {
            return false;
        }
        people.get(p).from = from;
        people.get(p).to = to;
        return true;
    }

    boolean leave(int p, List<Integer> leaves) {
        if (notes.size() + leaves.size() > 500) {
            return false;
        }
        for (int t : leaves) {
            change(t, p, -1);
        }
        return true;
    }

    void change(int t, int p, int room) {
        towns.get(t).list[p] = room;
        notes.add(new int[] {t, p, room, day});
    }

    boolean gone(int p) {
        if (!isPerson(p) || people.get(p).gone) {
            return false;
        }
        List<Integer> leaves = new ArrayList<>();
        for (int t = 0; t < towns.size(); t++) {
            if (!over(t) && towns.get(t).list[p] >= 0) {
                leaves.add(t);
            }
        }
        if (!leave(p, leaves)) {
            return false;
        }
        people.get(p).gone = true;
        people.get(p).friend = -1;
        for (Guest g : people) {
            if (g.friend == p) {
                g.friend = -1;
            }
        }
        return true;
    }

    boolean absent(int p, int night, boolean is) {
        if (!isPerson(p) || !in(night, 0, nights() - 1) || night < bills.size()) {
            return false;
        }
        people.get(p).absent[night] = is;
        return true;
    }

    int town(int nights) {
        if (!in(nights, 1, 5) || towns.size() == 6 || !bills.isEmpty()) {
            return -1;
        }
        Place t = new Place();
        t.number = towns.size();
        t.nights = nights;
        t.first = nights();
        towns.add(t);
        return t.number;
    }

    boolean start(int d) {
        if (!in(d, 0, 400) || !bills.isEmpty()) {
            return false;
        }
        start = d;
        return true;
    }

    boolean season(int s) {
        if (!in(s, 0, 3)) {
            return false;
        }
        season = s;
        return true;
    }

    int day(int n) {
        if (!in(n, 0, 100) || day + n > 1000) {
            return -1;
        }
        return day += n;
    }

    int room(int t, int beds, boolean low, int price) {
        if (!isTown(t) || over(t) || !in(beds, 1, 2) || !in(price, 1, 1000)
            || towns.get(t).rooms.size() == 10) {
            return -1;
        }
        Bedroom r = new Bedroom();
        r.beds = beds;
        r.low = low;
        r.price = price;
        towns.get(t).rooms.add(r);
        return towns.get(t).rooms.size() - 1;
    }

    List<Integer> inRoom(int t, int[] list, int room) {
        List<Integer> guests = new ArrayList<>();
        for (int p = 0; p < people.size(); p++) {
            if (list[p] == room) {
                guests.add(p);
            }
        }
        return guests;
    }

    boolean put(int t, int p, int room) {
        if (!isTown(t) || !isPerson(p) || room != -1 && !isRoom(t, room) || over(t) || !there(p, t)) {
            return false;
        }
        if (room != -1) {
            Bedroom r = towns.get(t).rooms.get(room);
            List<Integer> others = inRoom(t, towns.get(t).list, room);
            others.remove((Integer) p);
            if (!r.held || others.size() >= r.beds || people.get(p).low && !r.low) {
                return false;
            }
            for (int other : others) {
                if (!mayShare(p, other)) {
                    return false;
                }
            }
        }
        if (towns.get(t).list[p] != room) {
            if (notes.size() == 500) {
                return false;
            }
            change(t, p, room);
        }
        return true;
    }

    /** Whether a list is right, but for those without a room. */
    boolean nearlyRight(int t, int[] list) {
        for (int r = 0; r < towns.get(t).rooms.size(); r++) {
            Bedroom room = towns.get(t).rooms.get(r);
            List<Integer> guests = inRoom(t, list, r);
            if (guests.size() > room.beds || !guests.isEmpty() && !room.held) {
                return false;
            }
            if (guests.size() == 2 && !mayShare(guests.get(0), guests.get(1))) {
                return false;
            }
            for (int p : guests) {
                if (people.get(p).low && !room.low) {
                    return false;
                }
            }
        }
        return true;
    }

    boolean right(int t) {
        if (!isTown(t)) {
            return false;
        }
        for (int p = 0; p < people.size(); p++) {
            if (there(p, t) && towns.get(t).list[p] < 0) {
                return false;
            }
        }
        return nearlyRight(t, towns.get(t).list);
    }

    int cost(int t, int[] list) {
        int sum = 0;
        for (int r = 0; r < towns.get(t).rooms.size(); r++) {
            if (!inRoom(t, list, r).isEmpty()) {
                sum += towns.get(t).rooms.get(r).price;
            }
        }
        return sum;
    }

    int bits(int t, int[] list, int room) {
        int sum = 0;
        for (int p : inRoom(t, list, room)) {
            sum += 1 << p;
        }
        return sum;
    }

    int[] best;
    int bestCount;

    int movedBy(int t, int[] list) {
        int sum = 0;
        for (int p = 0; p < people.size(); p++) {
            int now = towns.get(t).list[p];
            if (now >= 0 && list[p] >= 0 && now != list[p]) {
                sum++;
            }
        }
        return sum;
    }

    boolean better(int t, int how, int[] a, int[] b) {
        int cost = cost(t, a) - cost(t, b);
        int moves = movedBy(t, a) - movedBy(t, b);
        int first = how == 0 ? cost : moves;
        int second = how == 0 ? moves : cost;
        if (first != 0) {
            return first < 0;
        }
        if (second != 0) {
            return second < 0;
        }
        for (int r = 0; r < towns.get(t).rooms.size(); r++) {
            int x = bits(t, a, r);
            int y = bits(t, b, r);
            if (x != y) {
                return x < y;
            }
        }
        return false;
    }

    /** All lists, from person p on; how 2: with some who have no room. */
    void tryLists(int t, int how, int[] list, int p, int placed) {
        if (!nearlyRight(t, list)) {
            return;
        }
        if (p == people.size()) {
            bestCount = Math.max(bestCount, placed);
            if (how < 2 && (best == null || better(t, how, list, best))) {
                best = list.clone();
            }
            return;
        }
        if (!there(p, t) || how == 2) {
            tryLists(t, how, list, p + 1, placed);
        }
        if (there(p, t)) {
            for (int r = 0; r < towns.get(t).rooms.size(); r++) {
                list[p] = r;
                tryLists(t, how, list, p + 1, placed + 1);
                list[p] = -1;
            }
        }
    }

    int settle(int t, int how) {
        if (!isTown(t) || !in(how, 0, 1) || over(t)) {
            return -1;
        }
        best = null;
        int[] list = new int[10];
        Arrays.fill(list, -1);
        tryLists(t, how, list, 0, 0);
        if (best == null) {
            return -1;
        }
        int changes = 0;
        for (int p = 0; p < 10; p++) {
            changes += best[p] != towns.get(t).list[p] ? 1 : 0;
        }
        if (notes.size() + changes > 500) {
            return -1;
        }
        moved = movedBy(t, best);
        for (int p = 0; p < 10; p++) {
            if (best[p] != towns.get(t).list[p]) {
                change(t, p, best[p]);
            }
        }
        return cost(t, best);
    }

    int moved() {
        return moved;
    }

    int most(int t) {
        if (!isTown(t)) {
            return -1;
        }
        bestCount = 0;
        int[] list = new int[10];
        Arrays.fill(list, -1);
        tryLists(t, 2, list, 0, 0);
        return bestCount;
    }

    int listed(int t, int p, int d) {
        if (!isTown(t) || !isPerson(p) || !in(d, 0, day)) {
            return -1;
        }
        int room = -1;
        for (int[] note : notes) {
            if (note[0] == t && note[1] == p && note[3] <= d) {
                room = note[2];
            }
        }
        return room;
    }

    int feed(long a, long b, long c) {
        for (long w : new long[] {a, b, c}) {
            for (int k = 7; k >= 0; k--) {
                char sign = (char) (w >> 8 * k & 255);
                if (sign != 0 && tape.length() < 400) {
                    tape.append(sign);
                }
            }
        }
        return tape.length();
    }

    int read(int t) {
        if (!isTown(t)) {
            return -1;
        }
        String text = tape.toString();
        tape = new StringBuilder();
        int fault = PlainText.fault(text);
        if (fault == 0) {
            towns.get(t).contract = text;
        }
        return fault;
    }

    int[] factsOf(int t) {
        Place place = towns.get(t);
        int held = 0;
        int used = 0;
        for (int r = 0; r < place.rooms.size(); r++) {
            held += place.rooms.get(r).held ? 1 : 0;
            used += inRoom(t, place.list, r).isEmpty() ? 0 : 1;
        }
        int sleepers = people.size() - inRoom(t, place.list, -1).size();
        return new int[] {start + place.first - day, held, used, sleepers, season};
    }

    int worth(int t, int kind) {
        if (!isTown(t) || !in(kind, 0, 3)) {
            return -1;
        }
        return PlainText.worth(towns.get(t).contract, kind, factsOf(t));
    }

    int pay(int t, int room, int kind) {
        int cents = worth(t, kind) * towns.get(t).rooms.get(room).price * towns.get(t).nights;
        int cost = cents / 100 + (cents % 100 > 0 ? 1 : 0);
        spent += cost;
        return cost;
    }

    int give(int t, int room) {
        if (!isRoom(t, room) || over(t) || !towns.get(t).rooms.get(room).held
            || !inRoom(t, towns.get(t).list, room).isEmpty()) {
            return -1;
        }
        int cost = pay(t, room, 0);
        towns.get(t).rooms.get(room).held = false;
        return cost;
    }

    int buy(int t, int room) {
        if (!isRoom(t, room) || over(t) || towns.get(t).rooms.get(room).held) {
            return -1;
        }
        int cost = pay(t, room, 1);
        towns.get(t).rooms.get(room).held = true;
        return cost;
    }

    int lossGives;
    Integer[][][] known;

    int lossOf(int t, int d, int h, int u, int[] how) {
        if (d == 0) {
            return h > u ? 100 * (h - u) : how[2] * (u - h);
        }
        if (known[d][h][u] != null) {
            return known[d][h][u];
        }
        int[] facts = factsOf(t);
        facts[0] = d;
        facts[1] = h;
        facts[2] = u;
        int fee = PlainText.worth(towns.get(t).contract, 0, facts);
        int least = Integer.MAX_VALUE;
        int gives = 0;
        for (int r = 0; r <= h; r++) {
            int worst = 0;
            for (int next = u - how[1]; next <= u + how[0]; next++) {
                if (in(next, 0, 10)) {
                    worst = Math.max(worst, lossOf(t, d - 1, h - r, next, how));
                }
            }
            if (r * fee + worst < least) {
                least = r * fee + worst;
                gives = r;
            }
        }
        lossGives = gives;
        known[d][h][u] = least;
        return least;
    }

    int loss(int t, int d, int up, int down, int small) {
        if (!isTown(t) || !in(d, 0, 30) || !in(up, 0, 3) || !in(down, 0, 3) || !in(small, 0, 1000)) {
            return -1;
        }
        known = new Integer[31][11][11];
        lossGives = 0;
        int[] facts = factsOf(t);
        return lossOf(t, d, facts[1], facts[2], new int[] {up, down, small});
    }

    int gives(int t, int d, int up, int down, int small) {
        return loss(t, d, up, down, small) == -1 ? -1 : lossGives;
    }

    int sight(int opens, int shuts, int stay) {
        if (!in(opens, 0, 1440) || !in(shuts, 0, 1440) || !in(stay, 1, 300) || opens + stay > shuts
            || sights.size() == 6) {
            return -1;
        }
        sights.add(new int[] {opens, shuts, stay});
        return sights.size();
    }

    boolean way(int from, int to, int minutes) {
        if (!in(from, 0, sights.size()) || !in(to, 0, sights.size()) || from == to
            || !in(minutes, 0, 270)) {
            return false;
        }
        ways[from][to] = minutes;
        return true;
    }

    int clear() {
        int had = sights.size();
        sights.clear();
        ways = new int[7][7];
        return had;
    }

    /** End, driving, rests and the begins of a trip; null if it can't be. */
    int[] drive(int minute, List<Integer> order) {
        int time = minute;
        int since = 0;
        int driving = 0;
        int rests = 0;
        int[] tells = new int[3 + order.size()];
        for (int k = 0; k <= order.size(); k++) {
            int from = k == 0 ? 0 : order.get(k - 1);
            int to = k == order.size() ? 0 : order.get(k);
            int way = ways[from][to];
            if (way == 0) {
                return null;
            }
            if (since + way > 270) {
                time += 45;
                since = 0;
                rests++;
            }
            time += way;
            since += way;
            driving += way;
            if (to != 0) {
                int[] sight = sights.get(to - 1);
                int come = time;
                tells[3 + k] = Math.max(time, sight[0]);
                time = tells[3 + k] + sight[2];
                if (time > sight[1]) {
                    return null;
                }
                since = time - come >= 45 ? 0 : since;
            }
        }
        tells[0] = time;
        tells[1] = driving;
        tells[2] = rests;
        return driving > 540 || time > 1440 ? null : tells;
    }

    void tryTrips(int minute, List<Integer> order) {
        if (!order.isEmpty()) {
            int[] tells = drive(minute, order);
            if (tells != null && betterTrip(tells, order)) {
                told = new ArrayList<>(order);
                toldNumbers = tells;
            }
        }
        for (int s = 1; s <= sights.size(); s++) {
            if (!order.contains(s)) {
                order.add(s);
                tryTrips(minute, order);
                order.remove(order.size() - 1);
            }
        }
    }

    boolean betterTrip(int[] tells, List<Integer> order) {
        if (order.size() != told.size()) {
            return order.size() > told.size();
        }
        for (int k = 0; k < 2; k++) {
            if (tells[k] != toldNumbers[k]) {
                return tells[k] < toldNumbers[k];
            }
        }
        for (int k = 0; k < order.size(); k++) {
            if (!order.get(k).equals(told.get(k))) {
                return order.get(k) < told.get(k);
            }
        }
        return false;
    }

    int trip(int minute) {
        if (!in(minute, 0, 1440)) {
            return -1;
        }
        told = new ArrayList<>();
        toldNumbers = new int[] {minute, 0, 0};
        tryTrips(minute, new ArrayList<>());
        return told.size();
    }

    int tripOf(int what) {
        if (told == null) {
            return -1;
        }
        if (in(what, 0, 2)) {
            return toldNumbers[what];
        }
        if (in(what - 10, 0, told.size() - 1)) {
            return told.get(what - 10);
        }
        return in(what - 20, 0, told.size() - 1) ? toldNumbers[3 + what - 20] : -1;
    }

    int night() {
        int night = bills.size();
        for (Place t : towns) {
            if (in(night, t.first, t.first + t.nights - 1)) {
                if (start + night > day || !right(t.number)) {
                    return -1;
                }
                close(t, night);
                return night;
            }
        }
        return -1;
    }

    void close(Place t, int night) {
        int refund = worth(t.number, 2);
        int free = worth(t.number, 3);
        List<Integer> prices = new ArrayList<>();
        for (int r = 0; r < t.rooms.size(); r++) {
            List<Integer> guests = inRoom(t.number, t.list, r);
            int price = t.rooms.get(r).price;
            if (!guests.isEmpty()) {
                prices.add(price);
            }
            for (int k = 0; k < guests.size(); k++) {
                int share = guests.size() == 1 ? price : k == 0 ? price - price / 2 : price / 2;
                Guest g = people.get(guests.get(k));
                g.owed += g.absent[night] ? share - share * refund / 100 : share;
            }
        }
        prices.sort(null);
        int bill = 0;
        for (int k = free; k < prices.size(); k++) {
            bill += prices.get(k);
        }
        lain.add(t.list.clone());
        bills.add(bill);
    }

    int lay(int night, int p) {
        return in(night, 0, bills.size() - 1) && isPerson(p) ? lain.get(night)[p] : -1;
    }

    int bill(int night) {
        if (!in(night, 0, bills.size() - 1)) {
            throw new NoSuchElementException();
        }
        return bills.get(night);
    }

    int owes(int p) {
        if (!isPerson(p)) {
            throw new NoSuchElementException();
        }
        return people.get(p).owed;
    }

    int meals(int t, int diet) {
        if (!isTown(t) || !in(diet, 0, 3)) {
            return -1;
        }
        int sum = 0;
        for (int p = 0; p < people.size(); p++) {
            sum += towns.get(t).list[p] >= 0 && people.get(p).diet == diet ? 1 : 0;
        }
        return sum;
    }

    int townOf(int t, int what) {
        if (!isTown(t) || !in(what, 0, 8)) {
            return -1;
        }
        Place place = towns.get(t);
        int[] facts = factsOf(t);
        int[] tells = {place.nights, place.first, place.rooms.size(), facts[1], facts[2], facts[3],
            cost(t, place.list), over(t) ? 1 : 0, PlainText.rules(place.contract)};
        return tells[what];
    }

    int roomOf(int t, int room, int what) {
        if (!isRoom(t, room) || !in(what, 0, 4)) {
            return -1;
        }
        Bedroom r = towns.get(t).rooms.get(room);
        int[] tells = {r.beds, r.low ? 1 : 0, r.price, r.held ? 1 : 0, bits(t, towns.get(t).list, room)};
        return tells[what];
    }

    int personOf(int p, int what) {
        if (!isPerson(p) || !in(what, 0, 8)) {
            return -1;
        }
        Guest g = people.get(p);
        int sharers = 0;
        for (int q = 0; q < people.size(); q++) {
            sharers += q != p && !people.get(q).gone && mayShare(p, q) ? 1 : 0;
        }
        int[] tells = {g.shares ? 1 : 0, g.sort, g.low ? 1 : 0, g.diet, g.from, g.to, g.gone ? 1 : 0,
            g.friend, sharers};
        return tells[what];
    }

    int count(int what) {
        int[] tells = {day, start, season, people.size(), towns.size(), nights(), bills.size(), spent,
            tape.length(), sights.size(), notes.size()};
        return in(what, 0, 10) ? tells[what] : -1;
    }
}
