import java.util.NoSuchElementException;

/** A desk for a tour's rooms; ../shared/DOC.md says what each call promises. */
public final class TourRooms {
    public static final int NONE = -1;

    private static final int MOST_PEOPLE = 10;
    private static final int MOST_TOWNS = 6;
    private static final int MOST_ROOMS = 10;
    private static final int MOST_STAY = 5;
    private static final int MOST_NIGHTS = 30;
    private static final int LAST_DAY = 1000;

    private static final int FEE = 0;
    private static final int BACK = 1;
    private static final int REFUND = 2;
    private static final int FREE = 3;

    private final Party party = new Party();
    private final Town[] towns = new Town[MOST_TOWNS];
    private final Notes notes = new Notes();
    private final Reader reader = new Reader();
    private final Settler settler = new Settler();
    private final Losses losses = new Losses();
    private final Coach coach = new Coach();
    private final Book book = new Book();
    private int townCount = 0;
    private int nights = 0;
    private int today = 0;
    private int firstDay = 30;
    private int seasonNow = 0;
    private int spent = 0;
    private int latestMoved = NONE;

    public TourRooms() {
    }

    public int person(boolean shares, int sort, boolean low, int diet, int from, int to) {
        boolean kindly = isWithin(sort, 0, 3) && isWithin(diet, 0, 3);
        if (!kindly || !isStay(from, to) || party.size >= MOST_PEOPLE) {
            return NONE;
        }
        return party.add(new Person(shares, sort, low, diet, from, to));
    }

    public boolean friends(int a, int b, boolean are) {
        Person one = party.at(a);
        Person other = party.at(b);
        if (one == null || other == null || a == b || one.gone || other.gone) {
            return false;
        }
        if (are) {
            if (one.friend != NONE || other.friend != NONE) {
                return false;
            }
            one.friend = b;
            other.friend = a;
            return true;
        }
        if (one.friend != b) {
            return false;
        }
        one.friend = NONE;
        other.friend = NONE;
        return true;
    }

    public boolean bar(int a, int b, boolean is) {
        Person one = party.at(a);
        Person other = party.at(b);
        if (one == null || other == null || a == b || one.isBarred(b) == is) {
            return false;
        }
        one.bars = one.bars ^ (1 << b);
        other.bars = other.bars ^ (1 << a);
        return true;
    }

    public boolean stays(int person, int from, int to) {
        Person who = party.at(person);
        if (who == null || who.gone || !isStay(from, to) || !leave(person, from, to)) {
            return false;
        }
        who.from = from;
        who.to = to;
        return true;
    }

    public boolean gone(int person) {
        Person who = party.at(person);
        // a stay that holds no town: it leaves them all
        if (who == null || who.gone || !leave(person, MOST_TOWNS, NONE)) {
            return false;
        }
        Person friend = party.at(who.friend);
        if (friend != null) {
            friend.friend = NONE;
        }
        who.friend = NONE;
        who.gone = true;
        return true;
    }

    public boolean absent(int person, int night, boolean is) {
        Person who = party.at(person);
        if (who == null || !isWithin(night, book.closed, nights - 1)) {
            return false;
        }
        int bit = 1 << night;
        who.absences = is ? who.absences | bit : who.absences & ~bit;
        return true;
    }

    public int town(int nights) {
        if (!isWithin(nights, 1, MOST_STAY) || townCount >= MOST_TOWNS || book.closed > 0) {
            return NONE;
        }
        towns[townCount] = new Town(townCount, nights, this.nights);
        this.nights += nights;
        townCount++;
        return townCount - 1;
    }

    public boolean start(int day) {
        if (!isWithin(day, 0, 400) || book.closed > 0) {
            return false;
        }
        firstDay = day;
        return true;
    }

    public boolean season(int s) {
        if (!isWithin(s, 0, 3)) {
            return false;
        }
        seasonNow = s;
        return true;
    }

    public int day(int n) {
        if (!isWithin(n, 0, 100) || today + n > LAST_DAY) {
            return NONE;
        }
        today += n;
        return today;
    }

    public int room(int town, int beds, boolean low, int price) {
        Town place = townThatLasts(town);
        if (place == null || place.roomCount >= MOST_ROOMS) {
            return NONE;
        }
        if (!isWithin(beds, 1, 2) || !isWithin(price, 1, 1000)) {
            return NONE;
        }
        return place.add(new Room(beds, low, price));
    }

    public boolean put(int town, int person, int room) {
        Town place = townThatLasts(town);
        if (place == null || !party.isThere(person, town)) {
            return false;
        }
        if (room != NONE && !party.fits(place, person, room)) {
            return false;
        }
        if (place.roomOfGuest(person) != room && !notes.haveSpace(1)) {
            return false;
        }
        list(place, person, room);
        return true;
    }

    public int settle(int town, int how) {
        Town place = townThatLasts(town);
        if (place == null || !isWithin(how, 0, 1) || !settler.findList(party, place, how)) {
            return NONE;
        }
        if (!notes.haveSpace(settler.changes(place))) {
            return NONE;
        }
        for (int person = 0; person < MOST_PEOPLE; person++) {
            list(place, person, settler.plan[person]);
        }
        latestMoved = settler.plannedMoves;
        return settler.plannedCost;
    }

    public int moved() {
        return latestMoved;
    }

    public int most(int town) {
        Town place = townAt(town);
        return place == null ? NONE : settler.mostGuests(party, place);
    }

    public boolean right(int town) {
        Town place = townAt(town);
        return place != null && party.isRight(place);
    }

    public int listed(int town, int person, int day) {
        if (townAt(town) == null || party.at(person) == null || !isWithin(day, 0, today)) {
            return NONE;
        }
        return notes.latest(town, person, day);
    }

    public int feed(long a, long b, long c) {
        reader.take(a);
        reader.take(b);
        reader.take(c);
        return reader.length;
    }

    public int read(int town) {
        Town place = townAt(town);
        if (place == null) {
            return NONE;
        }
        int fault = reader.readText();
        if (fault == 0) {
            place.contract.take(reader);
        }
        return fault;
    }

    public int worth(int town, int kind) {
        Town place = townAt(town);
        return place == null || !isWithin(kind, FEE, FREE) ? NONE : worthNow(place, kind);
    }

    public int give(int town, int room) {
        Town place = townThatLasts(town);
        Room given = place == null ? null : place.roomAt(room);
        if (given == null || !given.held || place.guestsOf(room) != 0) {
            return NONE;
        }
        int cost = priceOfChange(place, given, FEE);
        given.held = false;
        return cost;
    }

    public int buy(int town, int room) {
        Town place = townThatLasts(town);
        Room bought = place == null ? null : place.roomAt(room);
        if (bought == null || bought.held) {
            return NONE;
        }
        int cost = priceOfChange(place, bought, BACK);
        bought.held = true;
        return cost;
    }

    public int loss(int town, int d, int up, int down, int small) {
        return foresee(town, d, up, down, small) ? losses.least : NONE;
    }

    public int gives(int town, int d, int up, int down, int small) {
        return foresee(town, d, up, down, small) ? losses.given : NONE;
    }

    public int sight(int opens, int shuts, int stay) {
        return coach.addSight(opens, shuts, stay);
    }

    public boolean way(int from, int to, int minutes) {
        return coach.setWay(from, to, minutes);
    }

    public int clear() {
        return coach.forget();
    }

    public int trip(int minute) {
        return coach.plan(minute);
    }

    public int tripOf(int what) {
        return coach.tell(what);
    }

    public int night() {
        Town place = townOfNight(book.closed);
        if (place == null || firstDay + book.closed > today || !party.isRight(place)) {
            return NONE;
        }
        int refund = worthNow(place, REFUND);
        for (int room = 0; room < place.roomCount; room++) {
            charge(place, room, refund);
        }
        return book.close(place, place.billBut(worthNow(place, FREE)));
    }

    public int lay(int night, int person) {
        return party.at(person) == null ? NONE : book.roomOfGuest(night, person);
    }

    public int bill(int night) throws NoSuchElementException {
        if (!isWithin(night, 0, book.closed - 1)) {
            throw new NoSuchElementException("no such night is closed");
        }
        return book.bills[night];
    }

    public int owes(int person) throws NoSuchElementException {
        Person who = party.at(person);
        if (who == null) {
            throw new NoSuchElementException("no such person");
        }
        return who.owed;
    }

    public int meals(int town, int diet) {
        Town place = townAt(town);
        return place == null || !isWithin(diet, 0, 3) ? NONE : party.eaters(place, diet);
    }

    public int townOf(int town, int what) {
        Town place = townAt(town);
        if (place == null) {
            return NONE;
        }
        switch (what) {
            case 0: return place.nights;
            case 1: return place.firstNight;
            case 2: return place.roomCount;
            case 3: return place.heldRooms();
            case 4: return Integer.bitCount(place.usedRooms());
            case 5: return place.guests();
            case 6: return place.billBut(0);
            case 7: return isOver(place) ? 1 : 0;
            case 8: return place.contract.rules;
            default: return NONE;
        }
    }

    public int roomOf(int town, int room, int what) {
        Town place = townAt(town);
        Room asked = place == null ? null : place.roomAt(room);
        if (asked == null) {
            return NONE;
        }
        switch (what) {
            case 0: return asked.beds;
            case 1: return asked.low ? 1 : 0;
            case 2: return asked.price;
            case 3: return asked.held ? 1 : 0;
            case 4: return place.guestsOf(room);
            default: return NONE;
        }
    }

    public int personOf(int person, int what) {
        Person who = party.at(person);
        if (who == null) {
            return NONE;
        }
        switch (what) {
            case 0: return who.shares ? 1 : 0;
            case 1: return who.sort;
            case 2: return who.low ? 1 : 0;
            case 3: return who.diet;
            case 4: return who.from;
            case 5: return who.to;
            case 6: return who.gone ? 1 : 0;
            case 7: return who.friend;
            case 8: return party.sharersFor(person);
            default: return NONE;
        }
    }

    public int count(int what) {
        switch (what) {
            case 0: return today;
            case 1: return firstDay;
            case 2: return seasonNow;
            case 3: return party.size;
            case 4: return townCount;
            case 5: return nights;
            case 6: return book.closed;
            case 7: return spent;
            case 8: return reader.length;
            case 9: return coach.sights;
            case 10: return notes.size;
            default: return NONE;
        }
    }

    private static boolean isWithin(int number, int least, int most) {
        return number >= least && number <= most;
    }

    private static boolean isStay(int from, int to) {
        return from >= 0 && from <= to && to < MOST_TOWNS;
    }

    private Town townAt(int number) {
        return isWithin(number, 0, townCount - 1) ? towns[number] : null;
    }

    private boolean isOver(Town place) {
        return place.firstNight + place.nights <= book.closed;
    }

    /** Null for an OVER town too: what changes a list or rooms treats it as none. */
    private Town townThatLasts(int number) {
        Town place = townAt(number);
        return place == null || isOver(place) ? null : place;
    }

    private Town townOfNight(int night) {
        for (int number = 0; number < townCount; number++) {
            Town place = towns[number];
            if (isWithin(night, place.firstNight, place.firstNight + place.nights - 1)) {
                return place;
            }
        }
        return null;
    }

    private void list(Town place, int person, int room) {
        if (place.roomOfGuest(person) != room) {
            place.move(person, room);
            notes.add(place.number, person, room, today);
        }
    }

    /** Takes a person off the lists outside from .. to, or tells false if the notes can't hold that. */
    private boolean leave(int person, int from, int to) {
        int changes = 0;
        for (int number = 0; number < townCount; number++) {
            if (mustLeave(towns[number], person, from, to)) {
                changes++;
            }
        }
        if (!notes.haveSpace(changes)) {
            return false;
        }
        for (int number = 0; number < townCount; number++) {
            if (mustLeave(towns[number], person, from, to)) {
                list(towns[number], person, NONE);
            }
        }
        return true;
    }

    private boolean mustLeave(Town place, int person, int from, int to) {
        boolean outside = place.number < from || place.number > to;
        return outside && !isOver(place) && place.roomOfGuest(person) != NONE;
    }

    private void learnFacts(Town place) {
        int left = firstDay + place.firstNight - today;
        int used = Integer.bitCount(place.usedRooms());
        place.contract.learn(left, place.heldRooms(), used, place.guests(), seasonNow);
    }

    private int worthNow(Town place, int kind) {
        learnFacts(place);
        return place.contract.worthOf(kind);
    }

    /** What giving or buying back costs; it counts as spent. */
    private int priceOfChange(Town place, Room changed, int kind) {
        int hundredths = worthNow(place, kind) * changed.price * place.nights;
        int cost = (hundredths + 99) / 100;
        spent += cost;
        return cost;
    }

    private boolean foresee(int town, int d, int up, int down, int small) {
        Town place = townAt(town);
        if (place == null || !isWithin(d, 0, 30) || !isWithin(small, 0, 1000)) {
            return false;
        }
        if (!isWithin(up, 0, 3) || !isWithin(down, 0, 3)) {
            return false;
        }
        learnFacts(place);
        losses.foresee(place.contract, d, up, down, small);
        return true;
    }

    private void charge(Town place, int room, int refund) {
        int guests = place.guestsOf(room);
        int heads = Integer.bitCount(guests);
        Room slept = place.roomAt(room);
        if (heads == 0 || slept == null) {
            return;
        }
        int share = slept.price / heads;
        int odd = slept.price % heads;
        for (int person = 0; person < party.size; person++) {
            if ((guests >> person & 1) != 0) {
                party.people[person].charge(share + odd, book.closed, refund);
                odd = 0;
            }
        }
    }

    private static final class Person {
        final boolean shares;
        final int sort;
        final boolean low;
        final int diet;
        int from;
        int to;
        boolean gone = false;
        int friend = NONE;
        int bars = 0;
        int absences = 0;
        int owed = 0;

        Person(boolean shares, int sort, boolean low, int diet, int from, int to) {
            this.shares = shares;
            this.sort = sort;
            this.low = low;
            this.diet = diet;
            this.from = from;
            this.to = to;
        }

        boolean isBarred(int other) {
            return (bars >> other & 1) != 0;
        }

        boolean isThereIn(int town) {
            return !gone && from <= town && to >= town;
        }

        void charge(int share, int night, int refund) {
            boolean away = (absences >> night & 1) != 0;
            owed += away ? share - share * refund / 100 : share;
        }
    }

    private static final class Party {
        final Person[] people = new Person[MOST_PEOPLE];
        int size = 0;

        int add(Person person) {
            if (size >= MOST_PEOPLE) {
                return NONE;
            }
            people[size] = person;
            size++;
            return size - 1;
        }

        Person at(int number) {
            return number >= 0 && number < size ? people[number] : null;
        }

        boolean isThere(int person, int town) {
            Person who = at(person);
            return who != null && who.isThereIn(town);
        }

        boolean mayShare(int a, int b) {
            Person one = at(a);
            Person other = at(b);
            if (one == null || other == null || a == b) {
                return false;
            }
            if (one.friend == b) {
                return true;
            }
            boolean free = one.friend == NONE && other.friend == NONE && !one.isBarred(b);
            return free && one.shares && other.shares && one.sort == other.sort;
        }

        int sharersFor(int person) {
            int sharers = 0;
            for (int other = 0; other < size; other++) {
                if (!people[other].gone && mayShare(person, other)) {
                    sharers++;
                }
            }
            return sharers;
        }

        /** Whether a person may be in a room beside the others who are in it. */
        boolean fits(Town place, int person, int room) {
            Person who = at(person);
            Room wished = place.roomAt(room);
            if (who == null || wished == null || !wished.held || who.low && !wished.low) {
                return false;
            }
            int others = place.guestsOf(room) & ~(1 << person);
            return Integer.bitCount(others) < wished.beds && sharesWithAll(person, others);
        }

        private boolean sharesWithAll(int person, int others) {
            for (int other = 0; other < size; other++) {
                if ((others >> other & 1) != 0 && !mayShare(person, other)) {
                    return false;
                }
            }
            return true;
        }

        boolean isRight(Town place) {
            for (int person = 0; person < size; person++) {
                int room = place.roomOfGuest(person);
                // an OVER town's list may still name somebody who is not THERE any more
                boolean counts = room != NONE || people[person].isThereIn(place.number);
                if (counts && !fits(place, person, room)) {
                    return false;
                }
            }
            return true;
        }

        int eaters(Town place, int diet) {
            int eaters = 0;
            for (int person = 0; person < size; person++) {
                if (place.roomOfGuest(person) != NONE && people[person].diet == diet) {
                    eaters++;
                }
            }
            return eaters;
        }
    }

    private static final class Room {
        final int beds;
        final boolean low;
        final int price;
        boolean held = true;

        Room(int beds, boolean low, int price) {
            this.beds = beds;
            this.low = low;
            this.price = price;
        }
    }

    private static final class Town {
        final int number;
        final int nights;
        final int firstNight;
        final Room[] rooms = new Room[MOST_ROOMS];
        private final int[] list = new int[MOST_PEOPLE];
        final Contract contract = new Contract();
        int roomCount = 0;

        Town(int number, int nights, int firstNight) {
            this.number = number;
            this.nights = nights;
            this.firstNight = firstNight;
            for (int person = 0; person < MOST_PEOPLE; person++) {
                list[person] = NONE;
            }
        }

        int add(Room room) {
            if (roomCount >= MOST_ROOMS) {
                return NONE;
            }
            rooms[roomCount] = room;
            roomCount++;
            return roomCount - 1;
        }

        Room roomAt(int room) {
            return room >= 0 && room < roomCount ? rooms[room] : null;
        }

        int roomOfGuest(int person) {
            return person >= 0 && person < MOST_PEOPLE ? list[person] : NONE;
        }

        void move(int person, int room) {
            if (person >= 0 && person < MOST_PEOPLE) {
                list[person] = room;
            }
        }

        /** Those in a room, as bits. */
        int guestsOf(int room) {
            int bits = 0;
            for (int person = 0; person < MOST_PEOPLE; person++) {
                if (list[person] == room) {
                    bits |= 1 << person;
                }
            }
            return bits;
        }

        /** The rooms with somebody, as bits. */
        int usedRooms() {
            int bits = 0;
            for (int person = 0; person < MOST_PEOPLE; person++) {
                if (list[person] != NONE) {
                    bits |= 1 << list[person];
                }
            }
            return bits;
        }

        int guests() {
            return MOST_PEOPLE - Integer.bitCount(guestsOf(NONE));
        }

        int heldRooms() {
            int held = 0;
            for (int room = 0; room < roomCount; room++) {
                if (rooms[room].held) {
                    held++;
                }
            }
            return held;
        }

        /** The prices of all rooms with somebody, but for so many of the cheapest. */
        int billBut(int free) {
            int paid = usedRooms();
            for (int k = 0; k < free && paid != 0; k++) {
                paid &= ~(1 << cheapestOf(paid));
            }
            int sum = 0;
            for (int room = 0; room < roomCount; room++) {
                if ((paid >> room & 1) != 0) {
                    sum += rooms[room].price;
                }
            }
            return sum;
        }

        private int cheapestOf(int bits) {
            int cheapest = NONE;
            for (int room = 0; room < roomCount; room++) {
                boolean asked = (bits >> room & 1) != 0;
                if (asked && (cheapest == NONE || rooms[room].price < rooms[cheapest].price)) {
                    cheapest = room;
                }
            }
            return cheapest;
        }
    }

    /** Each change of a list, one number a note: its day, town, person and room. */
    private static final class Notes {
        private static final int MOST_NOTES = 500;

        final int[] notes = new int[MOST_NOTES];
        int size = 0;

        boolean haveSpace(int more) {
            return size + more <= MOST_NOTES;
        }

        void add(int town, int person, int room, int day) {
            if (size < MOST_NOTES) {
                notes[size] = day << 11 | town << 8 | person << 4 | room + 1;
                size++;
            }
        }

        int latest(int town, int person, int day) {
            for (int k = size - 1; k >= 0; k--) {
                int note = notes[k];
                boolean ofThem = (note >> 8 & 7) == town && (note >> 4 & 15) == person;
                if (ofThem && note >> 11 <= day) {
                    return (note & 15) - 1;
                }
            }
            return NONE;
        }
    }

    /** A town's rules as code for a machine with a stack, and the facts they ask for. */
    private static final class Contract {
        static final int MOST_RULES = 12;
        static final int MARKS = 3;
        // the facts' numbers; a fact's step in the code is -1 less its number
        static final int LEFT = 0;
        static final int HELD = 1;
        static final int USED = 2;
        static final int PEOPLE = 3;
        static final int SEASON = 4;
        static final int FACTS = 5;
        static final int AND = -6;
        static final int LESS = -7;
        static final int EQUAL = -8;
        static final int PLUS = -9;
        static final int MINUS = -10;

        // a level of brackets leaves three lefts waiting at most, and there are six levels
        private static final int MOST_WAITING = 20;

        final int[] kinds = new int[MOST_RULES];
        final int[] marks = new int[MOST_RULES * MARKS];
        final int[] facts = new int[FACTS];
        final int[] stack = new int[MOST_WAITING];
        int[] code = new int[0];
        int rules = 0;

        void take(Reader reader) {
            rules = reader.rules;
            System.arraycopy(reader.kinds, 0, kinds, 0, MOST_RULES);
            System.arraycopy(reader.marks, 0, marks, 0, MOST_RULES * MARKS);
            if (code.length < reader.codes) {
                code = new int[reader.codes];
            }
            System.arraycopy(reader.code, 0, code, 0, reader.codes);
        }

        void learn(int left, int held, int used, int people, int season) {
            facts[LEFT] = left;
            facts[HELD] = held;
            facts[USED] = used;
            facts[PEOPLE] = people;
            facts[SEASON] = season;
        }

        int worthOf(int kind) {
            for (int rule = 0; rule < rules; rule++) {
                int from = marks[rule * MARKS];
                int when = marks[rule * MARKS + 1];
                int end = marks[rule * MARKS + 2];
                boolean asked = kinds[rule] == kind;
                if (asked && (when == end || valueOf(when, end) != 0)) {
                    return Math.max(0, Math.min(100, valueOf(from, when)));
                }
            }
            return 0;
        }

        /** Whether a rule of a kind names a fact. */
        boolean asksFor(int kind, int fact) {
            for (int rule = 0; rule < rules; rule++) {
                int end = Math.min(marks[rule * MARKS + 2], code.length);
                for (int k = marks[rule * MARKS]; kinds[rule] == kind && k < end; k++) {
                    if (code[k] == -1 - fact) {
                        return true;
                    }
                }
            }
            return false;
        }

        private int valueOf(int from, int to) {
            int top = 0;
            for (int k = from; k < to && k < code.length; k++) {
                int step = code[k];
                if (step < -FACTS) {
                    if (top < 2) {
                        return 0;
                    }
                    top--;
                    stack[top - 1] = join(step, stack[top - 1], stack[top]);
                } else {
                    if (top >= MOST_WAITING) {
                        return 0;
                    }
                    stack[top] = step >= 0 ? step : facts[-1 - step];
                    top++;
                }
            }
            return stack[0];
        }

        private static int join(int step, int a, int b) {
            switch (step) {
                case AND: return a != 0 && b != 0 ? 1 : 0;
                case LESS: return a < b ? 1 : 0;
                case EQUAL: return a == b ? 1 : 0;
                case PLUS: return a + b;
                default: return a - b;
            }
        }
    }

    /** The tape, and the reading of it as a contract. */
    private static final class Reader {
        private static final int MOST_BYTES = 400;
        private static final int MOST_DIGITS = 4;
        private static final int MOST_BRACKETS = 5;

        // words that begin a rule are FEE .. FREE
        private static final int WHEN = 4;
        private static final int AND = 5;
        private static final int LEFT = 6;
        private static final int SEASON = 10;
        private static final int END = 12;
        private static final int NO_TOKEN = 13;
        // a token of one sign is the sign's own number; a number is itself and this
        private static final int NUMBER = 1000;

        final int[] kinds = new int[Contract.MOST_RULES];
        final int[] marks = new int[Contract.MOST_RULES * Contract.MARKS];
        final int[] code = new int[MOST_BYTES];
        private final int[] tape = new int[MOST_BYTES];
        // a token for each byte at most, and the end
        private final int[] tokens = new int[MOST_BYTES + 1];
        private final int[] places = new int[MOST_BYTES + 1];
        int length = 0;
        int rules = 0;
        int codes = 0;
        private int tokenCount = 0;
        private int next = 0;
        private int token = END;
        private int place = 0;
        private int fault = 0;

        void take(long bytes) {
            for (int shift = 56; shift >= 0; shift -= 8) {
                int sign = (int) (bytes >>> shift) & 255;
                if (sign != 0 && length < MOST_BYTES) {
                    tape[length] = sign;
                    length++;
                }
            }
        }

        /** 0, or the fault; the tape is empty then. */
        int readText() {
            splitTape();
            length = 0;
            next = 0;
            rules = 0;
            codes = 0;
            fault = 0;
            advance();
            boolean goesOn = true;
            for (int k = 0; goesOn && k <= Contract.MOST_RULES; k++) {
                if (token == END) {
                    goesOn = false;
                } else if (token > FREE) {
                    goesOn = refuse(1);
                } else if (rules >= Contract.MOST_RULES) {
                    goesOn = refuse(2);
                } else {
                    goesOn = readRule();
                }
            }
            return fault;
        }

        private boolean refuse(int what) {
            fault = place * 10 + what;
            return false;
        }

        private boolean readRule() {
            int mark = rules * Contract.MARKS;
            kinds[rules] = token;
            marks[mark] = codes;
            advance();
            if (!readAll(0)) {
                return false;
            }
            marks[mark + 1] = codes;
            if (token == WHEN) {
                advance();
                if (!readAll(0)) {
                    return false;
                }
            }
            marks[mark + 2] = codes;
            if (token != ';') {
                return refuse(1);
            }
            advance();
            rules++;
            return true;
        }

        private boolean readAll(int depth) {
            if (!readTest(depth)) {
                return false;
            }
            for (int k = 0; token == AND && k < MOST_BYTES; k++) {
                advance();
                if (!readTest(depth)) {
                    return false;
                }
                write(Contract.AND);
            }
            return true;
        }

        private boolean readTest(int depth) {
            if (!readSum(depth)) {
                return false;
            }
            if (token != '<' && token != '=') {
                return true;
            }
            int step = token == '<' ? Contract.LESS : Contract.EQUAL;
            advance();
            if (!readSum(depth)) {
                return false;
            }
            write(step);
            return true;
        }

        private boolean readSum(int depth) {
            if (!readPart(depth)) {
                return false;
            }
            for (int k = 0; (token == '+' || token == '-') && k < MOST_BYTES; k++) {
                int step = token == '+' ? Contract.PLUS : Contract.MINUS;
                advance();
                if (!readPart(depth)) {
                    return false;
                }
                write(step);
            }
            return true;
        }

        private boolean readPart(int depth) {
            if (token == '(') {
                if (depth >= MOST_BRACKETS) {
                    return refuse(3);
                }
                advance();
                if (!readAll(depth + 1)) {
                    return false;
                }
                if (token != ')') {
                    return refuse(1);
                }
            } else if (token >= NUMBER) {
                write(token - NUMBER);
            } else if (token >= LEFT && token <= SEASON) {
                write(LEFT - 1 - token);
            } else {
                return refuse(1);
            }
            advance();
            return true;
        }

        private void write(int step) {
            if (codes < MOST_BYTES) {
                code[codes] = step;
                codes++;
            }
        }

        /** Takes the next token; behind the last one, which is END, it stays there. */
        private void advance() {
            if (next < tokenCount) {
                token = tokens[next];
                place = places[next];
                next++;
            }
        }

        /** All tokens are told ahead of the rules, so that calls go less deep: LANGUAGE.md, 11. */
        private void splitTape() {
            tokenCount = 0;
            int behind = 0;
            for (int at = 0; at < length; at++) {
                if (at >= behind && !isBlank(tape[at])) {
                    behind = endOfToken(at);
                    keep(tokenOf(at, behind), at);
                }
            }
            keep(END, length);
        }

        private void keep(int token, int place) {
            if (tokenCount <= MOST_BYTES) {
                tokens[tokenCount] = token;
                places[tokenCount] = place;
                tokenCount++;
            }
        }

        private static boolean isBlank(int sign) {
            return sign == ' ' || sign == '\n';
        }

        private static boolean isLetter(int sign) {
            return sign >= 'a' && sign <= 'z';
        }

        private static boolean isDigit(int sign) {
            return sign >= '0' && sign <= '9';
        }

        private static boolean isSign(int sign) {
            switch (sign) {
                case ';': case '(': case ')': case '<': case '=': case '+': case '-': return true;
                default: return false;
            }
        }

        /** The place behind the token that begins at a place. */
        private int endOfToken(int at) {
            boolean word = isLetter(tape[at]);
            boolean digits = isDigit(tape[at]);
            int end = at + 1;
            while (end < length && (word && isLetter(tape[end]) || digits && isDigit(tape[end]))) {
                end++;
            }
            return end;
        }

        private int tokenOf(int from, int end) {
            if (isLetter(tape[from])) {
                return wordOf(from, end);
            }
            if (isDigit(tape[from])) {
                return numberOf(from, end);
            }
            return isSign(tape[from]) ? tape[from] : NO_TOKEN;
        }

        private int numberOf(int from, int end) {
            if (end - from > MOST_DIGITS) {
                return NO_TOKEN;
            }
            int number = 0;
            for (int at = from; at < end; at++) {
                number = number * 10 + tape[at] - '0';
            }
            return NUMBER + number;
        }

        private int wordOf(int from, int end) {
            if (spells("fee", from, end)) return FEE;
            if (spells("back", from, end)) return BACK;
            if (spells("refund", from, end)) return REFUND;
            if (spells("free", from, end)) return FREE;
            if (spells("when", from, end)) return WHEN;
            if (spells("and", from, end)) return AND;
            if (spells("left", from, end)) return LEFT;
            if (spells("held", from, end)) return LEFT + 1;
            if (spells("used", from, end)) return LEFT + 2;
            if (spells("people", from, end)) return LEFT + 3;
            return spells("season", from, end) ? SEASON : NO_TOKEN;
        }

        private boolean spells(String word, int from, int end) {
            if (word.length() != end - from) {
                return false;
            }
            for (int k = 0; k < word.length(); k++) {
                if (word.charAt(k) != tape[from + k]) {
                    return false;
                }
            }
            return true;
        }
    }

    /**
     * Finds lists. Row i of the table tells for each set of guests the best that the held rooms
     * from the i-th on can do with just these; so a list is read off it from the first room on.
     */
    private static final class Settler {
        private static final int NEVER = 1 << 28;
        private static final int BY_COST = 0;
        private static final int BY_MOVES = 1;
        private static final int BY_NOTHING = 2;
        private static final int MOVES_BITS = 4;
        private static final int COST_BITS = 14;

        final int[] plan = new int[MOST_PEOPLE];
        int plannedMoves = 0;
        int plannedCost = 0;
        private final int[] guests = new int[MOST_PEOPLE];
        private final int[] roomNow = new int[MOST_PEOPLE];
        private final int[] sharers = new int[MOST_PEOPLE];
        private final boolean[] needsLow = new boolean[MOST_PEOPLE];
        private final Room[] rooms = new Room[MOST_ROOMS];
        private final int[] roomNumbers = new int[MOST_ROOMS];
        private int guestCount = 0;
        private int roomCount = 0;
        private int beds = 0;
        private int aim = BY_NOTHING;
        private int[] table = new int[0];

        /** Plans the best right list; false if there is none. */
        boolean findList(Party party, Town place, int how) {
            gatherGuests(party, place);
            gatherRooms(place);
            if (guestCount > beds) {
                return false;
            }
            aim = how;
            fillTable();
            int best = table[(1 << guestCount) - 1];
            if (best >= NEVER) {
                return false;
            }
            readPlan();
            plannedMoves = aim == BY_COST ? best & (1 << MOVES_BITS) - 1 : best >> COST_BITS;
            plannedCost = aim == BY_COST ? best >> MOVES_BITS : best & (1 << COST_BITS) - 1;
            return true;
        }

        int changes(Town place) {
            int changes = 0;
            for (int person = 0; person < MOST_PEOPLE; person++) {
                if (place.roomOfGuest(person) != plan[person]) {
                    changes++;
                }
            }
            return changes;
        }

        int mostGuests(Party party, Town place) {
            gatherGuests(party, place);
            gatherRooms(place);
            aim = BY_NOTHING;
            fillTable();
            int most = 0;
            for (int set = 0; set < 1 << guestCount; set++) {
                if (table[set] < NEVER) {
                    most = Math.max(most, Integer.bitCount(set));
                }
            }
            return most;
        }

        private void gatherGuests(Party party, Town place) {
            guestCount = 0;
            for (int person = 0; person < party.size; person++) {
                if (party.people[person].isThereIn(place.number)) {
                    guests[guestCount] = person;
                    roomNow[guestCount] = place.roomOfGuest(person);
                    needsLow[guestCount] = party.people[person].low;
                    guestCount++;
                }
            }
            for (int a = 0; a < guestCount; a++) {
                sharers[a] = 0;
                for (int b = 0; b < a; b++) {
                    if (party.mayShare(guests[a], guests[b])) {
                        sharers[a] |= 1 << b;
                    }
                }
            }
        }

        private void gatherRooms(Town place) {
            roomCount = 0;
            beds = 0;
            for (int room = 0; room < place.roomCount; room++) {
                if (place.rooms[room].held) {
                    rooms[roomCount] = place.rooms[room];
                    roomNumbers[roomCount] = room;
                    beds += rooms[roomCount].beds;
                    roomCount++;
                }
            }
        }

        private void fillTable() {
            int size = roomCount + 1 << guestCount;
            if (table.length < size) {
                table = new int[size];
            }
            int last = roomCount << guestCount;
            table[last] = 0;
            for (int at = last + 1; at < size; at++) {
                table[at] = NEVER;
            }
            for (int row = roomCount - 1; row >= 0; row--) {
                fillRow(row);
            }
        }

        private void fillRow(int row) {
            int width = 1 << guestCount;
            // as if nobody were in the room
            System.arraycopy(table, (row + 1) * width, table, row * width, width);
            for (int a = 0; a < guestCount; a++) {
                for (int b = 0; b <= a; b++) {
                    int weight = weightOf(row, a, b);
                    if (weight < NEVER) {
                        useRoom(row, 1 << a | 1 << b, weight);
                    }
                }
            }
        }

        /** Weighs a set in a row's room beside each set of others in the rooms behind it. */
        private void useRoom(int row, int set, int weight) {
            int here = (row << guestCount) + set;
            int behind = row + 1 << guestCount;
            int others = (1 << guestCount) - 1 & ~set;
            int sets = 1 << Integer.bitCount(others);
            int rest = others;
            for (int k = 0; k < sets; k++) {
                int sum = weight + table[behind + rest];
                if (sum < table[here + rest]) {
                    table[here + rest] = sum;
                }
                // the next lesser set that is within the others
                rest = rest - 1 & others;
            }
        }

        /** Of guests a and b, not above a (a alone, if b is a); NEVER, if they can't be there. */
        private int weightOf(int row, int a, int b) {
            Room room = rooms[row];
            if (!room.low && (needsLow[a] || needsLow[b])) {
                return NEVER;
            }
            if (a != b && (room.beds < 2 || (sharers[a] >> b & 1) == 0)) {
                return NEVER;
            }
            int moves = movesOf(row, a);
            if (a != b) {
                moves += movesOf(row, b);
            }
            switch (aim) {
                case BY_COST: return room.price << MOVES_BITS | moves;
                case BY_MOVES: return moves << COST_BITS | room.price;
                default: return 0;
            }
        }

        private int movesOf(int row, int a) {
            return roomNow[a] != NONE && roomNow[a] != roomNumbers[row] ? 1 : 0;
        }

        private void readPlan() {
            for (int person = 0; person < MOST_PEOPLE; person++) {
                plan[person] = NONE;
            }
            int left = (1 << guestCount) - 1;
            for (int row = 0; row < roomCount; row++) {
                int set = firstSetOf(row, left);
                for (int a = 0; a < guestCount; a++) {
                    if ((set >> a & 1) != 0) {
                        plan[guests[a]] = roomNumbers[row];
                    }
                }
                left &= ~set;
            }
        }

        /** Of the sets for a row's room that keep to the best, the least as bits. */
        private int firstSetOf(int row, int left) {
            int best = table[(row << guestCount) + left];
            int behind = row + 1 << guestCount;
            if (table[behind + left] == best) {
                return 0;
            }
            for (int a = 0; a < guestCount; a++) {
                for (int k = 0; k <= a; k++) {
                    // a alone is less than a with another one, and these are in order
                    int b = k == 0 ? a : k - 1;
                    int set = 1 << a | 1 << b;
                    int weight = (set & ~left) == 0 ? weightOf(row, a, b) : NEVER;
                    if (weight < NEVER && weight + table[behind + (left & ~set)] == best) {
                        return set;
                    }
                }
            }
            return 0;
        }
    }

    /** What giving rooms back loses at worst; only the used that can come up are looked at. */
    private static final class Losses {
        private static final int MOST_USED = 10;
        private static final int WIDTH = MOST_USED + 1;
        private static final int SIZE = (MOST_ROOMS + 1) * WIDTH;

        int least = 0;
        int given = 0;
        private final int[] table = new int[SIZE];
        private final int[] worst = new int[SIZE];
        private final int[] fees = new int[SIZE];
        private int up = 0;
        private int down = 0;
        private int mostHeld = 0;
        private int lowest = 0;
        private int highest = 0;

        void foresee(Contract contract, int d, int up, int down, int small) {
            int used = contract.facts[Contract.USED];
            mostHeld = contract.facts[Contract.HELD];
            this.up = up;
            this.down = down;
            spread(used, d);
            fillLastDay(small);
            given = 0;
            boolean asksLeft = contract.asksFor(FEE, Contract.LEFT);
            for (int days = 1; days <= d; days++) {
                spread(used, d - days);
                // the first of these days has the widest spread, so its fees can serve them all
                if (days == 1 || asksLeft) {
                    fillFees(contract, days);
                }
                fillWorst();
                fillDay();
            }
            least = table[mostHeld * WIDTH + used];
        }

        /** The used that can come up after so many days. */
        private void spread(int used, int days) {
            lowest = Math.max(0, used - days * down);
            highest = Math.min(MOST_USED, used + days * up);
        }

        private void fillLastDay(int small) {
            for (int held = 0; held <= mostHeld; held++) {
                for (int used = lowest; used <= highest; used++) {
                    int more = held - used;
                    table[held * WIDTH + used] = more >= 0 ? 100 * more : -more * small;
                }
            }
        }

        /** A fee is asked for anew only where it may differ: a text may take long to tell. */
        private void fillFees(Contract contract, int days) {
            boolean asksHeld = contract.asksFor(FEE, Contract.HELD);
            boolean asksUsed = contract.asksFor(FEE, Contract.USED);
            contract.facts[Contract.LEFT] = days;
            for (int held = 1; held <= mostHeld; held++) {
                contract.facts[Contract.HELD] = held;
                for (int used = lowest; used <= highest; used++) {
                    int at = held * WIDTH + used;
                    contract.facts[Contract.USED] = used;
                    if (held > 1 && !asksHeld) {
                        fees[at] = fees[at - WIDTH];
                    } else if (used > lowest && !asksUsed) {
                        fees[at] = fees[at - 1];
                    } else {
                        fees[at] = contract.worthOf(FEE);
                    }
                }
            }
        }

        private void fillWorst() {
            for (int held = 0; held <= mostHeld; held++) {
                for (int used = lowest; used <= highest; used++) {
                    int last = Math.min(MOST_USED, used + up);
                    int most = 0;
                    for (int next = Math.max(0, used - down); next <= last; next++) {
                        most = Math.max(most, table[held * WIDTH + next]);
                    }
                    worst[held * WIDTH + used] = most;
                }
            }
        }

        private void fillDay() {
            for (int held = 0; held <= mostHeld; held++) {
                for (int used = lowest; used <= highest; used++) {
                    table[held * WIDTH + used] = leastOf(held, used);
                }
            }
        }

        /** Given is told too; the last call of all is for what foresee() is asked. */
        private int leastOf(int held, int used) {
            int fee = fees[held * WIDTH + used];
            int best = worst[held * WIDTH + used];
            given = 0;
            for (int r = 1; r <= held; r++) {
                int sum = r * fee + worst[(held - r) * WIDTH + used];
                if (sum < best) {
                    best = sum;
                    given = r;
                }
            }
            return best;
        }
    }

    /** Sights, ways and the best trip; place 0 is the hotel. */
    private static final class Coach {
        private static final int MOST_SIGHTS = 6;
        private static final int PLACES = MOST_SIGHTS + 1;
        private static final int LAST_MINUTE = 1440;
        private static final int MOST_AT_ONCE = 270;
        private static final int MOST_DRIVING = 540;
        private static final int REST = 45;

        int sights = 0;
        private final int[] opens = new int[PLACES];
        private final int[] shuts = new int[PLACES];
        private final int[] lasts = new int[PLACES];
        private final int[] ways = new int[PLACES * PLACES];
        private final int[] path = new int[MOST_SIGHTS];
        private final int[] begins = new int[MOST_SIGHTS];
        private final int[] bestPath = new int[MOST_SIGHTS];
        private final int[] bestBegins = new int[MOST_SIGHTS];
        private boolean isTold = false;
        private int bestSights = 0;
        private int bestEnd = 0;
        private int bestDriving = 0;
        private int bestRests = 0;

        int addSight(int opens, int shuts, int lasts) {
            boolean hours = isWithin(opens, 0, LAST_MINUTE) && isWithin(shuts, 0, LAST_MINUTE);
            if (!hours || !isWithin(lasts, 1, 300) || opens + lasts > shuts) {
                return NONE;
            }
            if (sights >= MOST_SIGHTS) {
                return NONE;
            }
            sights++;
            this.opens[sights] = opens;
            this.shuts[sights] = shuts;
            this.lasts[sights] = lasts;
            return sights;
        }

        boolean setWay(int from, int to, int minutes) {
            boolean places = isWithin(from, 0, sights) && isWithin(to, 0, sights) && from != to;
            if (!places || !isWithin(minutes, 0, MOST_AT_ONCE)) {
                return false;
            }
            ways[from * PLACES + to] = minutes;
            return true;
        }

        int forget() {
            int had = sights;
            sights = 0;
            for (int at = 0; at < PLACES * PLACES; at++) {
                ways[at] = 0;
            }
            return had;
        }

        int plan(int minute) {
            if (!isWithin(minute, 0, LAST_MINUTE)) {
                return NONE;
            }
            isTold = true;
            bestSights = 0;
            bestEnd = minute;
            bestDriving = 0;
            bestRests = 0;
            goOn(0, 0, minute, 0, 0, 0, 1);
            return bestSights;
        }

        int tell(int what) {
            if (!isTold) {
                return NONE;
            }
            if (isWithin(what, 10, 9 + bestSights)) {
                return bestPath[what - 10];
            }
            if (isWithin(what, 20, 19 + bestSights)) {
                return bestBegins[what - 20];
            }
            switch (what) {
                case 0: return bestEnd;
                case 1: return bestDriving;
                case 2: return bestRests;
                default: return NONE;
            }
        }

        /** Tries all that can come behind a place; fresh: minutes of driving since the last rest. */
        private void goOn(int depth, int from, int time, int fresh, int driven, int rests, int seen) {
            if (depth > MOST_SIGHTS) {
                return;
            }
            for (int to = 0; to <= sights; to++) {
                int way = ways[from * PLACES + to];
                if (way == 0 || driven + way > MOST_DRIVING) {
                    continue;
                }
                boolean tired = fresh + way > MOST_AT_ONCE;
                int come = time + way + (tired ? REST : 0);
                int since = tired ? way : fresh + way;
                int paused = tired ? rests + 1 : rests;
                if (to == 0) {
                    comeHome(depth, come, driven + way, paused);
                } else if ((seen >> to & 1) == 0) {
                    int begin = Math.max(come, opens[to]);
                    int end = begin + lasts[to];
                    if (end <= shuts[to] && depth < MOST_SIGHTS) {
                        path[depth] = to;
                        begins[depth] = begin;
                        int kept = end - come >= REST ? 0 : since;
                        goOn(depth + 1, to, end, kept, driven + way, paused, seen | 1 << to);
                    }
                }
            }
        }

        /** Trips come in the order of their sights, so a later one must be better to be kept. */
        private void comeHome(int count, int end, int driving, int rests) {
            if (end > LAST_MINUTE || !isBetter(count, end, driving)) {
                return;
            }
            bestSights = count;
            bestEnd = end;
            bestDriving = driving;
            bestRests = rests;
            for (int k = 0; k < count; k++) {
                bestPath[k] = path[k];
                bestBegins[k] = begins[k];
            }
        }

        private boolean isBetter(int count, int end, int driving) {
            if (count != bestSights) {
                return count > bestSights;
            }
            return end < bestEnd || end == bestEnd && driving < bestDriving;
        }
    }

    /** The nights that are closed: who lay where, and the hotels' bills. */
    private static final class Book {
        int closed = 0;
        final int[] bills = new int[MOST_NIGHTS];
        private final int[] rooms = new int[MOST_NIGHTS * MOST_PEOPLE];

        int close(Town place, int bill) {
            if (closed >= MOST_NIGHTS) {
                return NONE;
            }
            for (int person = 0; person < MOST_PEOPLE; person++) {
                rooms[closed * MOST_PEOPLE + person] = place.roomOfGuest(person);
            }
            bills[closed] = bill;
            closed++;
            return closed - 1;
        }

        int roomOfGuest(int night, int person) {
            boolean known = isWithin(night, 0, closed - 1) && isWithin(person, 0, MOST_PEOPLE - 1);
            return known ? rooms[night * MOST_PEOPLE + person] : NONE;
        }
    }
}
