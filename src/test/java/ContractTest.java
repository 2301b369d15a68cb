/** Promises 19 to 23: feed, read, worth, give, buy. */
public final class ContractTest {
    private static final Check check = new Check();

    public static void main(String[] args) {
        feed();
        read();
        faults();
        rulesAndBrackets();
        worth();
        facts();
        give();
        buy();
        check.end();
    }

    private static void feed() {
        TourRooms x = new TourRooms();
        check.due("nothing", x.feed(0, 0, 0), 0);
        check.due("highest first, no zeros", x.feed(0x6600650000000000L, 0, 0x0000000000006500L), 3);
        x.town(1);
        x.feed(0x2035L << 16, 0x3bL, 0);
        check.due("count(8)", x.count(8), 6);
        check.due("fee 5;", x.read(0), 0);
        check.due("worth", x.worth(0, 0), 5);
        check.due("empty then", x.count(8), 0);
        for (int k = 1; k <= 16; k++) {
            check.due("feed " + k, x.feed(-1L, -1L, -1L), 24 * k);
        }
        check.due("15 more", x.feed(-1L, 0x0000010101010101L, 0x1L), 399);
        check.due("up to 400", x.feed(-1L, -1L, -1L), 400);
        check.due("no more", x.feed(-1L, 1L, 1L), 400);
        check.due("a byte 255 is no token", x.read(0), 1);
    }

    private static void read() {
        TourRooms x = new TourRooms();
        check.due("no town", x.read(0), -1);
        Check.feed(x, "fee 7;");
        check.due("no town 0", x.read(0), -1);
        check.due("the tape stays", x.count(8), 6);
        x.town(1);
        check.due("no town -1", x.read(-1), -1);
        check.due("read", x.read(0), 0);
        check.due("rules", x.townOf(0, 8), 1);
        check.due("a fault", Check.read(x, 0, "back 1; fee"), 111);
        check.due("changes nothing", x.worth(0, 0), 7);
        check.due("nor that", x.worth(0, 1), 0);
        check.due("rules as before", x.townOf(0, 8), 1);
        check.due("and the tape is empty", x.count(8), 0);
        check.due("an empty text", x.read(0), 0);
        check.due("no rules", x.townOf(0, 8), 0);
        check.due("no worth", x.worth(0, 0), 0);
        check.due("blanks alone", Check.read(x, 0, " \n  "), 0);
        x.start(0);
        x.night();
        check.due("of a town that is over", Check.read(x, 0, "free 2;"), 0);
        check.due("worth there", x.worth(0, 3), 2);
    }

    private static void fault(String text, int due) {
        TourRooms x = new TourRooms();
        x.town(1);
        check.due("read of '" + text + "'", Check.read(x, 0, text), due);
    }

    private static void faults() {
        fault("fee5when left<3and 1;", 0);
        fault("fee 5 when\nleft;back(1);", 0);
        fault("fee", 31);
        fault("fee ", 41);
        fault("fee 5", 51);
        fault("fee 5  ", 71);
        fault("fees 5;", 1);
        fault(" fe 5;", 11);
        fault("5;", 1);
        fault(";", 1);
        fault("fee;", 31);
        fault("fee 5;;", 61);
        fault("fee 5 6;", 61);
        fault("fee 12345;", 41);
        fault("fee 1234;", 0);
        fault("fee 0000;", 0);
        fault("fee 5 12345;", 61);
        fault("fee -5;", 41);
        fault("fee 5-;", 61);
        fault("fee 5-+1;", 61);
        fault("fee 1<2<3;", 71);
        fault("fee 1=2<3;", 71);
        fault("fee (1<2)<3;", 0);
        fault("fee 1<2 and 3=4 and 5;", 0);
        fault("fee and 1;", 41);
        fault("fee 1 and;", 91);
        fault("fee 1 when 2 when 3;", 131);
        fault("fee 1 when;", 101);
        fault("fee (1 when 2);", 71);
        fault("fee (1;", 61);
        fault("fee 1);", 51);
        fault("fee ();", 51);
        fault("fee (1", 61);
        fault("fee lefts;", 41);
        fault("fee leftz;", 41);
        fault("fee lefta;", 41);
        fault("fee left held;", 91);
        fault("fee fee;", 41);
        fault("fee\t5;", 31);
        fault("fee 5\r;", 51);
        fault("fee 5%;", 51);
        fault("Fee 5;", 1);
        fault("fee 5A;", 51);
        fault("fee 5 ; x", 81);
        fault("fee 5" + (char) 255 + ";", 51);
        fault("fee left+held-used+people-season;", 0);
    }

    private static void rulesAndBrackets() {
        fault("fee(((((1)))));", 0);
        fault("fee((((((1))))));", 83);
        fault("fee 1((((((1))))));", 51);
        fault("fee (1)+(2)+(3)+(4)+(5)+(6)+(7);", 0);
        fault("fee 1 when (((((1)))))+((((((2;", 283);
        fault("fee (((((1(", 101);
        fault("fee ((((( (", 103);
        StringBuilder twelve = new StringBuilder();
        for (int k = 0; k < 12; k++) {
            twelve.append("free ").append(k % 10).append(';');
        }
        fault(twelve.toString(), 0);
        fault(twelve + "  ", 0);
        fault(twelve + "fee", 842);
        fault(twelve + " back 1;", 852);
        fault(twelve + " left 1;", 851);
        fault(twelve + "fees 1;", 841);
        fault(twelve + ";", 841);
        TourRooms x = new TourRooms();
        x.town(1);
        Check.read(x, 0, twelve.toString());
        check.due("rules", x.townOf(0, 8), 12);
        StringBuilder longest = new StringBuilder("fee 1");
        while (longest.length() < 397) {
            longest.append("+1");
        }
        fault(longest + ";", 0);
        fault(longest + "+1;", 0);
        fault(longest + "+12;", 4001);
    }

    private static int worthOf(String text) {
        TourRooms x = new TourRooms();
        x.town(1);
        check.due("read of '" + text + "'", Check.read(x, 0, text), 0);
        return x.worth(0, 0);
    }

    private static void worth() {
        check.due("sum", worthOf("fee 10-3-2+1;"), 6);
        check.due("brackets", worthOf("fee 10-(3-2)+1;"), 10);
        check.due("not below 0", worthOf("fee 3-9;"), 0);
        check.due("not above 100", worthOf("fee 99+2;"), 100);
        check.due("100", worthOf("fee 0100;"), 100);
        check.due("less", worthOf("fee 7+(1<2);"), 8);
        check.due("not less", worthOf("fee 7+(2<2);"), 7);
        check.due("equal", worthOf("fee 7+(2=1+1);"), 8);
        check.due("and", worthOf("fee 5 and 3;"), 1);
        check.due("and nought", worthOf("fee 5 and 3 and 0;"), 0);
        check.due("and of tests", worthOf("fee 20+(1<2 and 2<1);"), 20);
        check.due("below 0 is not 0", worthOf("fee 9 when 1-2;"), 9);
        check.due("when nought", worthOf("fee 9 when 1-1; fee 4;"), 4);
        check.due("the first that holds", worthOf("back 1; fee 9 when 0; fee 8 when 1; fee 7;"), 8);
        check.due("none that holds", worthOf("fee 9 when 0;back 3;"), 0);
        check.due("the first is 0", worthOf("fee 0; fee 5;"), 0);
        String deep = "fee 1 and 0<1+(1 and 0<1+(1 and 0<1+(1 and 0<1+(1 and 0<1+(1 and 0<1+1)))));";
        check.due("deep", worthOf(deep), 1);
        TourRooms x = new TourRooms();
        check.due("no town", x.worth(0, 0), -1);
        x.town(1);
        check.due("kind -1", x.worth(0, -1), -1);
        check.due("kind 4", x.worth(0, 4), -1);
        check.due("town -1", x.worth(-1, 0), -1);
        check.due("no contract", x.worth(0, 3), 0);
        Check.read(x, 0, "fee 1;back 2;refund 3;free 4;");
        for (int kind = 0; kind < 4; kind++) {
            check.due("kind " + kind, x.worth(0, kind), kind + 1);
        }
    }

    private static void facts() {
        TourRooms x = new TourRooms();
        x.person(true, 0, false, 0, 0, 5);
        x.person(true, 0, false, 0, 0, 5);
        x.person(false, 0, false, 0, 0, 5);
        x.town(3);
        x.town(1);
        for (int room = 0; room < 4; room++) {
            x.room(1, 2, false, 10);
        }
        x.put(1, 0, 1);
        x.put(1, 1, 1);
        x.put(1, 2, 3);
        x.give(1, 0);
        Check.read(x, 1, "fee left;back held;refund used;free people;");
        check.due("left", x.worth(1, 0), 33);
        check.due("held", x.worth(1, 1), 3);
        check.due("used", x.worth(1, 2), 2);
        check.due("people", x.worth(1, 3), 3);
        x.day(40);
        Check.read(x, 1, "fee 50+left;");
        check.due("left below 0", x.worth(1, 0), 43);
        check.due("another town has its own", x.worth(0, 0), 0);
    }

    private static void give() {
        TourRooms x = new TourRooms();
        x.person(true, 0, false, 0, 0, 5);
        check.due("no town", x.give(0, 0), -1);
        x.town(3);
        check.due("no room", x.give(0, 0), -1);
        x.room(0, 1, false, 33);
        x.room(0, 1, false, 34);
        Check.read(x, 0, "fee held+8;");
        check.due("town -1", x.give(-1, 0), -1);
        check.due("room -1", x.give(0, -1), -1);
        check.due("room 2", x.give(0, 2), -1);
        x.put(0, 0, 0);
        check.due("somebody is in it", x.give(0, 0), -1);
        x.put(0, 0, 1);
        check.due("10 of a hundred of 99", x.give(0, 0), 10);
        check.due("not held any more", x.give(0, 0), -1);
        check.due("roomOf", x.roomOf(0, 0, 3), 0);
        x.put(0, 0, -1);
        check.due("9 of a hundred of 102", x.give(0, 1), 10);
        check.due("spent", x.count(7), 20);
        check.due("nobody to put", x.put(0, 0, 0), false);
        x.gone(0);
        x.room(0, 1, false, 100);
        Check.read(x, 0, "fee 50;");
        check.due("150 without a rest", x.give(0, 2), 150);
        x.start(0);
        x.room(0, 1, false, 100);
        x.night();
        x.day(2);
        x.night();
        check.due("not over", x.give(0, 3), 150);
        x.room(0, 1, false, 100);
        x.night();
        check.due("over", x.give(0, 4), -1);
        check.due("spent in all", x.count(7), 320);
    }

    private static void buy() {
        TourRooms x = new TourRooms();
        check.due("no town", x.buy(0, 0), -1);
        x.town(1);
        check.due("no room", x.buy(0, 0), -1);
        x.room(0, 1, false, 55);
        check.due("it is held", x.buy(0, 0), -1);
        Check.read(x, 0, "back held+10; fee 0;");
        check.due("nothing to pay", x.give(0, 0), 0);
        check.due("room -1", x.buy(0, -1), -1);
        check.due("town -1", x.buy(-1, 0), -1);
        check.due("10 of a hundred of 55", x.buy(0, 0), 6);
        check.due("held again", x.roomOf(0, 0, 3), 1);
        check.due("spent", x.count(7), 6);
        x.give(0, 0);
        x.start(0);
        x.night();
        check.due("over", x.buy(0, 0), -1);
        check.due("spent still", x.count(7), 6);
    }
}
