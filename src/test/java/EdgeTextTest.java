/** The edges of promises 19 to 21: feed, read, worth. */
public final class EdgeTextTest {
    private static final Edge edge = new Edge();
    private static final Check check = edge.check;
    private static final Edge.Make BUSY = Desk::busy;
    private static final Edge.Make OVER = Desk::over;
    private static final String TWELVE = "fee1;".repeat(12);

    public static void main(String[] args) {
        feedTakesUpTo24Bytes();
        feedTakesTheHighestFirst();
        feedLeavesNoughtsOut();
        feedFillsTheTape();
        feedLeavesOutWhatIsBeyond();
        readOfNoSuchTown();
        readEmptiesTheTape();
        readOfAFaultChangesNothing();
        readOfAnEmptyText();
        readTakesThePlaceOfTheRules();
        readWhereItIsOver();
        wordsAreTheLongest();
        lettersAreAToZ();
        numbersAreOneToFourDigits();
        blanksAreTwo();
        signsAreSeven();
        everyByteAlone();
        faultsAtTheEnd();
        faultsAtTheLastPlaces();
        rulesAreTwelve();
        bracketsAreFive();
        theFirstFaultByItsPlace();
        ofOnePlaceTheLeast();
        theGrammar();
        worthOfNoSuchOnes();
        worthIsNotBelowNoughtNorAboveAHundred();
        worthIsNoughtWithoutARule();
        worthByTheFirstRule();
        whenIsNotNought();
        andLessEqual();
        factsAtTheirEnds();
        check.end();
    }

    private static TourRooms withTape(int bytes) {
        TourRooms x = new TourRooms();
        x.town(1);
        Check.feed(x, " ".repeat(bytes));
        return x;
    }

    private static void feedTakesUpTo24Bytes() {
        long all = 0x2020202020202020L;
        edge.told("no byte", BUSY, x -> x.feed(0, 0, 0), 7);
        edge.is("one byte", TourRooms::new, x -> x.feed(0, 0, 32), 1);
        edge.is("one byte, the highest", TourRooms::new, x -> x.feed(0x2000000000000000L, 0, 0), 1);
        edge.is("8 bytes", TourRooms::new, x -> x.feed(0, all, 0), 8);
        TourRooms x = edge.is("24 bytes", TourRooms::new, y -> y.feed(all, all, all), 24);
        check.due("24 more", x.feed(all, all, all), 48);
        check.due("count(8)", x.count(8), 48);
        edge.is("24 bytes 255", TourRooms::new, y -> y.feed(-1, -1, -1), 24);
        edge.is("bytes 1, 128 and 127", TourRooms::new, y -> y.feed(1, Long.MIN_VALUE, 127), 3);
    }

    private static void feedTakesTheHighestFirst() {
        TourRooms x = new TourRooms();
        x.town(1);
        // "fee 12-3" "+left-30" "+season;"
        x.feed(0x6665652031322d33L, 0x2b6c6566742d3330L, 0x2b736561736f6e3bL);
        check.due("read", x.read(0), 0);
        check.due("worth", x.worth(0, 0), 9);
    }

    private static void feedLeavesNoughtsOut() {
        TourRooms x = new TourRooms();
        x.town(1);
        check.due("noughts ahead, between and behind", x.feed(0x0066006500650000L, 0x0000000000003700L, 0x3bL), 5);
        check.due("read", x.read(0), 0);
        check.due("worth", x.worth(0, 0), 7);
    }

    private static void feedFillsTheTape() {
        edge.is("to 399", () -> withTape(398), x -> x.feed(0, 0, 32), 399);
        edge.is("to 400", () -> withTape(399), x -> x.feed(0, 0, 32), 400);
        edge.told("to 401", () -> withTape(400), x -> x.feed(0, 0, 32), 400);
        edge.told("to 424", () -> withTape(400), x -> x.feed(-1, -1, -1), 400);
        edge.is("24 bytes to 400", () -> withTape(376), x -> x.feed(-1, -1, -1), 400);
        edge.is("24 bytes to 401", () -> withTape(377), x -> x.feed(-1, -1, -1), 400);
        TourRooms x = withTape(400);
        x.read(0);
        check.due("from 0 again", x.feed(0, 0, 32), 1);
    }

    private static void feedLeavesOutWhatIsBeyond() {
        // the 400th byte ends the rule; what comes behind it would be a fault
        TourRooms x = withTape(394);
        check.due("fee 5", Check.feed(x, "fee 5"), 399);
        check.due("the last byte, and one beyond", x.feed(';', 'x', 'x'), 400);
        check.due("read", x.read(0), 0);
        check.due("worth", x.worth(0, 0), 5);
        TourRooms y = withTape(395);
        check.due("to 400", Check.feed(y, "fee 5;"), 400);
        check.due("the end is lost", y.read(0), 4001);
    }

    private static void readOfNoSuchTown() {
        for (int wrong : new int[] {-1, 3, 6, Edge.LEAST, Edge.MOST}) {
            edge.none("read of TOWN " + wrong, BUSY, x -> x.read(wrong));
        }
        TourRooms x = Desk.busy();
        check.due("read of no TOWN", x.read(Desk.TOWNS), Edge.NONE);
        check.due("the TAPE stays", x.count(8), 7);
        check.due("and is read then", x.read(2), 0);
        check.due("worth", x.worth(2, 1), 7);
    }

    private static void readEmptiesTheTape() {
        TourRooms x = edge.is("read", BUSY, y -> y.read(2), 0);
        check.due("the TAPE", x.count(8), 0);
        check.due("RULES", x.townOf(2, 8), 1);
        TourRooms z = edge.is("read of a FAULT", () -> Desk.busy("fee 5;x"), y -> y.read(2), 61);
        check.due("the TAPE then", z.count(8), 0);
        check.due("nothing is left of it", z.read(2), 0);
        check.due("no RULES", z.townOf(2, 8), 0);
    }

    private static void readOfAFaultChangesNothing() {
        String[] texts = {"fee", "fee 1;back 2;refund 3;free 4;x", "fee 1 when 2", "back 12345;",
            TWELVE + "fee", "free((((((1))))));"};
        for (String text : texts) {
            for (int town = 0; town < Desk.TOWNS; town++) {
                int t = town;
                edge.alike("read of '" + text + "'", () -> Desk.busy(""), () -> {
                    TourRooms x = Desk.busy(text);
                    check.due("a FAULT", x.read(t) > 0, true);
                    return x;
                });
            }
        }
    }

    private static void readOfAnEmptyText() {
        for (String text : new String[] {"", " ", "\n", " \n \n"}) {
            TourRooms x = edge.is("read of blanks", () -> Desk.busy(text), y -> y.read(0), 0);
            check.due("no RULES", x.townOf(0, 8), 0);
            for (int kind = 0; kind < 4; kind++) {
                check.due("worth", x.worth(0, kind), 0);
            }
        }
    }

    private static void readTakesThePlaceOfTheRules() {
        TourRooms x = edge.is("read", BUSY, y -> y.read(0), 0);
        check.due("RULES", x.townOf(0, 8), 1);
        check.due("fee", x.worth(0, 0), 0);
        check.due("back", x.worth(0, 1), 7);
        check.due("RULES of another TOWN", x.townOf(1, 8), 3);
        check.due("twelve", Check.read(x, 0, TWELVE), 0);
        check.due("RULES", x.townOf(0, 8), 12);
        for (int k = 0; k < 30; k++) {
            check.due("a long one", Check.read(x, 0, "fee 1" + "+1".repeat(40) + "-40;"), 0);
            check.due("worth", x.worth(0, 0), 1);
        }
        check.due("one with a when", Check.read(x, 0, "fee 3 when 1;"), 0);
        check.due("nothing of the long one is left", x.worth(0, 0), 3);
        check.due("one", Check.read(x, 0, "fee 3;"), 0);
        check.due("RULES", x.townOf(0, 8), 1);
        check.due("fee", x.worth(0, 0), 3);
    }

    private static void readWhereItIsOver() {
        TourRooms x = edge.is("read where it is OVER", OVER, y -> y.read(0), 0);
        check.due("worth", x.worth(0, 1), 7);
    }

    private static void fault(String text, int due) {
        TourRooms x = new TourRooms();
        x.town(1);
        check.due("read of '" + text + "'", Check.read(x, 0, text), due);
    }

    private static void wordsAreTheLongest() {
        fault("fee5;", 0);
        fault("fee5when6;", 0);
        fault("fee left and held;", 0);
        fault("fee leftand held;", 41);
        fault("fee left andheld;", 91);
        fault("fee 1and 2;", 0);
        fault("fee 1and2;", 0);
        fault("feefee 1;", 1);
        fault("f", 1);
        fault("fe", 1);
        fault("freee 1;", 1);
        fault("fre 1;", 1);
        fault("fee 1whe 2;", 51);
        fault("fee 1when2;", 0);
        fault("fee 1whenn 2;", 51);
        fault("fee(left)when(held);", 0);
        fault("fee 1;back 1;refund 1;free 1;", 0);
        fault("refun 1;", 1);
        fault("bac k 1;", 1);
        fault("fee l eft;", 41);
        fault("fee seasons;", 41);
        fault("fee seaso;", 41);
        fault("fee peoples;", 41);
        for (String word : new String[] {"fee", "back", "refund", "free"}) {
            eachLetterOf(word, "", " 1;", 0);
        }
        for (String word : new String[] {"left", "held", "used", "people", "season"}) {
            eachLetterOf(word, "fee ", ";", 4);
        }
        eachLetterOf("when", "fee 1 ", " 1;", 6);
        eachLetterOf("and", "fee 1 ", " 1;", 6);
    }

    /** A word with another letter anywhere is another word, which can't stand there. */
    private static void eachLetterOf(String word, String ahead, String behind, int place) {
        fault(ahead + word + behind, 0);
        for (int k = 0; k < word.length(); k++) {
            fault(ahead + word.substring(0, k) + "x" + word.substring(k + 1) + behind, 10 * place + 1);
        }
    }

    private static void lettersAreAToZ() {
        fault("fee `;", 41);
        fault("fee {;", 41);
        fault("fee a;", 41);
        fault("fee z;", 41);
        fault("fee 1`;", 51);
        fault("fee 1{;", 51);
        fault("fee LEFT;", 41);
        fault("FEE 1;", 1);
        fault("fee left`;", 81);
        fault("fee left{;", 81);
        fault("fee leftA;", 81);
    }

    private static void numbersAreOneToFourDigits() {
        fault("fee 0;", 0);
        fault("fee 9;", 0);
        fault("fee 9999;", 0);
        fault("fee 0000;", 0);
        fault("fee 10000;", 41);
        fault("fee 00000;", 41);
        fault("fee 1234567890;", 41);
        fault("fee 1+99999;", 61);
        fault("fee 1 12345;", 61);
        fault("fee 123 4;", 81);
        fault("fee /;", 41);
        fault("fee :;", 41);
        fault("fee 1/;", 51);
        fault("fee 1:;", 51);
        check.due("9999 is 9999", worthOf("fee 9999-9998+41;"), 42);
        check.due("0012 is 12", worthOf("fee 0012;"), 12);
    }

    private static void blanksAreTwo() {
        fault(" fee 5;", 0);
        fault("\nfee\n5\n;\n", 0);
        fault("  \n fee \n\n 5 \n ;  ", 0);
        fault("fee 1 and(2)<3;", 0);
        fault("\tfee 5;", 1);
        fault("fee\t5;", 31);
        fault("fee\r5;", 31);
        fault("fee\f5;", 31);
        fault("fee 5" + (char) 11 + ";", 51);
        fault("fee 5;" + (char) 160, 61);
        fault("fee 5;!", 61);
        fault("fee 5;" + (char) 31, 61);
    }

    private static void signsAreSeven() {
        for (String sign : new String[] {"+", "-", "<", "="}) {
            fault("fee 1" + sign + "2;", 0);
            fault("fee 1" + sign + ";", 61);
            fault("fee " + sign + "1;", 41);
        }
        fault("fee (1);", 0);
        for (String sign : new String[] {">", "*", ",", ".", ":", "'", ")", "[", "]", "&", "!"}) {
            fault("fee 1" + sign + "2;", 51);
        }
        fault("fee 1<=2;", 61);
        fault("fee 1==2;", 61);
        fault("fee 1++2;", 61);
    }

    /** Each byte where a part may stand, behind one, and at the beginning. */
    private static void everyByteAlone() {
        for (int sign = 1; sign <= 255; sign++) {
            char c = (char) sign;
            boolean blank = c == ' ' || c == '\n';
            boolean digit = c >= '0' && c <= '9';
            fault("" + c, blank ? 0 : 1);
            fault("fee" + c + "7;", blank || digit ? 0 : c >= 'a' && c <= 'z' ? 1 : c == '(' ? 51 : 31);
            boolean joins = c == '+' || c == '-' || c == '<' || c == '=';
            fault("fee 7" + c, joins || blank || digit ? 61 : c == ';' ? 0 : 51);
        }
    }

    private static void faultsAtTheEnd() {
        fault("fee", 31);
        fault("fee ", 41);
        fault("fee  \n", 61);
        fault("fee 1", 51);
        fault("fee 1 when", 101);
        fault("fee 1 when 1", 121);
        fault("fee 1+", 61);
        fault("fee 1<", 61);
        fault("fee 1 and", 91);
        fault("fee (", 51);
        fault("fee (1", 61);
        fault("fee (1)", 71);
        fault("fee 1;fee", 91);
        fault(TWELVE, 0);
        fault(TWELVE.substring(0, 59), 591);
    }

    private static void faultsAtTheLastPlaces() {
        fault(" ".repeat(399) + "x", 3991);
        fault(" ".repeat(397) + "fee", 4001);
        fault(" ".repeat(395) + "fee 1", 4001);
        fault(" ".repeat(394) + "fee 1;", 0);
        fault(" ".repeat(393) + "fee 1;x", 3991);
        fault(" ".repeat(395) + "12345", 3951);
        fault(TWELVE + " ".repeat(337) + "fee", 3972);
        fault("fee " + " ".repeat(390) + "((((((", 3993);
        fault(" ".repeat(400), 0);
    }

    private static void rulesAreTwelve() {
        fault(TWELVE, 0);
        fault(TWELVE + "\n ", 0);
        fault(TWELVE + "fee 1;", 602);
        fault(TWELVE + "  fee 1;", 622);
        for (String word : new String[] {"fee", "back", "refund", "free"}) {
            fault(TWELVE + word, 602);
            fault(TWELVE + word + " ((((((", 602);
        }
        for (String word : new String[] {"when", "and", "left", "held", "used", "people", "season", "x", "fees",
            ";", "(", ")", "<", "=", "+", "-", "1", "12345", "*"}) {
            fault(TWELVE + word, 601);
        }
        TourRooms x = new TourRooms();
        x.town(1);
        check.due("twelve of all kinds", Check.read(x, 0, "fee 1;back 2;refund 3;free 4;".repeat(3)), 0);
        check.due("RULES", x.townOf(0, 8), 12);
        check.due("the 12th tells", worthOf("fee 1 when 0;".repeat(11) + "fee 9;"), 9);
    }

    private static void bracketsAreFive() {
        fault("fee(((((1)))));", 0);
        fault("fee((((((1))))));", 83);
        fault("fee ( ( ( ( ( ( 1", 143);
        fault("fee((((((", 83);
        fault("fee(((((", 81);
        fault("fee(((((1+(2", 103);
        fault("fee(((((1)+(2)))));", 0);
        fault("fee(((((1))+((2)))));", 0);
        fault("fee(((((1))+(((2", 143);
        fault("fee 1 when (((((1)))));", 0);
        fault("fee 1 when ((((((1", 163);
        fault("fee (((((1))))) when (((((1)))));", 0);
        fault("fee (((((1)))));fee (((((1)))));", 0);
        fault("fee (1)+(1)+(1)+(1)+(1)+(1)+(1)+(1);", 0);
        fault("fee (((((1)+(1)))))));", 191);
        check.due("five tell", worthOf("fee 9-(8-(7-(6-(5-(4-3)))));"), 9 - (8 - (7 - (6 - (5 - (4 - 3))))));
    }

    private static void theFirstFaultByItsPlace() {
        fault("x y z", 1);
        fault("fee x; ((((((", 41);
        fault("fee((((((1)x", 83);
        fault("fee(((((x((", 81);
        fault("fee 1 and; x", 91);
        fault("fee 1<; x", 61);
        fault("fee 1+; x", 61);
        fault("fee 1 when; x", 101);
        fault("fee (1; x", 61);
        fault("fee 12345 ((((((", 41);
        fault("fee 1;x" + TWELVE, 61);
        fault(TWELVE + "fee x", 602);
        fault(TWELVE.substring(0, 55) + "fee x;fee 1;", 591);
    }

    private static void ofOnePlaceTheLeast() {
        // a 6th bracket, or a 13th rule, that can't stand there at all
        fault("fee(((((1(", 91);
        fault("fee((((((", 83);
        fault(TWELVE + "(", 601);
        fault("fee 1((((((", 51);
        fault("((((((", 1);
    }

    private static void theGrammar() {
        fault("fee 1 when 2 when 3;", 131);
        fault("when 1;", 1);
        fault("fee when 1;", 41);
        fault("fee 1 when ;", 111);
        fault("fee 1=1=1;", 71);
        fault("fee 1<1=1;", 71);
        fault("fee 1=1+1<1;", 91);
        fault("fee (1=1)=1;", 0);
        fault("fee 1=(1=1);", 0);
        fault("fee 1=1 and 1=1;", 0);
        fault("fee 1 and 1 and 1;", 0);
        fault("fee 1 and and 1;", 101);
        fault("fee (1 and 1<2) when (1=1 and 2);", 0);
        fault("fee (1;", 61);
        fault("fee ();", 51);
        fault("fee (1 when 1);", 71);
        fault("fee 1);", 51);
        fault("fee 1 fee 2;", 61);
        fault("fee fee;", 41);
        fault("fee 1;;", 61);
        fault(";", 1);
        fault("fee left left;", 91);
        fault("fee 1 left;", 61);
        fault("fee (1)(1);", 71);
        fault("fee (1)1;", 71);
        fault("fee 1(1);", 51);
    }

    private static void worthOfNoSuchOnes() {
        for (int wrong : new int[] {-1, 3, 6, Edge.LEAST, Edge.MOST}) {
            edge.none("worth in TOWN " + wrong, BUSY, x -> x.worth(wrong, 0));
        }
        for (int wrong : new int[] {-1, 4, 5, Edge.LEAST, Edge.MOST}) {
            edge.none("worth of kind " + wrong, BUSY, x -> x.worth(0, wrong));
        }
        int[] due = {10, 25, 40, 1};
        for (int kind = 0; kind < 4; kind++) {
            int k = kind;
            edge.told("worth of kind " + k, BUSY, x -> x.worth(0, k), due[k]);
        }
        edge.told("worth in the last TOWN", BUSY, x -> x.worth(2, 3), 0);
        edge.told("worth where it is OVER", OVER, x -> x.worth(0, 1), 25);
    }

    private static int worthOf(String text) {
        TourRooms x = new TourRooms();
        x.town(1);
        check.due("read of '" + text + "'", Check.read(x, 0, text), 0);
        return x.worth(0, 0);
    }

    private static void worthIsNotBelowNoughtNorAboveAHundred() {
        check.due("1", worthOf("fee 5-4;"), 1);
        check.due("0", worthOf("fee 5-5;"), 0);
        check.due("-1", worthOf("fee 5-6;"), 0);
        check.due("-9999", worthOf("fee 0-9999;"), 0);
        check.due("99", worthOf("fee 99;"), 99);
        check.due("100", worthOf("fee 100;"), 100);
        check.due("101", worthOf("fee 101;"), 100);
        check.due("9999", worthOf("fee 9999;"), 100);
        check.due("the most that can be", worthOf("fee 9999" + "+9999".repeat(78) + ";"), 100);
        check.due("the least that can be", worthOf("fee 0-9999" + "-9999".repeat(77) + ";"), 0);
        check.due("within, it may be beyond", worthOf("fee 9999-9990-5+(0-500)+501;"), 5);
        for (int kind = 0; kind < 4; kind++) {
            TourRooms x = new TourRooms();
            x.town(1);
            Check.read(x, 0, "fee 101;back 101;refund 101;free 101;");
            check.due("above 100 of kind " + kind, x.worth(0, kind), 100);
            Check.read(x, 0, "fee 0-1;back 0-1;refund 0-1;free 0-1;");
            check.due("below 0 of kind " + kind, x.worth(0, kind), 0);
        }
    }

    private static void worthIsNoughtWithoutARule() {
        check.due("no RULE", worthOf(""), 0);
        check.due("none of the kind", worthOf("back 5;refund 6;free 7;"), 0);
        check.due("none whose when holds", worthOf("fee 5 when 0;fee 6 when 1<1;"), 0);
    }

    private static void worthByTheFirstRule() {
        check.due("the first", worthOf("fee 5;fee 6;"), 5);
        check.due("the first of the kind", worthOf("back 4;fee 5;fee 6;"), 5);
        check.due("the first that holds", worthOf("fee 5 when 0;fee 6;fee 7;"), 6);
        check.due("a when that holds ahead of none", worthOf("fee 5 when 1;fee 6;"), 5);
        check.due("none ahead of a when that holds", worthOf("fee 5;fee 6 when 1;"), 5);
        check.due("the first, though it is 0", worthOf("fee 0;fee 6;"), 0);
        check.due("the first, though it is below 0", worthOf("fee 0-3;fee 6;"), 0);
    }

    private static void whenIsNotNought() {
        check.due("when 1", worthOf("fee 5 when 1;"), 5);
        check.due("when 0", worthOf("fee 5 when 0;"), 0);
        check.due("when -1", worthOf("fee 5 when 0-1;"), 5);
        check.due("when 2", worthOf("fee 5 when 2;"), 5);
        check.due("when 101", worthOf("fee 5 when 101;"), 5);
        check.due("when 1-1", worthOf("fee 5 when 1-1;"), 0);
        check.due("when 0 and 1", worthOf("fee 5 when 0 and 1;"), 0);
        check.due("when 1 and 0", worthOf("fee 5 when 1 and 0;"), 0);
        check.due("when 2 < 1", worthOf("fee 5 when 2<1;"), 0);
        check.due("when 2 = 1", worthOf("fee 5 when 2=1;"), 0);
        check.due("when 2 and 3", worthOf("fee 5 when 2 and 3;"), 5);
    }

    private static void andLessEqual() {
        check.due("1 < 2", worthOf("fee 1<2;"), 1);
        check.due("2 < 2", worthOf("fee 2<2;"), 0);
        check.due("3 < 2", worthOf("fee 3<2;"), 0);
        check.due("-1 < 0", worthOf("fee 0-1<0;"), 1);
        check.due("2 = 2", worthOf("fee 2=2;"), 1);
        check.due("2 = 3", worthOf("fee 2=3;"), 0);
        check.due("3 = 2", worthOf("fee 3=2;"), 0);
        check.due("2 and 3", worthOf("fee 2 and 3;"), 1);
        check.due("0 and 3", worthOf("fee 0 and 3;"), 0);
        check.due("2 and 0", worthOf("fee 2 and 0;"), 0);
        check.due("-2 and 3", worthOf("fee 0-2 and 3;"), 1);
        check.due("0 and 0", worthOf("fee 0 and 0;"), 0);
        check.due("7 and what they tell", worthOf("fee 7+(0 and 1)+(2<1)+(2=1);"), 7);
        check.due("7 and three", worthOf("fee 7+(2 and 1)+(1<2)+(2=2);"), 10);
        check.due("7 alone", worthOf("fee 7;"), 7);
        check.due("from the left", worthOf("fee 9-3-2;"), 4);
    }

    private static void factsAtTheirEnds() {
        TourRooms x = new TourRooms();
        x.town(1);
        Check.read(x, 0, "fee left;back held;refund used;free people;");
        check.due("LEFT 30", x.worth(0, 0), 30);
        for (int kind = 1; kind < 4; kind++) {
            check.due("nothing of kind " + kind, x.worth(0, kind), 0);
        }
        x.day(30);
        check.due("LEFT 0", x.worth(0, 0), 0);
        x.day(1);
        check.due("LEFT -1", x.worth(0, 0), 0);
        Check.read(x, 0, "fee left+5;back held;refund used;free people;");
        check.due("LEFT -1 and 5", x.worth(0, 0), 4);
        for (int k = 0; k < 10; k++) {
            x.person(true, 0, false, 0, 0, 0);
            x.room(0, 1, false, 10);
            x.put(0, k, k);
        }
        for (int kind = 1; kind < 4; kind++) {
            check.due("ten of kind " + kind, x.worth(0, kind), 10);
        }
        Check.read(x, 0, "fee season+1;");
        x.season(3);
        check.due("SEASON 3", x.worth(0, 0), 4);
    }
}
