/** Promises 15 to 17: registrars, bookings, and bookings by order. */
public final class BookingsTest {
    private static final int NONE = WeddingRegister.NONE;

    public static void main(String[] args) {
        registrars();
        slots();
        barsInOrder();
        barsOfNotice();
        hallsAndRegistrars();
        hoursAheadAndBehind();
        tongues();
        inPlace();
        wedKeepsItsBooking();
        order();
        orderSlots();
        orderPassesBy();
        orderOnFeastsAndUnripe();
        orderAsksBoth();
        orderFillsHalls();
        orderWithoutPlace();
        Due.end("BookingsTest");
    }

    private static void registrars() {
        WeddingRegister x = new WeddingRegister();
        Due.is("tongues 32", NONE, x.registrar(32));
        for (int odd : Office.ODD_NUMBERS) {
            Due.is("odd tongues " + odd, NONE, x.registrar(odd));
        }
        int[] tongues = {0, 31, 1, 2, 4, 8};
        for (int i = 0; i < 6; i++) {
            Due.is("registrar " + i, i, x.registrar(tongues[i]));
        }
        Due.is("registrar 6", NONE, x.registrar(1));
    }

    private static void slots() {
        WeddingRegister x = Office.of(2);
        x.registrar(1);
        x.registrar(1);
        x.post(0, 1);
        int[] wrong = {0, 700, 799, 1800, 840, 890, 802, 809, 8000, 80, -800, -1, Integer.MIN_VALUE, Integer.MAX_VALUE};
        for (int slot : wrong) {
            Due.is("slot " + slot, NONE, x.book(0, 0, slot));
        }
        int[] right = {800, 801, 830, 831, 1700, 1731, 1221};
        for (int slot : right) {
            Due.is("slot " + slot, 0, x.book(0, 0, slot));
            Due.is("told " + slot, slot, x.told(0, 4));
        }
        x.go(2);
        Due.is("day ahead of NOW", NONE, x.book(0, 1, 800));
        Due.is("day 20001", NONE, x.book(0, 20001, 800));
        Due.is("day 20000", 0, x.book(0, 20000, 800));
        Due.is("day NOW", 0, x.book(0, 2, 800));
        Due.is("notice 1", NONE, x.book(1, 2, 800));
        for (int odd : Office.ODD_NUMBERS) {
            Due.is("odd notice " + odd, NONE, x.book(odd, 2, 800));
            Due.is("odd day " + odd, NONE, x.book(0, odd, 800));
        }
        Due.is("refused ones change nothing", 2, x.told(0, 3));
    }

    private static void barsInOrder() {
        WeddingRegister x = Office.of(2);
        x.person(20003, 0, NONE, NONE);
        x.registrar(1);
        x.registrar(1);
        x.post(0, 1);
        x.book(0, 4, 800);
        x.law(0, 4, 1, 9);
        x.feast(4);
        x.post(0, 2);
        x.withdraw(1);
        Due.is("1 first", 1, x.book(1, 4, 800));
        x.post(0, 2);
        Due.is("then 2", 2, x.book(2, 4, 800));
        Due.is("then 3", 3, x.book(2, 5, 800));
        x.law(0, 0, 1, 0);
        x.law(0, 4, 1, 0);
        Due.is("on another day", 0, x.book(0, 5, 800));
        Due.is("then 4", 4, x.book(2, 5, 800));
        Due.is("then 5", 5, x.book(2, 5, 810));
        Due.is("then 6", 6, x.book(2, 5, 910));
        Due.is("then 7", 7, x.book(2, 5, 900));
        Due.is("with another registrar", 7, x.book(2, 5, 811));
        Due.is("none was booked", NONE, x.told(2, 3));
    }

    private static void barsOfNotice() {
        WeddingRegister x = Office.of(2);
        x.law(0, 0, 1, 4);
        x.law(0, 8, 1, 8);
        x.registrar(1);
        x.post(0, 1);
        Due.is("not ripe yet", 3, x.book(0, 4, 800));
        Due.is("ripe", 0, x.book(0, 5, 800));
        Due.is("a feast", 2, x.book(0, 6, 800));
        Due.is("ripe still", 0, x.book(0, 7, 800));
        Due.is("not ripe by the law of the day", 3, x.book(0, 8, 800));
        Due.is("not ripe by the law of the day, hung 7", 3, x.book(0, 9, 800));
        Due.is("ripe again", 0, x.book(0, 10, 800));
        x.feast(11);
        Due.is("a feast that was told", 2, x.book(0, 11, 800));
        x.object(0);
        Due.is("an open objection", 3, x.book(0, 10, 800));
        Due.is("it keeps what it has", 10, x.told(0, 3));
        x.judge(0, true);
        Due.is("an upheld objection", 3, x.book(0, 10, 800));
        x.withdraw(0);
        Due.is("withdrawn", 1, x.book(0, 10, 800));
        x.law(0, 0, 30310001, 0);
        x.law(0, 8, 30310001, 0);
        x.post(1, 0);
        Due.is("what stands against the persons isn't asked", 0, x.book(1, 10, 800));
    }

    private static void hallsAndRegistrars() {
        WeddingRegister x = Office.of(6);
        x.registrar(1);
        x.registrar(1);
        x.post(0, 1);
        x.post(2, 3);
        x.post(4, 5);
        Due.is("first", 0, x.book(0, 0, 1010));
        Due.is("hall and registrar taken", 4, x.book(1, 0, 1010));
        Due.is("hall taken", 4, x.book(1, 0, 1011));
        Due.is("registrar taken", 5, x.book(1, 0, 1030));
        Due.is("another hall and registrar", 0, x.book(1, 0, 1001));
        Due.is("hall taken by the second", 4, x.book(2, 0, 1001));
        Due.is("registrar taken by the second", 5, x.book(2, 0, 1021));
        Due.is("on another day", 0, x.book(2, 1, 1010));
        x.go(1);
        Due.is("bookings of days that are over", 2, x.count(5) - 1);
    }

    private static void hoursAheadAndBehind() {
        WeddingRegister x = Office.of(6);
        x.registrar(1);
        x.registrar(1);
        x.post(0, 1);
        x.post(2, 3);
        x.post(4, 5);
        Due.is("at 12 in hall 1", 0, x.book(0, 0, 1210));
        Due.is("the hour behind in hall 2", 6, x.book(1, 0, 1320));
        Due.is("the hour ahead in hall 0", 6, x.book(1, 0, 1100));
        Due.is("two hours behind", 0, x.book(1, 0, 1420));
        Due.is("two hours ahead", 0, x.book(1, 0, 1000));
        Due.is("the hour behind in the same hall", 0, x.book(1, 0, 1310));
        Due.is("the hour ahead in the same hall", 0, x.book(1, 0, 1110));
        Due.is("another registrar", 0, x.book(1, 0, 1321));
        Due.is("another registrar's neighbour", 6, x.book(2, 0, 1411));
        Due.is("the hour behind on another day", 0, x.book(1, 1, 1320));
        Due.is("the last hour", 0, x.book(0, 0, 1710));
        Due.is("the first hour isn't behind it", 0, x.book(1, 0, 830));
    }

    private static void tongues() {
        WeddingRegister x = new WeddingRegister();
        x.person(10001, 0, NONE, NONE);
        x.person(20002, 0, NONE, NONE);
        x.person(1, 0, NONE, NONE);
        x.registrar(3);
        x.registrar(1);
        x.registrar(2);
        x.registrar(0);
        x.registrar(28);
        x.post(0, 1);
        x.post(0, 2);
        Due.is("speaks with both", 0, x.book(0, 0, 800));
        Due.is("speaks with the first", 7, x.book(0, 0, 801));
        Due.is("speaks with the second", 7, x.book(0, 0, 802));
        Due.is("speaks with nobody", 7, x.book(0, 0, 803));
        Due.is("speaks other tongues", 7, x.book(0, 0, 804));
        Due.is("a person without tongues", 7, x.book(1, 0, 900));
    }

    private static void inPlace() {
        WeddingRegister x = Office.of(4);
        x.registrar(1);
        x.post(0, 1);
        x.post(2, 3);
        Due.is("booked", 0, x.book(0, 0, 800));
        Due.is("the same again", 0, x.book(0, 0, 800));
        Due.is("its own registrar at its own hour", 0, x.book(0, 0, 810));
        Due.is("its own registrar the hour behind", 0, x.book(0, 0, 900));
        Due.is("one booking", 1, x.count(5));
        Due.is("what it had is free", 0, x.book(1, 0, 800));
        Due.is("taken by the other one", 4, x.book(0, 0, 800));
        Due.is("it keeps what it has", 900, x.told(0, 4));
    }

    private static void wedKeepsItsBooking() {
        WeddingRegister x = Office.withEntry(10001, 10002);
        x.person(10003, 0, NONE, NONE);
        x.person(10004, 0, NONE, NONE);
        x.post(2, 3);
        Due.is("its hall is taken", 4, x.book(1, 0, 800));
        Due.is("its registrar is taken", 5, x.book(1, 0, 810));
        Due.is("its registrar is elsewhere", 6, x.book(1, 0, 910));
        Due.is("one that was wed", 1, x.book(0, 1, 900));
        Due.is("by order", 1, x.order(0));
        Due.is("by order behind it", 900, x.told(1, 4));
    }

    private static void order() {
        WeddingRegister x = Office.of(6);
        x.registrar(1);
        x.registrar(1);
        x.post(0, 1);
        x.post(2, 3);
        x.post(4, 5);
        x.book(1, 0, 801);
        x.go(1);
        Due.is("a day that is over", NONE, x.order(0));
        Due.is("day 20001", NONE, x.order(20001));
        for (int odd : Office.ODD_NUMBERS) {
            Due.is("odd day " + odd, NONE, x.order(odd));
        }
        Due.is("order(20000)", 2, x.order(20000));
        Due.is("one with a booking that is over keeps it", 0, x.told(1, 3));
        Due.is("the first one's day", 20000, x.told(0, 3));
        Due.is("the first one's slot", 800, x.told(0, 4));
        Due.is("the third one's slot", 811, x.told(2, 4));
        Due.is("nobody is left", 0, x.order(20000));
    }

    private static void orderSlots() {
        WeddingRegister x = new WeddingRegister();
        int[] whos = {10001, 10001, 20001, 20001, 10001, 20001, 10001, 10001, 20001, 20001};
        for (int who : whos) {
            x.person(who, 0, NONE, NONE);
        }
        x.registrar(1);
        x.registrar(2);
        x.registrar(3);
        for (int i = 0; i < 10; i += 2) {
            x.post(i, i + 1);
        }
        Due.is("order(1)", 5, x.order(1));
        Due.is("tongue 0", 800, x.told(0, 4));
        Due.is("tongue 1 in the next hall", 811, x.told(1, 4));
        Due.is("both tongues in the third", 822, x.told(2, 4));
        Due.is("all are busy at 8", 900, x.told(3, 4));
        Due.is("where the registrar was", 911, x.told(4, 4));
    }

    private static void orderPassesBy() {
        WeddingRegister x = Office.withEntry(10001, 10002);
        x.person(10003, 0, NONE, NONE);
        x.part(0);
        x.post(0, 2);
        x.post(1, 2);
        x.post(0, 1);
        x.withdraw(2);
        x.book(3, 0, 1700);
        x.wed(3);
        Due.is("married ones and the withdrawn one", 0, x.order(1));
        x.part(0);
        x.law(0, 1, 1000001, 0);
        x.law(0, 3, 10001, 0);
        x.law(0, 365, 1, 0);
        Due.is("too young on that day", 0, x.order(2));
        Due.is("no papers on that day", 0, x.order(364));
        Due.is("nothing on that day", 1, x.order(365));
        Due.is("its day", 365, x.told(1, 3));
    }

    private static void orderOnFeastsAndUnripe() {
        WeddingRegister x = Office.of(4);
        x.registrar(1);
        x.law(0, 0, 1, 2);
        x.post(0, 1);
        x.post(2, 3);
        x.object(0);
        Due.is("not ripe", 0, x.order(2));
        Due.is("a feast", 0, x.order(6));
        Due.is("one has an objection", 1, x.order(3));
        Due.is("the other one", 3, x.told(1, 3));
        x.judge(0, false);
        Due.is("dismissed", 1, x.order(3));
        Due.is("an hour later", 900, x.told(0, 4));
    }

    private static void orderAsksBoth() {
        WeddingRegister x = new WeddingRegister();
        x.person(10001, 0, NONE, NONE);
        x.person(1010002, 0, NONE, NONE);
        x.registrar(1);
        x.post(0, 1);
        x.law(1, 0, 10001, 0);
        Due.is("the second one has no paper", 0, x.order(0));
        x.withdraw(0);
        x.post(1, 0);
        Due.is("the first one has no paper", 0, x.order(0));
        x.paper(1, 0, 0);
        Due.is("both have what is wanted", 1, x.order(0));
    }

    private static void orderFillsHalls() {
        WeddingRegister x = Office.of(12);
        for (int i = 0; i < 6; i++) {
            x.registrar(1);
            x.post(2 * i, 2 * i + 1);
        }
        Due.is("six notices and six registrars", 6, x.order(0));
        int[] wants = {800, 811, 822, 833, 900, 911};
        for (int i = 0; i < 6; i++) {
            Due.is("slot of " + i, wants[i], x.told(i, 4));
        }
    }

    private static void orderWithoutPlace() {
        WeddingRegister x = Office.of(24);
        Due.is("no registrar", 0, x.order(0));
        for (int i = 0; i < 12; i++) {
            x.post(2 * i, 2 * i + 1);
        }
        Due.is("no registrar for notices", 0, x.order(0));
        x.registrar(1);
        Due.is("ten hours of one registrar", 10, x.order(0));
        for (int i = 0; i < 10; i++) {
            Due.is("hour of " + i, 100 * (8 + i), x.told(i, 4));
        }
        Due.is("the eleventh", NONE, x.told(10, 4));
        Due.is("count", 10, x.count(5));
        x.registrar(1);
        Due.is("a second registrar", 2, x.order(0));
        Due.is("in the second hall", 811, x.told(10, 4));
        Due.is("an hour later", 911, x.told(11, 4));
    }
}
