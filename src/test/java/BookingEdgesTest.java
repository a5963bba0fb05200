/** Promises 15 to 18 and the terms of ==== 4: a test for each boundary that a sentence names. */
public final class BookingEdgesTest {
    private static final int NONE = WeddingRegister.NONE;
    private static final int LAST = 20000;

    public static void main(String[] args) {
        registrars();
        slots();
        bookingDays();
        bars();
        halls();
        neighbourHours();
        tongues();
        inPlaceOfWhatItHas();
        orders();
        weddings();
        Due.end("BookingEdgesTest");
    }

    // ---- 15: registrar ----

    private static void registrars() {
        registrarTongues();
        registrarsSix();
        registrarsRefusedDoNotCount();
    }

    private static void registrarTongues() {
        for (int tongues = 0; tongues <= 31; tongues++) {
            Due.is("15: tongues " + tongues, 0, new WeddingRegister().registrar(tongues));
        }
        for (int tongues : Office.noneOf(32)) {
            Due.is("15: tongues " + tongues, NONE, new WeddingRegister().registrar(tongues));
        }
        Due.is("15: a tongue that there isn't, with one there is", NONE, new WeddingRegister().registrar(33));
    }

    private static void registrarsSix() {
        WeddingRegister x = Office.withNotice(0);
        for (int i = 0; i < 6; i++) {
            Due.is("15: registrar " + i + " hasn't come", NONE, x.book(0, 0, 800 + i));
            Due.is("15: registrar " + i, i, x.registrar(1));
            Due.is("15: registrar " + i + " can be booked", 0, x.book(0, 0, 800 + i));
        }
        Due.is("15: a seventh", NONE, x.registrar(1));
        Due.is("15: a seventh without tongues", NONE, x.registrar(0));
        for (int i = 6; i <= 9; i++) {
            Due.is("15: there is no registrar " + i, NONE, x.book(0, 0, 800 + i));
        }
    }

    private static void registrarsRefusedDoNotCount() {
        WeddingRegister x = new WeddingRegister();
        for (int i = 0; i < 6; i++) {
            x.registrar(32);
            x.registrar(-1);
            Due.is("15: registrar " + i + " though others were refused", i, x.registrar(31));
        }
        Due.is("15: a seventh", NONE, x.registrar(31));
    }

    // ---- 16: book, its slot ----

    private static void slots() {
        allSlots();
        slotHours();
        slotHalls();
        slotRegistrars();
        slotsOdd();
        noticesOdd();
        noSuchGoesAheadOfBars();
    }

    private static void allSlots() {
        WeddingRegister x = Office.withNotice(6);
        for (int hour = 8; hour <= 17; hour++) {
            for (int place = 0; place < 24; place++) {
                int slot = hour * 100 + place / 6 * 10 + place % 6;
                Due.is("16: slot " + slot, 0, x.book(0, 0, slot));
                Due.is("16: told slot " + slot, slot, x.told(0, 4));
            }
        }
        Due.is("16: one booking", 1, x.count(5));
    }

    private static void slotHours() {
        WeddingRegister x = Office.withNotice(6);
        for (int hour : new int[] {0, 1, 7, 18, 19, 24, 80, 108}) {
            Due.is("16: hour " + hour, NONE, x.book(0, 0, hour * 100));
            Due.is("16: hour " + hour + ", the last hall and registrar", NONE, x.book(0, 0, hour * 100 + 35));
        }
        Due.is("16: the first hour", 0, x.book(0, 0, 800));
        Due.is("16: the last hour", 0, x.book(0, 0, 1700));
    }

    private static void slotHalls() {
        WeddingRegister x = Office.withNotice(6);
        for (int hall = 0; hall <= 9; hall++) {
            Due.is("16: hall " + hall, hall <= 3 ? 0 : NONE, x.book(0, 0, 800 + hall * 10));
            Due.is("16: hall " + hall + " at the last hour", hall <= 3 ? 0 : NONE, x.book(0, 0, 1705 + hall * 10));
        }
    }

    private static void slotRegistrars() {
        for (int came = 0; came <= 6; came++) {
            WeddingRegister x = Office.withNotice(came);
            for (int registrar = 0; registrar <= 9; registrar++) {
                Due.is("16: registrar " + registrar + " of " + came, registrar < came ? 0 : NONE, x.book(0, 0, 1230 + registrar));
            }
        }
    }

    private static void slotsOdd() {
        WeddingRegister x = Office.withNotice(6);
        for (int slot : new int[] {-1, -800, -1735, 0, 8, 80, 799, 1736, 1799, 1800, 8000, 80000, Integer.MIN_VALUE, Integer.MAX_VALUE}) {
            Due.is("16: slot " + slot, NONE, x.book(0, 0, slot));
        }
        Due.is("16: none was booked", NONE, x.told(0, 4));
    }

    private static void noticesOdd() {
        WeddingRegister x = Office.withNotice(1);
        for (int notice : Office.noneOf(1)) {
            Due.is("16: notice " + notice, NONE, x.book(notice, 0, 800));
        }
        WeddingRegister y = Office.of(2);
        y.registrar(1);
        Due.is("16: no notice came", NONE, y.book(0, 0, 800));
    }

    /** A slot or a day that there isn't answers NONE, though the notice is withdrawn or the day is a feast. */
    private static void noSuchGoesAheadOfBars() {
        WeddingRegister x = Office.withNotice(1);
        x.go(7);
        x.withdraw(0);
        Due.is("16: withdrawn", 1, x.book(0, 13, 800));
        Due.is("16: withdrawn, and no such hour", NONE, x.book(0, 13, 700));
        Due.is("16: withdrawn, and no such hall", NONE, x.book(0, 13, 840));
        Due.is("16: withdrawn, and no such registrar", NONE, x.book(0, 13, 801));
        Due.is("16: withdrawn, and a feast that is over", NONE, x.book(0, 6, 800));
        Due.is("16: withdrawn, and no such day", NONE, x.book(0, LAST + 1, 800));
    }

    // ---- 16: book, its day ----

    private static void bookingDays() {
        dayNow();
        dayLast();
        daysOdd();
    }

    private static void dayNow() {
        WeddingRegister x = Office.withNotice(1);
        Due.is("16: the first day, which is NOW", 0, x.book(0, 0, 800));
        x.go(3);
        Due.is("16: the day ahead of NOW", NONE, x.book(0, 2, 800));
        Due.is("16: it keeps what it has", 0, x.told(0, 3));
        Due.is("16: NOW", 0, x.book(0, 3, 800));
        Due.is("16: the day behind NOW", 0, x.book(0, 4, 800));
    }

    private static void dayLast() {
        WeddingRegister x = Office.withNotice(1);
        Due.is("16: the last day", 0, x.book(0, LAST, 800));
        Due.is("16: behind the last day", NONE, x.book(0, LAST + 1, 800));
        Office.wait(x, LAST);
        Due.is("16: the last day, which is NOW", 0, x.book(0, LAST, 900));
        Due.is("16: the day ahead of it", NONE, x.book(0, LAST - 1, 900));
        Due.is("16: it can be wed on the last day", 0, x.wed(0));
    }

    private static void daysOdd() {
        WeddingRegister x = Office.withNotice(1);
        for (int day : Office.noneOf(LAST + 1)) {
            Due.is("16: day " + day, NONE, x.book(0, day, 800));
        }
    }

    // ---- 16: book, what stands against it ----

    private static void bars() {
        firstBar();
        secondBar();
        thirdBarByDays();
        thirdBarByLawOfThatDay();
        thirdBarByObjections();
        barsOfPersonsAreNotAsked();
        lesserBarFirst();
    }

    private static void firstBar() {
        WeddingRegister x = Office.withEntry(10001, 10002);
        Due.is("16: it was wed", 1, x.book(0, 0, 900));
        Due.is("16: its own place", 1, x.book(0, 0, 800));
        x.part(0);
        Due.is("16: it was wed, though they parted", 1, x.book(0, 1, 900));
        x.post(0, 1);
        x.withdraw(1);
        Due.is("16: it is withdrawn", 1, x.book(1, 1, 900));
        Due.is("16: it has none", NONE, x.told(1, 3));
    }

    private static void secondBar() {
        WeddingRegister x = Office.withNotice(1);
        x.feast(4);
        int[] wants = {0, 0, 0, 0, 2, 0, 2, 0};
        for (int day = 0; day < wants.length; day++) {
            Due.is("16: day " + day, wants[day], x.book(0, day, 800));
        }
        Due.is("16: the last weekly feast", 2, x.book(0, 19998, 800));
        x.feast(LAST);
        Due.is("16: a feast on the last day", 2, x.book(0, LAST, 800));
        Due.is("16: a feast told after it was booked leaves it", 7, x.told(0, 3));
    }

    private static void thirdBarByDays() {
        WeddingRegister x = Office.withNotice(1);
        x.law(0, 0, 1, 4);
        Due.is("16: hung none", 3, x.book(0, 0, 800));
        Due.is("16: hung one fewer than asked", 3, x.book(0, 4, 800));
        Due.is("16: hung as many as asked", 0, x.book(0, 5, 800));
        x.feast(3);
        Due.is("16: a feast told since", 3, x.book(0, 5, 800));
        Due.is("16: it keeps what it has", 5, x.told(0, 3));
    }

    private static void thirdBarByLawOfThatDay() {
        WeddingRegister x = Office.withNotice(1);
        x.law(0, 3, 1, 3);
        Due.is("16: none is asked on the day ahead of the law", 0, x.book(0, 2, 800));
        Due.is("16: by the law of that day", 3, x.book(0, 3, 800));
        Due.is("16: a day behind it", 0, x.book(0, 4, 800));
        x.law(0, 7, 1, 30);
        Due.is("16: ripe once, and not by a harder law", 3, x.book(0, 7, 800));
    }

    private static void thirdBarByObjections() {
        WeddingRegister x = Office.withNotice(1);
        x.law(0, 0, 1, 1);
        Due.is("16: no objection", 0, x.book(0, 2, 800));
        x.object(0);
        Due.is("16: an open one", 3, x.book(0, 3, 800));
        x.judge(0, false);
        Due.is("16: a dismissed one", 0, x.book(0, 3, 800));
        x.object(0);
        x.judge(1, true);
        Due.is("16: an upheld one", 3, x.book(0, 2, 800));
        Due.is("16: an upheld one, on the last day", 3, x.book(0, LAST, 800));
        Due.is("16: it keeps what it has", 3, x.told(0, 3));
    }

    /** Married, too young, kin and papers: a booking asks for none of these. */
    private static void barsOfPersonsAreNotAsked() {
        WeddingRegister x = Office.of(1);
        x.person(10002, 0, 0, NONE);
        x.person(10003, 0, NONE, NONE);
        x.registrar(1);
        x.post(0, 1);
        x.post(0, 2);
        x.book(1, 0, 800);
        x.wed(1);
        Due.is("16: one is married", 1, x.against(0, 1, 0));
        Due.is("16: booked though one is married", 0, x.book(0, 0, 900));
        x.part(0);
        for (int what : new int[] {1000001, 100001, 10001}) {
            x.law(0, 0, what, 0);
            Due.yes("16: something stands against the persons", x.against(0, 1, 0) > 1);
            Due.is("16: booked though it does", 0, x.book(0, 0, 900));
        }
    }

    /** What stands against it all at once, and then one after the other no more. */
    private static void lesserBarFirst() {
        WeddingRegister x = Office.of(2);
        x.person(20003, 0, NONE, NONE);
        x.registrar(1);
        x.post(0, 1);
        x.post(0, 2);
        x.post(1, 2);
        x.book(0, 4, 900);
        x.withdraw(1);
        x.feast(4);
        x.law(0, 0, 1, 30);
        Due.is("16: 1 ahead of 2 to 7", 1, x.book(1, 4, 900));
        Due.is("16: 2 ahead of 3 to 7", 2, x.book(2, 4, 900));
        x.law(0, 0, 1, 0);
        x.book(0, 5, 900);
        x.law(0, 0, 1, 30);
        Due.is("16: 3 ahead of 4 to 7", 3, x.book(2, 5, 900));
        x.law(0, 0, 1, 0);
        Due.is("16: 4 ahead of 5 and 7", 4, x.book(2, 5, 900));
        Due.is("16: 5 ahead of 7", 5, x.book(2, 5, 910));
        Due.is("16: 6 ahead of 7", 6, x.book(2, 5, 1010));
        Due.is("16: 7 alone", 7, x.book(2, 5, 1000));
    }

    // ---- 16: book, halls and registrars ----

    private static WeddingRegister threeNotices(int registrars) {
        WeddingRegister x = Office.of(6);
        for (int i = 0; i < registrars; i++) {
            x.registrar(1);
        }
        for (int i = 0; i < 6; i += 2) {
            x.post(i, i + 1);
        }
        return x;
    }

    private static void halls() {
        hallTakenAtEachPlace();
        hallAheadOfRegistrar();
        registrarTaken();
        takenOnThatDayAlone();
        wedKeepsItsPlace();
        fourAndSixAtOnce();
    }

    private static void hallTakenAtEachPlace() {
        WeddingRegister x = threeNotices(2);
        for (int hour : new int[] {8, 9, 16, 17}) {
            for (int hall = 0; hall <= 3; hall++) {
                int slot = hour * 100 + hall * 10;
                x.book(0, 0, slot);
                Due.is("16: hall taken at " + slot, 4, x.book(1, 0, slot + 1));
                Due.is("16: registrar taken at " + slot, 5, x.book(1, 0, hour * 100 + (hall + 1) % 4 * 10));
                Due.is("16: another hall and registrar", 0, x.book(1, 0, hour * 100 + (hall + 1) % 4 * 10 + 1));
                x.book(1, 1, 800);
            }
        }
    }

    private static void hallAheadOfRegistrar() {
        WeddingRegister x = threeNotices(1);
        x.book(0, 0, 800);
        Due.is("16: hall and registrar are taken: the hall", 4, x.book(1, 0, 800));
    }

    private static void registrarTaken() {
        WeddingRegister x = threeNotices(6);
        x.book(0, 0, 805);
        for (int hall = 1; hall <= 3; hall++) {
            Due.is("16: the last registrar is taken", 5, x.book(1, 0, 805 + hall * 10));
            Due.is("16: the one ahead isn't", 0, x.book(1, 0, 804 + hall * 10));
        }
    }

    private static void takenOnThatDayAlone() {
        WeddingRegister x = threeNotices(1);
        x.book(0, 1, 800);
        Due.is("16: the same place on the day ahead", 0, x.book(1, 0, 800));
        Due.is("16: the same place on the day behind", 0, x.book(1, 2, 800));
        Due.is("16: the same place on that day", 4, x.book(1, 1, 800));
    }

    private static void wedKeepsItsPlace() {
        WeddingRegister x = threeNotices(1);
        x.book(0, 0, 900);
        x.wed(0);
        Due.is("16: the hall of one that was wed", 4, x.book(1, 0, 900));
        Due.is("16: its registrar", 5, x.book(1, 0, 910));
        Due.is("16: its registrar the hour ahead", 6, x.book(1, 0, 810));
        Due.is("16: its registrar the hour behind", 6, x.book(1, 0, 1010));
        x.part(0);
        Due.is("16: though they parted", 4, x.book(1, 0, 900));
    }

    /** The hall is taken by one notice, the registrar by another, at the same hour. */
    private static void fourAndSixAtOnce() {
        WeddingRegister x = threeNotices(2);
        x.book(0, 0, 800);
        x.book(1, 0, 811);
        Due.is("16: the hall of one, the registrar of the other", 4, x.book(2, 0, 801));
        Due.is("16: the other way", 4, x.book(2, 0, 810));
        Due.is("16: the registrar of one, a free hall", 5, x.book(2, 0, 820));
        x.book(1, 0, 900);
        Due.is("16: the registrar taken, and elsewhere in the hour behind: taken", 5, x.book(2, 0, 820));
        x.book(1, 0, 911);
        Due.is("16: the hall taken, the registrar elsewhere in the hour ahead: the hall", 4, x.book(2, 0, 910));
    }

    private static void neighbourHours() {
        hourAhead();
        hourBehind();
        bothNeighbours();
        hoursDoNotWrapAround();
        neighbourOnThatDayAlone();
    }

    private static void hourAhead() {
        WeddingRegister x = threeNotices(2);
        x.book(0, 0, 810);
        Due.is("16: the first hour, another hall then", 6, x.book(1, 0, 900));
        Due.is("16: the first hour, the same hall then", 0, x.book(1, 0, 910));
        Due.is("16: two hours later", 0, x.book(1, 0, 1000));
        Due.is("16: another registrar", 0, x.book(1, 0, 901));
        x.book(0, 0, 1610);
        Due.is("16: another hall at the last hour", 6, x.book(1, 0, 1720));
        Due.is("16: the same hall at the last hour", 0, x.book(1, 0, 1710));
    }

    private static void hourBehind() {
        WeddingRegister x = threeNotices(2);
        x.book(0, 0, 1710);
        Due.is("16: the last hour, another hall ahead of it", 6, x.book(1, 0, 1600));
        Due.is("16: the last hour, the same hall ahead of it", 0, x.book(1, 0, 1610));
        Due.is("16: two hours earlier", 0, x.book(1, 0, 1500));
        Due.is("16: another registrar", 0, x.book(1, 0, 1601));
        x.book(0, 0, 910);
        Due.is("16: another hall at the first hour", 6, x.book(1, 0, 820));
        Due.is("16: the same hall at the first hour", 0, x.book(1, 0, 810));
    }

    private static void bothNeighbours() {
        WeddingRegister x = threeNotices(1);
        x.book(0, 0, 800);
        x.book(1, 0, 1010);
        Due.is("16: the hall of the hour ahead", 6, x.book(2, 0, 900));
        Due.is("16: the hall of the hour behind", 6, x.book(2, 0, 910));
        Due.is("16: a third hall", 6, x.book(2, 0, 920));
        x.book(1, 0, 1000);
        Due.is("16: the hall of both", 0, x.book(2, 0, 900));
    }

    private static void hoursDoNotWrapAround() {
        WeddingRegister x = threeNotices(6);
        x.book(0, 0, 1715);
        Due.is("16: the first hour isn't behind the last", 0, x.book(1, 0, 825));
        x.book(0, 0, 800);
        Due.is("16: the last hour isn't ahead of the first", 0, x.book(1, 0, 1730));
        // What lies beside a row in a table of hours and registrars is no neighbour.
        x.book(0, 0, 805);
        Due.is("16: the first registrar an hour later", 0, x.book(1, 0, 910));
        x.book(1, 1, 800);
        x.book(0, 0, 900);
        Due.is("16: the last registrar an hour earlier", 0, x.book(1, 0, 815));
    }

    private static void neighbourOnThatDayAlone() {
        WeddingRegister x = threeNotices(1);
        x.book(0, 1, 810);
        Due.is("16: the last hour of the day ahead", 0, x.book(1, 0, 1720));
        Due.is("16: the hour behind on the day ahead", 0, x.book(1, 0, 920));
        Due.is("16: the hour behind on the day behind", 0, x.book(1, 2, 920));
        x.book(0, 1, 1710);
        Due.is("16: the first hour of the day behind", 0, x.book(1, 2, 820));
    }

    private static void tongues() {
        eachTongue();
        tonguesOfBoth();
    }

    private static void eachTongue() {
        for (int tongue = 0; tongue <= 4; tongue++) {
            WeddingRegister x = new WeddingRegister();
            x.person((1 << tongue) * 10000 + 1, 0, NONE, NONE);
            x.person((1 << tongue) * 10000 + 1, 0, NONE, NONE);
            x.registrar(1 << tongue);
            x.registrar(31 - (1 << tongue));
            x.registrar(31);
            x.registrar(0);
            x.post(0, 1);
            Due.is("16: tongue " + tongue + " alone", 0, x.book(0, 0, 800));
            Due.is("16: all but tongue " + tongue, 7, x.book(0, 0, 801));
            Due.is("16: all tongues", 0, x.book(0, 0, 802));
            Due.is("16: no tongue", 7, x.book(0, 0, 803));
        }
    }

    private static void tonguesOfBoth() {
        WeddingRegister x = new WeddingRegister();
        x.person(10001, 0, NONE, NONE);
        x.person(160001, 0, NONE, NONE);
        x.person(1, 0, NONE, NONE);
        x.registrar(17);
        x.registrar(1);
        x.registrar(16);
        x.registrar(31);
        x.post(0, 1);
        x.post(0, 2);
        x.post(2, 1);
        Due.is("16: one tongue with each", 0, x.book(0, 0, 800));
        Due.is("16: none with the second", 7, x.book(0, 0, 801));
        Due.is("16: none with the first", 7, x.book(0, 0, 802));
        Due.is("16: the second has no tongue", 7, x.book(1, 0, 903));
        Due.is("16: the first has no tongue", 7, x.book(2, 0, 903));
    }

    /** What it has doesn't count against it, and goes if the new one is booked. */
    private static void inPlaceOfWhatItHas() {
        WeddingRegister x = threeNotices(1);
        x.book(0, 0, 900);
        Due.is("16: the same", 0, x.book(0, 0, 900));
        Due.is("16: another hall at its own hour", 0, x.book(0, 0, 910));
        Due.is("16: another hall in the hour behind", 0, x.book(0, 0, 1000));
        Due.is("16: another hall in the hour ahead", 0, x.book(0, 0, 910));
        Due.is("16: another day", 0, x.book(0, 1, 910));
        Due.is("16: one at most", 1, x.count(5));
        Due.is("16: what it had is free", 0, x.book(1, 0, 910));
        Due.is("16: refused for another one's", 4, x.book(0, 0, 910));
        Due.is("16: its day stays", 1, x.told(0, 3));
        Due.is("16: its slot stays", 910, x.told(0, 4));
        Due.is("16: its place is taken still", 4, x.book(2, 1, 910));
    }

    // ---- 17: order ----

    private static void orders() {
        orderDays();
        orderOfNothing();
        orderOnFeasts();
        orderFirstPlace();
        orderFullDay();
        orderLastPlace();
        orderWithoutPlace();
        orderKeepsBookings();
        orderPassesBy();
        orderByRipeness();
    }

    private static void orderDays() {
        WeddingRegister x = Office.withNotice(1);
        x.go(2);
        for (int day : new int[] {-1, 0, 1, LAST + 1, Integer.MIN_VALUE, Integer.MAX_VALUE}) {
            Due.is("17: day " + day, NONE, x.order(day));
        }
        Due.is("17: none was booked", 0, x.count(5));
        Due.is("17: NOW", 1, x.order(2));
        WeddingRegister y = Office.withNotice(1);
        Due.is("17: the last day", 1, y.order(LAST));
        Due.is("17: booked on the last day", LAST, y.told(0, 3));
        Office.wait(y, LAST);
        Due.is("17: the last day, which is NOW", 0, y.order(LAST));
        Due.is("17: the day ahead of it", NONE, y.order(LAST - 1));
    }

    private static void orderOfNothing() {
        Due.is("17: a new office", 0, new WeddingRegister().order(0));
        WeddingRegister x = Office.withNotice(0);
        Due.is("17: no registrar", 0, x.order(0));
        x.registrar(2);
        Due.is("17: no registrar who speaks with them", 0, x.order(0));
        x.registrar(1);
        x.withdraw(0);
        Due.is("17: no notice but a withdrawn one", 0, x.order(0));
        Due.is("17: it has no booking", NONE, x.told(0, 3));
    }

    private static void orderOnFeasts() {
        WeddingRegister x = Office.withNotice(1);
        x.feast(4);
        Due.is("17: a weekly feast", 0, x.order(6));
        Due.is("17: a told one", 0, x.order(4));
        Due.is("17: none", 1, x.order(5));
    }

    /** The first hour goes ahead of the first hall, and that ahead of the first registrar. */
    private static void orderFirstPlace() {
        WeddingRegister x = new WeddingRegister();
        for (int i = 0; i < 4; i++) {
            x.person(20001, 0, NONE, NONE);
            x.person(20001, 0, NONE, NONE);
            x.post(2 * i, 2 * i + 1);
        }
        x.registrar(1);
        x.registrar(2);
        x.registrar(2);
        Due.is("17: four", 4, x.order(0));
        Due.is("17: the first who speaks with them", 801, x.told(0, 4));
        Due.is("17: the next hall, the other registrar", 812, x.told(1, 4));
        Due.is("17: the next hour", 901, x.told(2, 4));
        Due.is("17: where the other one was", 912, x.told(3, 4));
    }

    /** 41 notices and six registrars: ten hours of four halls are full with forty. */
    private static void orderFullDay() {
        WeddingRegister x = Office.of(40);
        for (int i = 0; i < 6; i++) {
            x.registrar(1);
        }
        for (int i = 0; i < 40; i++) {
            x.post(i, (i + 1) % 40);
        }
        x.post(0, 2);
        Due.is("17: forty", 40, x.order(0));
        for (int i = 0; i < 40; i++) {
            Due.is("17: slot of " + i, (8 + i / 4) * 100 + i % 4 * 11, x.told(i, 4));
        }
        Due.is("17: the last one has none", NONE, x.told(40, 4));
        for (int i = 0; i < 40; i++) {
            Due.is("17: each hall at each hour is taken", 4, x.book(40, 0, (8 + i / 4) * 100 + i % 4 * 10 + 5));
        }
        Due.is("17: no place any more", 0, x.order(0));
        Due.is("17: forty bookings", 40, x.count(5));
        Due.is("17: on the day behind", 1, x.order(1));
        Due.is("17: there is room", 800, x.told(40, 4));
        x.withdraw(39);
        Due.is("17: the last place is free", 0, x.book(40, 0, 1735));
    }

    private static void orderLastPlace() {
        WeddingRegister x = Office.of(40);
        for (int i = 0; i < 5; i++) {
            x.registrar(30);
        }
        x.registrar(1);
        for (int i = 0; i < 11; i++) {
            x.post(2 * i, 2 * i + 1);
        }
        Due.is("17: the last registrar alone speaks with them", 10, x.order(0));
        Due.is("17: at the first hour", 805, x.told(0, 4));
        Due.is("17: at the last hour", 1705, x.told(9, 4));
        Due.is("17: no hour more", NONE, x.told(10, 4));
    }

    private static void orderWithoutPlace() {
        WeddingRegister x = Office.of(22);
        x.registrar(1);
        for (int i = 0; i < 11; i++) {
            x.post(2 * i, 2 * i + 1);
        }
        x.book(10, 0, 1230);
        Due.is("17: one hour is taken, and one lies between two halls", 8, x.order(0));
        Due.is("17: two hours ahead of it", 1000, x.told(2, 4));
        Due.is("17: not in the hour between, and behind it in the same hall", 1330, x.told(3, 4));
        Due.is("17: the last hour", 1730, x.told(7, 4));
        Due.is("17: no place for one more", NONE, x.told(8, 4));
    }

    private static void orderKeepsBookings() {
        WeddingRegister x = Office.of(4);
        x.registrar(1);
        x.post(0, 1);
        x.post(2, 3);
        x.book(0, 0, 1700);
        Due.is("17: the one without a booking", 1, x.order(0));
        Due.is("17: the other one keeps its slot", 1700, x.told(0, 4));
        x.go(1);
        Due.is("17: bookings that are over are bookings", 0, x.order(1));
        Due.is("17: the day stays", 0, x.told(0, 3));
    }

    /** Married, too young, kin, papers on that day: passed by, and the next one has the first place. */
    private static void orderPassesBy() {
        for (int bar = 1; bar <= 4; bar++) {
            WeddingRegister x = new WeddingRegister();
            x.person(10001, -9000, NONE, NONE);
            x.person(10002, bar == 2 ? -364 : -9000, 0, NONE);
            x.person(1010003, 0, NONE, NONE);
            x.person(1010004, 0, NONE, NONE);
            x.registrar(1);
            x.post(0, 1);
            x.post(2, 3);
            if (bar == 1) {
                x.post(0, 2);
                x.book(2, 0, 1700);
                x.wed(2);
                x.post(3, 1);
            }
            x.law(0, 0, bar == 2 ? 1000001 : bar == 3 ? 100001 : bar == 4 ? 10001 : 1, 0);
            Due.is("17: bar " + bar, bar, x.against(0, 1, 0));
            Due.is("17: one is booked", 1, x.order(0));
            Due.is("17: not the first", NONE, x.told(0, 4));
            Due.is("17: the one behind it has the first place", 800, x.told(bar == 1 ? 3 : 1, 4));
            Due.is("17: on a day that bars no more", bar == 2 ? 1 : 0, x.order(1));
        }
    }

    private static void orderByRipeness() {
        WeddingRegister x = Office.withNotice(1);
        x.law(0, 0, 1, 2);
        x.object(0);
        Due.is("17: an open objection", 0, x.order(3));
        x.judge(0, false);
        Due.is("17: a day short", 0, x.order(2));
        Due.is("17: hung as many as asked", 1, x.order(3));
    }

    // ---- 18: wed ----

    private static void weddings() {
        wedNone();
        wedOnItsDayAlone();
        wedOnLastDay();
        wedBars();
        wedByRipeness();
        wedByObjection();
        wedTwice();
        wedOneOfTwo();
        wedWithdrawn();
    }

    private static void wedNone() {
        WeddingRegister x = Office.withNotice(1);
        x.book(0, 0, 800);
        for (int notice : Office.noneOf(1)) {
            Due.is("18: notice " + notice, NONE, x.wed(notice));
        }
        Due.is("18: no entry", 0, x.count(3));
        Due.is("18: in a new office", NONE, new WeddingRegister().wed(0));
    }

    private static void wedOnItsDayAlone() {
        WeddingRegister x = Office.withNotice(1);
        Due.is("18: no booking", NONE, x.wed(0));
        x.book(0, 2, 800);
        Due.is("18: two days ahead", NONE, x.wed(0));
        x.go(1);
        Due.is("18: the day ahead", NONE, x.wed(0));
        x.go(2);
        Due.is("18: the day behind", NONE, x.wed(0));
        Due.is("18: nobody is married", NONE, x.married(0));
        x.book(0, 3, 800);
        Due.is("18: its day", 0, x.wed(0));
        Due.is("18: the first is married", 1, x.married(0));
        Due.is("18: the second is married", 0, x.married(1));
    }

    private static void wedOnLastDay() {
        WeddingRegister x = Office.withNotice(1);
        x.book(0, LAST, 800);
        Office.wait(x, LAST);
        Due.is("18: the last day", 0, x.wed(0));
        Due.is("18: the entry's day", LAST, x.entry(0, 0, LAST));
    }

    /** Too young, kin and papers NOW, told after the booking. */
    private static void wedBars() {
        for (int what : new int[] {1000001, 100001, 10001}) {
            WeddingRegister x = Office.of(1);
            x.person(10002, 0, 0, NONE);
            x.registrar(1);
            x.post(0, 1);
            x.go(364);
            x.book(0, 364, 800);
            x.law(0, 364, what, 0);
            Due.is("18: law " + what, NONE, x.wed(0));
            x.law(0, 364, 1, 0);
            x.law(0, 365, what, 0);
            Due.is("18: law " + what + " of the day behind", 0, x.wed(0));
        }
    }

    private static void wedByRipeness() {
        WeddingRegister x = Office.withNotice(1);
        x.book(0, 3, 800);
        x.go(3);
        x.law(0, 0, 1, 3);
        Due.is("18: hung one fewer", NONE, x.wed(0));
        x.law(0, 3, 1, 2);
        Due.is("18: hung as many", 0, x.wed(0));
    }

    private static void wedByObjection() {
        for (int upheld = 0; upheld <= 1; upheld++) {
            WeddingRegister x = Office.withNotice(1);
            x.law(0, 0, 1, 1);
            x.book(0, 2, 800);
            x.object(0);
            x.go(2);
            Due.is("18: an open objection", NONE, x.wed(0));
            x.judge(0, upheld == 1);
            Due.is("18: judged " + upheld, upheld == 1 ? NONE : 0, x.wed(0));
        }
    }

    private static void wedTwice() {
        WeddingRegister x = Office.withEntry(10001, 10002);
        Due.is("18: it was wed", NONE, x.wed(0));
        x.part(0);
        Due.is("18: it was wed, though they parted", NONE, x.wed(0));
        Due.is("18: they aren't married", NONE, x.married(0));
        Due.is("18: one entry", 1, x.count(3));
    }

    private static void wedOneOfTwo() {
        WeddingRegister x = Office.of(3);
        x.registrar(1);
        x.post(0, 1);
        x.post(2, 0);
        x.post(1, 2);
        x.order(0);
        Due.is("18: the first", 0, x.wed(0));
        Due.is("18: the second of both is married", NONE, x.wed(1));
        Due.is("18: the first of both is married", NONE, x.wed(2));
        x.part(1);
        Due.is("18: parted", 1, x.wed(2));
        Due.is("18: the entry's number", 2, x.count(3));
    }

    private static void wedWithdrawn() {
        WeddingRegister x = Office.withNotice(1);
        x.book(0, 0, 800);
        x.withdraw(0);
        Due.is("18: it is withdrawn", NONE, x.wed(0));
        Due.is("18: nobody is married", NONE, x.married(0));
    }
}
