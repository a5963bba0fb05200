/** Promises 18 to 26: weddings, partings, entries with corrections, names after, and what can be asked. */
public final class EntriesTest {
    private static final int NONE = WeddingRegister.NONE;

    public static void main(String[] args) {
        wed();
        wedRefused();
        wedOnce();
        wedAsThingsAre();
        wedByKin();
        part();
        correct();
        correctAtMost();
        entryFields();
        entryAsKnown();
        names();
        namesByLawsOfTheDay();
        quarrels();
        married();
        counts();
        Due.end("EntriesTest");
    }

    private static void wed() {
        WeddingRegister x = Office.of(4);
        x.registrar(1);
        x.post(2, 3);
        x.post(0, 1);
        x.book(1, 2, 1230);
        x.book(0, 3, 900);
        Due.is("ahead of its day", NONE, x.wed(1));
        x.go(2);
        Due.is("on its day", 0, x.wed(1));
        Due.is("the other one's day is to come", NONE, x.wed(0));
        Due.is("married(0)", 1, x.married(0));
        Due.is("married(2)", NONE, x.married(2));
        Due.is("state", 1, x.told(1, 0));
        x.go(1);
        Due.is("the other one", 1, x.wed(0));
        Due.is("entries", 2, x.count(3));
        Due.is("wed(2)", NONE, x.wed(2));
        for (int odd : Office.ODD_NUMBERS) {
            Due.is("odd notice " + odd, NONE, x.wed(odd));
        }
    }

    private static void wedRefused() {
        WeddingRegister x = Office.of(4);
        x.registrar(1);
        x.post(0, 1);
        Due.is("no booking", NONE, x.wed(0));
        x.book(0, 0, 800);
        x.go(1);
        Due.is("its day is over", NONE, x.wed(0));
        x.book(0, 1, 800);
        x.law(0, 1, 1000001, 0);
        Due.is("too young", NONE, x.wed(0));
        x.law(0, 1, 10001, 0);
        Due.is("no paper", NONE, x.wed(0));
        x.paper(0, 0, 1);
        Due.is("one paper", NONE, x.wed(0));
        x.law(0, 1, 1, 1);
        Due.is("not ripe by a law told later", NONE, x.wed(0));
        x.law(0, 0, 1, 1);
        Due.is("an objection, as it would be ripe on the day behind", 0, x.object(0));
        x.law(0, 0, 1, 0);
        x.law(0, 1, 1, 0);
        Due.is("an open objection", NONE, x.wed(0));
        x.judge(0, false);
        Due.is("open still", 0, x.told(0, 0));
        Due.is("no entries", 0, x.count(3));
        x.post(0, 2);
        x.book(1, 1, 900);
        Due.is("nothing any more", 0, x.wed(0));
        Due.is("one is married", NONE, x.wed(1));
        x.part(1);
        Due.is("parted", 1, x.wed(1));
    }

    private static void wedOnce() {
        WeddingRegister x = Office.withEntry(10001, 10002);
        Due.is("married", NONE, x.wed(0));
        x.part(0);
        Due.is("parted, but it was wed", NONE, x.wed(0));
        Due.is("one entry", 1, x.count(3));
    }

    /** A wedding asks the persons and whether the notice is ripe: a feast told late doesn't matter. */
    private static void wedAsThingsAre() {
        WeddingRegister x = Office.of(4);
        x.registrar(1);
        x.post(0, 1);
        x.post(2, 3);
        x.law(0, 0, 1, 2);
        Due.is("booked", 0, x.book(0, 3, 800));
        Due.is("booked too", 0, x.book(1, 4, 800));
        x.go(3);
        x.feast(3);
        Due.is("on a feast told late", 0, x.wed(0));
        x.feast(2);
        x.go(1);
        Due.is("a feast told late leaves too few days", NONE, x.wed(1));
    }

    /** 3 and 4 have person 1 as a father and as a mother, which is no kin; 3 and 5 are cousins. */
    private static void wedByKin() {
        WeddingRegister x = Office.of(1);
        x.person(10002, 0, 0, NONE);
        x.person(10003, 0, 0, NONE);
        x.person(10004, 0, 1, 0);
        x.person(10005, 0, NONE, 1);
        x.person(10006, 0, NONE, 2);
        x.law(0, 0, 300001, 0);
        x.registrar(1);
        x.post(3, 5);
        x.post(3, 4);
        Due.is("cousins are passed by", 1, x.order(0));
        Due.is("the cousins have no booking", NONE, x.told(0, 3));
        Due.is("those who are no kin have one", 800, x.told(1, 4));
        Due.is("in another slot too", 0, x.book(1, 0, 900));
        Due.is("a booking doesn't ask for kin", 0, x.book(0, 0, 800));
        Due.is("a wedding does", NONE, x.wed(0));
        Due.is("no kin bars these", 0, x.wed(1));
        Due.is("they are married", 4, x.married(3));
    }

    private static void part() {
        WeddingRegister x = Office.withEntry(10001, 10002);
        x.person(10003, 0, NONE, NONE);
        Due.no("never married", x.part(2));
        Due.no("part(3)", x.part(3));
        for (int odd : Office.ODD_NUMBERS) {
            Due.no("odd person " + odd, x.part(odd));
        }
        Due.yes("part(1)", x.part(1));
        Due.is("married(0)", NONE, x.married(0));
        Due.is("married(1)", NONE, x.married(1));
        Due.no("part(0)", x.part(0));
        Due.no("part(1) again", x.part(1));
        Due.is("the entry stays", 1, x.entry(0, 1, 0));
        Due.is("nothing stands against them", 0, x.against(0, 1, 0));
    }

    private static void correct() {
        WeddingRegister x = Office.withEntry(10001, 10002);
        for (int field = 0; field <= 4; field++) {
            Due.yes("field " + field, x.correct(0, field, 100 + field));
            Due.is("entry(0, " + field + ", 0)", 100 + field, x.entry(0, field, 0));
        }
        Due.no("field 5", x.correct(0, 5, 0));
        Due.no("field 7", x.correct(0, 7, 0));
        Due.no("entry 1", x.correct(1, 0, 0));
        Due.yes("value 0", x.correct(0, 0, 0));
        Due.yes("value 20000", x.correct(0, 1, 20000));
        Due.no("value 20001", x.correct(0, 1, 20001));
        for (int odd : Office.ODD_NUMBERS) {
            Due.no("odd entry " + odd, x.correct(odd, 0, 0));
            Due.no("odd field " + odd, x.correct(0, odd, 0));
            Due.no("odd value " + odd, x.correct(0, 0, odd));
        }
        Due.is("field 0 is 0", 0, x.entry(0, 0, 0));
        Due.is("field 1 is 20000", 20000, x.entry(0, 1, 0));
        Due.is("the first person stays", 0, x.entry(0, 5, 0));
    }

    private static void correctAtMost() {
        WeddingRegister x = Office.withEntry(10001, 10002);
        for (int i = 0; i < 100; i++) {
            x.correct(0, 5, 0);
            Due.yes("correction " + i, x.correct(0, i % 5, i));
        }
        Due.no("correction 100", x.correct(0, 0, 7));
        Due.is("it changes nothing", 95, x.entry(0, 0, 0));
    }

    private static void entryFields() {
        WeddingRegister x = Office.of(5);
        x.registrar(0);
        x.registrar(1);
        x.post(0, 1);
        x.post(3, 2);
        x.go(5);
        x.book(1, 5, 1731);
        x.wed(1);
        int[] wants = {5, 4, 3, 3, 1, 3, 2, 1, NONE};
        for (int field = 0; field < wants.length; field++) {
            Due.is("entry(0, " + field + ", 5)", wants[field], x.entry(0, field, 5));
        }
        Due.is("ahead of the wedding", NONE, x.entry(0, 0, 4));
        Due.is("behind NOW", NONE, x.entry(0, 0, 6));
        Due.is("entry 1", NONE, x.entry(1, 0, 5));
        for (int odd : Office.ODD_NUMBERS) {
            Due.is("odd entry " + odd, NONE, x.entry(odd, 0, 5));
            Due.is("odd field " + odd, NONE, x.entry(0, odd, 5));
            Due.is("odd day " + odd, NONE, x.entry(0, 0, odd));
        }
    }

    private static void entryAsKnown() {
        WeddingRegister x = Office.of(4);
        x.registrar(1);
        x.post(0, 1);
        x.post(2, 3);
        x.go(1);
        x.order(1);
        x.wed(0);
        x.wed(1);
        x.go(1);
        x.correct(0, 0, 9);
        x.correct(1, 0, 8);
        x.correct(0, 2, 7);
        x.go(2);
        x.correct(0, 0, 0);
        x.correct(0, 0, 3);
        x.go(1);
        int[] wants = {NONE, 1, 9, 9, 3, 3, NONE};
        for (int day = 0; day < wants.length; day++) {
            Due.is("the day as known on " + day, wants[day], x.entry(0, 0, day));
        }
        Due.is("the day of the other one", 8, x.entry(1, 0, 5));
        Due.is("the second name", 7, x.entry(0, 2, 5));
        Due.is("the second name as known at first", 2, x.entry(0, 2, 1));
        Due.is("the second name of the other one", 4, x.entry(1, 2, 5));
        Due.is("the first name", 1, x.entry(0, 1, 5));
    }

    private static void namesAre(String when, WeddingRegister x, int... wants) {
        for (int i = 0; i < 4; i++) {
            Due.is(when + ": name(0, " + i / 2 + ", " + i % 2 + ")", wants[i], x.name(0, i / 2, i % 2));
        }
    }

    private static void names() {
        WeddingRegister x = Office.withEntry(19999, 1019998);
        namesAre("without laws", x, 9999, 9999, 9998, 9998);
        x.law(0, 0, 1001, 0);
        namesAre("the first one's by land 0", x, 9999, 9999, 9999, 9998);
        x.law(0, 0, 2001, 0);
        namesAre("both by land 0", x, 99999998, 9999, 99999998, 9998);
        x.law(1, 0, 1001, 0);
        namesAre("the first one's by land 1", x, 99999998, 9999, 99999998, 9999);
        x.correct(0, 1, 5);
        x.correct(0, 2, 6);
        namesAre("as the entry was written", x, 99999998, 9999, 99999998, 9999);
        x.law(0, 0, 1, 0);
        namesAre("their own by land 0", x, 9999, 9999, 9998, 9999);
        Due.is("entry 1", NONE, x.name(1, 0, 0));
        Due.is("which 2", NONE, x.name(0, 2, 0));
        Due.is("law 2", NONE, x.name(0, 0, 2));
        for (int odd : Office.ODD_NUMBERS) {
            Due.is("odd entry " + odd, NONE, x.name(odd, 0, 0));
            Due.is("odd which " + odd, NONE, x.name(0, odd, 0));
            Due.is("odd law " + odd, NONE, x.name(0, 0, odd));
        }
    }

    private static void namesByLawsOfTheDay() {
        WeddingRegister x = Office.of(2);
        x.registrar(1);
        x.post(0, 1);
        x.go(10);
        x.book(0, 10, 800);
        x.wed(0);
        x.go(10);
        x.correct(0, 0, 15);
        x.law(0, 11, 1001, 0);
        namesAre("a law of the day behind", x, 1, 1, 2, 2);
        x.law(0, 9, 1001, 0);
        namesAre("a law of the day ahead", x, 1, 1, 1, 1);
        x.law(0, 10, 2001, 0);
        namesAre("a law of the day", x, 10002, 10002, 10002, 10002);
    }

    private static void quarrels() {
        for (int one = 0; one <= 2; one++) {
            for (int other = 0; other <= 2; other++) {
                WeddingRegister x = Office.withEntry(10034, 1010007);
                x.law(0, 0, one * 1000 + 1, 0);
                x.law(1, 0, other * 1000 + 1, 0);
                Due.is("quarrel of " + one + " with " + other, one != other ? 1 : 0, x.quarrel(0) ? 1 : 0);
            }
        }
        WeddingRegister alike = Office.withEntry(10007, 1010007);
        alike.law(0, 0, 1001, 0);
        Due.no("one name already", alike.quarrel(0));
        alike.law(0, 0, 2001, 0);
        Due.yes("one name already, but told twice", alike.quarrel(0));
        WeddingRegister oneLand = Office.withEntry(10007, 10008);
        oneLand.law(0, 0, 2001, 0);
        Due.no("one land", oneLand.quarrel(0));
        Due.no("entry 1", oneLand.quarrel(1));
        for (int odd : Office.ODD_NUMBERS) {
            Due.no("odd entry " + odd, oneLand.quarrel(odd));
        }
    }

    private static void married() {
        WeddingRegister x = Office.withEntry(10001, 10002);
        x.person(10003, 0, NONE, NONE);
        Due.is("married(0)", 1, x.married(0));
        Due.is("married(1)", 0, x.married(1));
        Due.is("married(2)", NONE, x.married(2));
        Due.is("married(3)", NONE, x.married(3));
        for (int odd : Office.ODD_NUMBERS) {
            Due.is("odd person " + odd, NONE, x.married(odd));
        }
        x.part(0);
        x.post(2, 0);
        x.book(1, 0, 900);
        x.wed(1);
        Due.is("another marriage", 2, x.married(0));
        Due.is("the one who was left", NONE, x.married(1));
    }

    private static void counts() {
        WeddingRegister x = Office.of(7);
        x.registrar(1);
        x.law(0, 0, 1, 1);
        x.post(0, 1);
        x.post(2, 3);
        x.post(4, 5);
        x.object(2);
        x.object(2);
        x.go(2);
        x.order(2);
        Due.is("bookings", 2, x.count(5));
        x.wed(0);
        int[] wants = {2, 7, 3, 1, 2, 1, NONE};
        for (int what = 0; what < wants.length; what++) {
            Due.is("count(" + what + ")", wants[what], x.count(what));
        }
        x.judge(0, false);
        Due.is("objections that are judged count too", 2, x.count(4));
        x.go(1);
        Due.is("a booking that is over counts", 1, x.count(5));
        x.withdraw(1);
        Due.is("withdrawn", 0, x.count(5));
        Due.is("notices", 3, x.count(2));
        for (int odd : Office.ODD_NUMBERS) {
            Due.is("odd what " + odd, NONE, x.count(odd));
        }
    }
}
