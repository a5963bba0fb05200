/** Promises 19 to 23, 25 and 26, and the terms of ==== 5: a test for each boundary that a sentence names. */
public final class EntryEdgesTest {
    private static final int NONE = WeddingRegister.NONE;
    private static final int LAST = 20000;

    public static void main(String[] args) {
        partings();
        corrections();
        fields();
        knownOnADay();
        entriesSixty();
        names();
        quarrels();
        married();
        counts();
        Due.end("EntryEdgesTest");
    }

    // ---- 19: part ----

    private static void partings() {
        partNobody();
        partEither();
        partOthersStay();
    }

    private static void partNobody() {
        WeddingRegister x = Office.withEntry(10001, 10002);
        x.person(10003, 0, NONE, NONE);
        for (int person : Office.noneOf(3)) {
            Due.no("19: person " + person, x.part(person));
        }
        Due.no("19: one who isn't married", x.part(2));
        Due.is("19: the married ones stay so", 1, x.married(0));
        Due.no("19: in a new office", new WeddingRegister().part(0));
    }

    private static void partEither() {
        for (int who = 0; who <= 1; who++) {
            WeddingRegister x = Office.withEntry(10001, 10002);
            Due.yes("19: by " + who, x.part(who));
            Due.no("19: by " + who + " again", x.part(who));
            Due.no("19: by the other one again", x.part(1 - who));
            Due.is("19: the first isn't married", NONE, x.married(0));
            Due.is("19: the second isn't married", NONE, x.married(1));
            Due.is("19: the entry stays", 1, x.entry(0, 1, 0));
            Due.is("19: the entry counts", 1, x.count(3));
        }
    }

    private static void partOthersStay() {
        WeddingRegister x = Office.of(4);
        x.registrar(1);
        x.post(0, 3);
        x.post(1, 2);
        x.order(0);
        x.wed(0);
        x.wed(1);
        Due.yes("19: the last person", x.part(3));
        Due.is("19: the others are married still", 2, x.married(1));
        Due.is("19: the others are married still, the second", 1, x.married(2));
        Due.is("19: the first is free to post", 2, x.post(0, 3));
    }

    // ---- 20: correct ----

    private static void corrections() {
        correctNone();
        correctFields();
        correctValues();
        correctHundred();
        correctionsRefusedDoNotCount();
    }

    private static void correctNone() {
        WeddingRegister x = Office.withEntry(10001, 10002);
        for (int entry : Office.noneOf(1)) {
            Due.no("20: entry " + entry, x.correct(entry, 0, 0));
        }
        Due.no("20: in a new office", new WeddingRegister().correct(0, 0, 0));
    }

    private static void correctFields() {
        WeddingRegister x = Office.withEntry(10001, 10002);
        int[] written = {0, 1, 2, 0, 0, 0, 1, 0};
        for (int field = 0; field <= 7; field++) {
            Due.is("20: field " + field, field <= 4 ? 1 : 0, x.correct(0, field, 500 + field) ? 1 : 0);
            Due.is("20: as known", field <= 4 ? 500 + field : written[field], x.entry(0, field, 0));
        }
        for (int field : Office.noneOf(8)) {
            Due.no("20: field " + field, x.correct(0, field, 0));
        }
    }

    private static void correctValues() {
        WeddingRegister x = Office.withEntry(10001, 10002);
        for (int field = 0; field <= 4; field++) {
            Due.yes("20: the greatest value of field " + field, x.correct(0, field, 20000));
            for (int value : Office.noneOf(20001)) {
                Due.no("20: value " + value + " of field " + field, x.correct(0, field, value));
                Due.is("20: it changes nothing", 20000, x.entry(0, field, 0));
            }
            Due.yes("20: the least value of field " + field, x.correct(0, field, 0));
            Due.is("20: it is known", 0, x.entry(0, field, 0));
        }
    }

    private static void correctHundred() {
        WeddingRegister x = Office.of(4);
        x.registrar(1);
        x.post(0, 1);
        x.post(2, 3);
        x.order(0);
        x.wed(0);
        x.wed(1);
        for (int i = 0; i < 99; i++) {
            Due.yes("20: correction " + i, x.correct(0, 1, 100 + i));
        }
        Due.yes("20: the hundredth, of the other entry", x.correct(1, 4, 7));
        for (int field = 0; field <= 4; field++) {
            Due.no("20: one more of the first entry", x.correct(0, field, 9));
            Due.no("20: one more of the second entry", x.correct(1, field, 9));
        }
        Due.is("20: the ninety-ninth counts", 198, x.entry(0, 1, 0));
        Due.is("20: the hundredth counts", 7, x.entry(1, 4, 0));
        x.go(1);
        Due.no("20: nor on another day", x.correct(0, 1, 9));
    }

    private static void correctionsRefusedDoNotCount() {
        WeddingRegister x = Office.withEntry(10001, 10002);
        for (int i = 0; i < 110; i++) {
            x.correct(1, 0, 0);
            x.correct(0, 5, 0);
            x.correct(0, 0, 20001);
        }
        for (int i = 0; i < 100; i++) {
            Due.yes("20: though others were refused", x.correct(0, i % 5, i));
        }
        Due.no("20: the hundred and first", x.correct(0, 0, 0));
    }

    // ---- 21: entry ----

    private static void fields() {
        entryNone();
        entryFields();
        entryWrittenAtLimits();
    }

    private static void entryNone() {
        WeddingRegister x = Office.withEntry(10001, 10002);
        for (int entry : Office.noneOf(1)) {
            for (int field = 0; field <= 7; field++) {
                Due.is("21: entry " + entry, NONE, x.entry(entry, field, 0));
            }
        }
        Due.is("21: in a new office", NONE, new WeddingRegister().entry(0, 0, 0));
    }

    private static void entryFields() {
        WeddingRegister x = Office.withEntry(10001, 10002);
        int[] wants = {0, 1, 2, 0, 0, 0, 1, 0};
        for (int field = 0; field <= 7; field++) {
            Due.is("21: field " + field, wants[field], x.entry(0, field, 0));
        }
        for (int field : Office.noneOf(8)) {
            Due.is("21: field " + field, NONE, x.entry(0, field, 0));
        }
    }

    /** The last hall, registrar, day, persons, names and the last notice of those that came. */
    private static void entryWrittenAtLimits() {
        WeddingRegister x = Office.of(38);
        x.person(319999, 0, NONE, NONE);
        x.person(319998, 0, NONE, NONE);
        for (int i = 0; i < 6; i++) {
            x.registrar(31);
        }
        for (int i = 0; i < 59; i++) {
            x.post(i < 37 ? i : i - 37, i < 37 ? i + 1 : i - 35);
        }
        Due.is("21: the last notice", 59, x.post(39, 38));
        Office.wait(x, LAST);
        Due.is("21: the last place", 0, x.book(59, LAST, 1735));
        Due.is("21: the first entry", 0, x.wed(59));
        int[] wants = {LAST, 9998, 9999, 3, 5, 39, 38, 59};
        for (int field = 0; field <= 7; field++) {
            Due.is("21: field " + field, wants[field], x.entry(0, field, LAST));
        }
        Due.is("21: the day ahead of the last", NONE, x.entry(0, 0, LAST - 1));
        Due.is("21: the day behind the last", NONE, x.entry(0, 0, LAST + 1));
    }

    // ---- 21 and ==== 5: as known on a day ----

    private static void knownOnADay() {
        entryDays();
        knownFromItsDayOn();
        knownOnTheDayOfTheWedding();
        latestOfOneDay();
        knownOfEachField();
        correctedDayMovesNothing();
    }

    /** Wed on day 3, NOW is 5. */
    private static WeddingRegister wedOnThree() {
        WeddingRegister x = Office.withNotice(1);
        x.go(3);
        x.book(0, 3, 910);
        x.wed(0);
        x.go(2);
        return x;
    }

    private static void entryDays() {
        WeddingRegister x = wedOnThree();
        for (int field = 0; field <= 7; field++) {
            Due.is("21: the day ahead of the wedding", NONE, x.entry(0, field, 2));
            Due.is("21: the day behind NOW", NONE, x.entry(0, field, 6));
        }
        for (int day = 3; day <= 5; day++) {
            Due.is("21: day " + day, 3, x.entry(0, 0, day));
        }
        for (int day : new int[] {0, -1, LAST, LAST + 1, Integer.MIN_VALUE, Integer.MAX_VALUE}) {
            Due.is("21: day " + day, NONE, x.entry(0, 0, day));
        }
    }

    private static void knownFromItsDayOn() {
        WeddingRegister x = wedOnThree();
        x.correct(0, 1, 77);
        x.go(1);
        Due.is("21: on the day ahead of the correction", 1, x.entry(0, 1, 4));
        Due.is("21: on its day", 77, x.entry(0, 1, 5));
        Due.is("21: on the day behind it", 77, x.entry(0, 1, 6));
        x.correct(0, 1, 78);
        Due.is("21: as written", 1, x.entry(0, 1, 3));
        Due.is("21: the first one counts till the second", 77, x.entry(0, 1, 5));
        Due.is("21: the second one counts", 78, x.entry(0, 1, 6));
    }

    private static void knownOnTheDayOfTheWedding() {
        WeddingRegister x = Office.withEntry(10001, 10002);
        x.correct(0, 3, 2);
        Due.is("21: corrected on the day of the wedding", 2, x.entry(0, 3, 0));
    }

    private static void latestOfOneDay() {
        WeddingRegister x = wedOnThree();
        x.correct(0, 2, 9);
        x.correct(0, 2, 8);
        x.correct(0, 2, 10);
        Due.is("21: of one day the latest told", 10, x.entry(0, 2, 5));
        Due.is("21: as written on the day ahead", 2, x.entry(0, 2, 4));
        x.correct(0, 2, 2);
        Due.is("21: back to what was written", 2, x.entry(0, 2, 5));
    }

    private static void knownOfEachField() {
        int[] written = {3, 1, 2, 1, 0, 0, 1, 0};
        for (int field = 0; field <= 4; field++) {
            WeddingRegister x = wedOnThree();
            x.correct(0, field, 600);
            for (int asked = 0; asked <= 7; asked++) {
                Due.is("21: field " + asked + ", corrected " + field, asked == field ? 600 : written[asked], x.entry(0, asked, 5));
                Due.is("21: as written", written[asked], x.entry(0, asked, 4));
            }
        }
    }

    /** The days on which an entry is known begin with its wedding, whatever a correction tells of its day. */
    private static void correctedDayMovesNothing() {
        WeddingRegister x = wedOnThree();
        x.correct(0, 0, 0);
        Due.is("21: the day as known", 0, x.entry(0, 0, 5));
        Due.is("21: ahead of the wedding", NONE, x.entry(0, 0, 2));
        x.correct(0, 0, 5);
        Due.is("21: the day as known again", 5, x.entry(0, 0, 5));
        Due.is("21: on the day of the wedding", 3, x.entry(0, 0, 3));
    }

    // ---- ==== 5: at most sixty entries ----

    /** Two who wed and part sixty times, on three days. */
    private static void entriesSixty() {
        WeddingRegister x = Office.of(2);
        x.registrar(1);
        x.registrar(1);
        for (int i = 0; i < 60; i++) {
            int slot = (8 + i % 10) * 100 + i / 10 % 2 * 11;
            x.post(0, 1);
            Due.is("entries: booked", 0, x.book(i, x.count(0), slot));
            Due.is("entries: number", i, x.wed(i));
            x.part(i % 2);
            if (i % 20 == 19) {
                x.go(1);
            }
        }
        Due.is("entries: sixty", 60, x.count(3));
        Due.is("entries: no notice more", NONE, x.post(0, 1));
        Due.is("entries: the last one's day", 2, x.entry(59, 0, 2));
        Due.is("entries: the last one's notice", 59, x.entry(59, 7, 2));
        Due.is("entries: there is no one more", NONE, x.entry(60, 0, 2));
        Due.yes("entries: the last one can be corrected", x.correct(59, 0, 7));
        Due.no("entries: none behind it can", x.correct(60, 0, 7));
        Due.is("entries: the last one's correction", 7, x.entry(59, 0, 3));
        Due.is("entries: the one ahead has none", 2, x.entry(58, 0, 3));
        Due.is("entries: the first one has none", 0, x.entry(0, 0, 3));
        Due.is("entries: a name of the last", 2, x.name(59, 1, 0));
        Due.is("entries: no name behind it", NONE, x.name(60, 1, 0));
    }

    // ---- 22: name ----

    private static void names() {
        nameNone();
        namesByEachLaw();
        namesBesideAllElse();
        namesAtLimits();
        namesAsWritten();
        namesOfTheDayOfTheWedding();
    }

    private static void nameNone() {
        WeddingRegister x = Office.withEntry(10001, 10002);
        for (int entry : Office.noneOf(1)) {
            Due.is("22: entry " + entry, NONE, x.name(entry, 0, 0));
        }
        for (int number : Office.noneOf(2)) {
            Due.is("22: which " + number, NONE, x.name(0, number, 0));
            Due.is("22: law " + number, NONE, x.name(0, 0, number));
            Due.is("22: which and law " + number, NONE, x.name(0, number, number));
        }
        Due.is("22: in a new office", NONE, new WeddingRegister().name(0, 0, 0));
    }

    private static int nameBy(int names, int which, int first, int second) {
        return names == 0 ? (which == 0 ? first : second) : names == 1 ? first : first * 10000 + second;
    }

    private static void namesByEachLaw() {
        for (int pair = 0; pair < 9; pair++) {
            WeddingRegister x = Office.withEntry(10034, 5010007);
            x.law(0, 0, pair / 3 * 1000 + 1, 0);
            x.law(5, 0, pair % 3 * 1000 + 1, 0);
            for (int which = 0; which <= 1; which++) {
                Due.is("22: by the first one's land", nameBy(pair / 3, which, 34, 7), x.name(0, which, 0));
                Due.is("22: by the second one's land", nameBy(pair % 3, which, 34, 7), x.name(0, which, 1));
            }
        }
    }

    /** NAMES is told the same whatever else the law asks, up to its greatest. */
    private static void namesBesideAllElse() {
        WeddingRegister x = Office.withEntry(10034, 10007);
        int[] rests = {1, 400, 70001, 300001, 370400, 18000001, 30000001, 30370400};
        for (int i = 0; i < 3 * rests.length; i++) {
            int names = i % 3;
            x.law(0, 0, rests[i / 3] + names * 1000, 30);
            Due.is("22: names " + names + " beside " + rests[i / 3], nameBy(names, 1, 34, 7), x.name(0, 1, 0));
        }
    }

    private static void namesAtLimits() {
        int[][] pairs = {{1, 1}, {1, 9999}, {9999, 1}, {9999, 9999}};
        for (int[] pair : pairs) {
            WeddingRegister x = Office.withEntry(10000 + pair[0], 10000 + pair[1]);
            Due.is("22: without a law, the first", pair[0], x.name(0, 0, 0));
            Due.is("22: without a law, the second", pair[1], x.name(0, 1, 1));
            x.law(0, 0, 2001, 0);
            Due.is("22: both of one", pair[0] * 10000 + pair[1], x.name(0, 0, 0));
            Due.is("22: both of the other one", pair[0] * 10000 + pair[1], x.name(0, 1, 1));
        }
    }

    private static void namesAsWritten() {
        WeddingRegister x = Office.withEntry(10034, 1010007);
        x.correct(0, 1, 20000);
        x.correct(0, 2, 0);
        for (int names = 0; names <= 2; names++) {
            x.law(0, 0, names * 1000 + 1, 0);
            Due.is("22: as the entry was written, names " + names, nameBy(names, 0, 34, 7), x.name(0, 0, 0));
            Due.is("22: of the second, names " + names, nameBy(names, 1, 34, 7), x.name(0, 1, 0));
        }
    }

    private static void namesOfTheDayOfTheWedding() {
        WeddingRegister x = wedOnThree();
        x.law(0, 4, 1001, 0);
        Due.is("22: a law from the day behind on", 2, x.name(0, 1, 0));
        x.correct(0, 0, 4);
        Due.is("22: though the day was corrected", 2, x.name(0, 1, 0));
        x.law(0, 2, 2001, 0);
        Due.is("22: a law from the day ahead on", 10002, x.name(0, 1, 0));
        x.law(0, 3, 1001, 0);
        Due.is("22: a law from that day on", 1, x.name(0, 1, 0));
        x.law(0, 3, 1, 0);
        Due.is("22: the latest told of that day", 2, x.name(0, 1, 0));
    }

    // ---- 23: quarrel ----

    private static void quarrels() {
        quarrelNone();
        quarrelOfEachPair();
        quarrelOfLikeNames();
        quarrelOfOneLand();
    }

    private static void quarrelNone() {
        WeddingRegister x = Office.withEntry(10034, 1010007);
        x.law(0, 0, 2001, 0);
        Due.yes("23: the one there is", x.quarrel(0));
        for (int entry : Office.noneOf(1)) {
            Due.no("23: entry " + entry, x.quarrel(entry));
        }
        Due.no("23: in a new office", new WeddingRegister().quarrel(0));
    }

    private static void quarrelOfEachPair() {
        for (int pair = 0; pair < 9; pair++) {
            WeddingRegister x = Office.withEntry(10034, 1010007);
            x.law(0, 0, pair / 3 * 1000 + 1, 0);
            x.law(1, 0, pair % 3 * 1000 + 1, 0);
            Due.is("23: names " + pair / 3 + " and " + pair % 3, pair / 3 != pair % 3 ? 1 : 0, x.quarrel(0) ? 1 : 0);
        }
    }

    /** With like names 0 and 1 tell the same of both. */
    private static void quarrelOfLikeNames() {
        for (int pair = 0; pair < 9; pair++) {
            WeddingRegister x = Office.withEntry(19999, 1019999);
            x.law(0, 0, pair / 3 * 1000 + 1, 0);
            x.law(1, 0, pair % 3 * 1000 + 1, 0);
            boolean one = pair / 3 == 2;
            boolean other = pair % 3 == 2;
            Due.is("23: like names, " + pair / 3 + " and " + pair % 3, one != other ? 1 : 0, x.quarrel(0) ? 1 : 0);
        }
    }

    private static void quarrelOfOneLand() {
        for (int names = 0; names <= 2; names++) {
            WeddingRegister x = Office.withEntry(10034, 10007);
            x.law(0, 0, names * 1000 + 1, 0);
            x.law(1, 0, (names + 1) % 3 * 1000 + 1, 0);
            Due.no("23: both of one land", x.quarrel(0));
        }
    }

    // ---- 25: married ----

    private static void married() {
        WeddingRegister x = Office.withEntry(10001, 10002);
        x.person(10003, 0, NONE, NONE);
        for (int person : Office.noneOf(3)) {
            Due.is("25: person " + person, NONE, x.married(person));
        }
        Due.is("25: to nobody", NONE, x.married(2));
        Due.is("25: the first", 1, x.married(0));
        Due.is("25: the second, to number 0", 0, x.married(1));
        Due.is("25: in a new office", NONE, new WeddingRegister().married(0));
        WeddingRegister y = Office.of(40);
        y.registrar(1);
        y.post(39, 38);
        y.book(0, 0, 800);
        y.wed(0);
        Due.is("25: the last of forty", 38, y.married(39));
        Due.is("25: to the last of forty", 39, y.married(38));
    }

    // ---- 26: count ----

    private static void counts() {
        countOthers();
        countAtLimits();
        countOfBookings();
    }

    private static void countOthers() {
        WeddingRegister x = Office.withEntry(10001, 10002);
        for (int what : Office.noneOf(6)) {
            Due.is("26: what " + what, NONE, x.count(what));
        }
        Due.is("26: the first", 0, x.count(0));
        Due.is("26: the last", 0, x.count(5));
    }

    private static void countAtLimits() {
        WeddingRegister x = Office.of(41);
        x.law(0, 0, 1, 30);
        for (int i = 0; i < 61; i++) {
            x.post(i % 40, (i + 1 + i / 40) % 40);
            x.object(0);
        }
        Office.wait(x, LAST + 400);
        int[] wants = {LAST, 40, 60, 0, 60, 0};
        for (int what = 0; what <= 5; what++) {
            Due.is("26: count " + what + " when full", wants[what], x.count(what));
        }
    }

    /** Sixty open notices, all booked: forty on the first day, twenty on the day behind. */
    private static void countOfBookings() {
        WeddingRegister x = Office.of(40);
        for (int i = 0; i < 4; i++) {
            x.registrar(1);
        }
        for (int i = 0; i < 60; i++) {
            x.post(i % 40, (i + 1 + i / 40) % 40);
        }
        Due.is("26: no bookings", 0, x.count(5));
        Due.is("26: forty at first", 40, x.order(0));
        Due.is("26: twenty behind", 20, x.order(1));
        Due.is("26: sixty bookings", 60, x.count(5));
        x.wed(0);
        Due.is("26: one was wed", 59, x.count(5));
        x.withdraw(59);
        Due.is("26: one is withdrawn", 58, x.count(5));
        x.go(1);
        Due.is("26: those of days that are over are there still", 58, x.count(5));
        Due.is("26: entries", 1, x.count(3));
        x.part(0);
        Due.is("26: entries of those who parted too", 1, x.count(3));
    }
}
