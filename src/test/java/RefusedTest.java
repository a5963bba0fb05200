import java.util.ArrayList;
import java.util.List;

/**
 * "What is refused changes nothing": two offices with the same past, one of which is asked for something that is
 * refused; then both are asked the same, and must answer alike. What is asked then fills all that has a limit,
 * so that a refused call that was counted somewhere is seen too.
 */
public final class RefusedTest {
    private static final int NONE = WeddingRegister.NONE;
    private static final int LAST = 20000;
    private static final int MOST_CALLS = 512;
    private static final int PROBES = 4;

    /** A call with an int for its answer; a boolean counts 1 or 0. */
    private interface Call {
        int on(WeddingRegister x);
    }

    /** Leaves room for the refused call, and asks no more then: nothing is promised of an object behind its 512th call. */
    private static final class Asked {
        final WeddingRegister office = new WeddingRegister();
        final List<Integer> answers = new ArrayList<>();

        void ask(Call call) {
            if (answers.size() < MOST_CALLS - 1) {
                answers.add(call.on(office));
            }
        }
    }

    public static void main(String[] args) {
        sharedPast();
        laws();
        persons();
        papers();
        feasts();
        days();
        posts();
        withdrawals();
        objections();
        registrars();
        bookings();
        bookingsBarred();
        orders();
        weddings();
        partings();
        corrections();
        questions();
        fullOffices();
        Due.end("RefusedTest");
    }

    private static int yes(boolean answer) {
        return answer ? 1 : 0;
    }

    private static void refused(String what, int due, Call call) {
        refusedAfter(x -> { }, what, due, call);
    }

    private interface More {
        void on(Asked x);
    }

    private static void refusedAfter(More more, String what, int due, Call call) {
        for (int probe = 0; probe < PROBES; probe++) {
            Asked asked = new Asked();
            Asked twin = new Asked();
            begin(asked);
            begin(twin);
            more.on(asked);
            more.on(twin);
            Due.is(what, due, call.on(asked.office));
            probe(asked, probe);
            probe(twin, probe);
            same(what + " (probe " + probe + ")", asked.answers, twin.answers);
        }
    }

    private static void same(String what, List<Integer> answers, List<Integer> wants) {
        Due.is(what + ": as many answers", wants.size(), answers.size());
        for (int i = 0; i < Math.min(wants.size(), answers.size()); i++) {
            Due.is(what + ": answer " + i, wants.get(i), answers.get(i));
        }
    }

    // ---- the past that all of them share: NOW is 3 ----

    private static final int WED = 0;
    private static final int MARRIED = 1;
    private static final int WITHDRAWN = 2;
    private static final int BOOKED = 3;
    private static final int OBJECTED = 4;
    private static final int UPHELD = 5;
    private static final int DISMISSED = 6;
    private static final int YOUNG = 7;
    private static final int RELATED = 8;
    private static final int PAPERLESS = 9;
    private static final int UNRIPE = 10;
    private static final int FREE = 11;
    private static final int PERSONS = 14;
    private static final int NOTICES = 12;
    private static final int OBJECTIONS = 3;
    private static final int ENTRIES = 1;

    private static void begin(Asked x) {
        beginPersons(x);
        beginLaws(x);
        beginFirstDay(x);
        x.ask(o -> o.go(3));
        beginThirdDay(x);
    }

    private static void beginPersons(Asked x) {
        int[] lands = {0, 0, 0, 0, 1, 2, 2, 3, 3, 4, 5, 5, 0, 0};
        for (int i = 0; i < PERSONS; i++) {
            int who = lands[i] * 1000000 + (i == 13 ? 20000 : 10000) + 100 + i;
            int father = i == 5 || i == 6 ? 0 : NONE;
            x.ask(o -> o.person(who, 0, father, NONE));
        }
    }

    /** Land 1 asks for a year, 2 bars kin, 3 wants a paper, 5 asks for two days of notice. */
    private static void beginLaws(Asked x) {
        x.ask(o -> yes(o.law(1, 0, 1000001, 0)));
        x.ask(o -> yes(o.law(2, 0, 302001, 0)));
        x.ask(o -> yes(o.law(3, 0, 10005, 0)));
        x.ask(o -> yes(o.law(5, 0, 1, 2)));
        x.ask(o -> yes(o.paper(8, 0, 0)));
        x.ask(o -> yes(o.feast(8)));
        x.ask(o -> o.registrar(1));
        x.ask(o -> o.registrar(2));
        x.ask(o -> o.registrar(3));
    }

    private static void beginFirstDay(Asked x) {
        x.ask(o -> o.post(0, 1));
        x.ask(o -> o.post(3, 0));
        x.ask(o -> o.post(2, 3));
        x.ask(o -> yes(o.withdraw(WITHDRAWN)));
        x.ask(o -> o.post(3, 2));
        x.ask(o -> o.post(10, 11));
        x.ask(o -> o.post(10, 2));
        x.ask(o -> o.post(3, 10));
        x.ask(o -> o.book(WED, 0, 800));
        x.ask(o -> o.book(MARRIED, 3, 800));
        x.ask(o -> o.book(BOOKED, 4, 910));
        x.ask(o -> o.book(OBJECTED, 3, 900));
        x.ask(o -> o.book(UPHELD, 3, 1000));
        x.ask(o -> o.object(OBJECTED));
        x.ask(o -> o.object(UPHELD));
        x.ask(o -> o.object(DISMISSED));
        x.ask(o -> yes(o.judge(1, true)));
        x.ask(o -> yes(o.judge(2, false)));
        x.ask(o -> o.wed(WED));
        x.ask(o -> yes(o.correct(0, 1, 77)));
    }

    private static void beginThirdDay(Asked x) {
        x.ask(o -> o.post(2, 4));
        x.ask(o -> o.post(5, 6));
        x.ask(o -> o.post(12, 7));
        x.ask(o -> o.post(9, 12));
        x.ask(o -> o.post(12, 13));
        x.ask(o -> o.book(YOUNG, 3, 1100));
        x.ask(o -> o.book(RELATED, 3, 1200));
        x.ask(o -> o.book(PAPERLESS, 3, 1300));
        x.ask(o -> o.book(UNRIPE, 3, 1400));
        x.ask(o -> yes(o.law(4, 3, 1, 1)));
    }

    /** What is refused below is refused for the reason that is meant, as all of this was done. */
    private static void sharedPast() {
        Asked x = new Asked();
        begin(x);
        for (int i = 0; i < x.answers.size(); i++) {
            Due.yes("shared past: call " + i + " wasn't refused", x.answers.get(i) >= 0);
        }
        int[] counts = {3, PERSONS, NOTICES, ENTRIES, OBJECTIONS, 8};
        for (int what = 0; what <= 5; what++) {
            Due.is("shared past: count " + what, counts[what], x.office.count(what));
        }
        int[] bars = {1, 1, 0, 0, 0, 0, 0, 2, 3, 4, 0, 0};
        int[][] couples = {{0, 1}, {3, 0}, {2, 3}, {3, 2}, {10, 11}, {10, 2}, {3, 10}, {2, 4}, {5, 6}, {12, 7}, {9, 12}, {12, 13}};
        for (int i = 0; i < NOTICES; i++) {
            Due.is("shared past: against the persons of " + i, bars[i], x.office.against(couples[i][0], couples[i][1], 3));
        }
    }

    // ---- what both are asked behind it ----

    private static void probe(Asked x, int probe) {
        if (probe == 0) {
            lookAtAll(x);
        } else if (probe == 1) {
            fillOffice(x);
        } else if (probe == 2) {
            fillPapersAndCorrections(x);
        } else {
            carryOn(x);
        }
    }

    private static void lookAtAll(Asked x) {
        for (int what = 0; what <= 5; what++) {
            int of = what;
            x.ask(o -> o.count(of));
        }
        for (int i = 0; i < 40; i++) {
            int number = i;
            x.ask(o -> o.married(number));
            if (i < 14) {
                lookAtNotice(x, number);
                lookAtCouples(x, number);
            }
        }
        for (int i = 0; i < 16; i++) {
            int field = i % 8;
            int day = i / 8 * 3;
            x.ask(o -> o.entry(0, field, day));
        }
        for (int i = 0; i < 4; i++) {
            int number = i;
            x.ask(o -> o.name(0, number / 2, number % 2));
            x.ask(o -> yes(o.quarrel(number)));
        }
    }

    private static void lookAtNotice(Asked x, int notice) {
        for (int what = 0; what <= 4; what++) {
            int of = what;
            x.ask(o -> o.told(notice, of));
        }
        x.ask(o -> o.ripe(notice));
        x.ask(o -> o.hung(notice, 16));
        x.ask(o -> o.hung(notice, LAST));
    }

    private static void lookAtCouples(Asked x, int a) {
        int b = (a + 1) % PERSONS;
        x.ask(o -> o.kin(a, b));
        x.ask(o -> o.against(a, b, 0));
        x.ask(o -> o.against(a, b, 3));
        x.ask(o -> o.against(a, b, 400));
        x.ask(o -> o.against(2, a, LAST));
    }

    /** All that has a limit but papers and corrections, until it is full. */
    private static void fillOffice(Asked x) {
        for (int i = 0; i < 61; i++) {
            int number = i;
            x.ask(o -> yes(o.law(number % 6, number % 3, 1, 25)));
            x.ask(o -> o.post(2 + number % 9, 11 + number / 9 % 3));
            x.ask(o -> o.object(number % 20));
        }
        for (int i = 0; i < 28; i++) {
            x.ask(o -> o.person(10001, 3, 12, 13));
        }
        for (int i = 0; i < 5; i++) {
            x.ask(o -> o.registrar(1));
        }
        for (int i = 0; i < 40; i++) {
            int number = i;
            x.ask(o -> yes(o.judge(number, number % 2 == 0)));
            x.ask(o -> yes(o.withdraw(number)));
            x.ask(o -> o.kin(number, 39));
        }
        for (int i = 0; i < 20; i++) {
            int number = i;
            x.ask(o -> o.post(number, 20 + number));
        }
    }

    private static void fillPapersAndCorrections(Asked x) {
        for (int day = 0; day <= 16; day++) {
            int feast = day;
            x.ask(o -> yes(o.feast(feast)));
        }
        x.ask(o -> yes(o.feast(LAST)));
        for (int i = 0; i < 201; i++) {
            int number = i;
            x.ask(o -> yes(o.paper(number % PERSONS, number % 3, number % 4)));
        }
        for (int i = 0; i < 101; i++) {
            int number = i;
            x.ask(o -> yes(o.correct(0, number % 5, number)));
        }
        for (int field = 0; field <= 7; field++) {
            int of = field;
            x.ask(o -> o.entry(0, of, 3));
        }
        for (int i = 0; i < NOTICES; i++) {
            int notice = i;
            x.ask(o -> o.ripe(notice));
            x.ask(o -> o.against(7, notice, 3));
        }
    }

    /** Bookings, weddings and what follows them. */
    private static void carryOn(Asked x) {
        for (int slot = 800; slot <= 1700; slot += 100) {
            int at = slot;
            x.ask(o -> o.book(FREE, 3, at + 2));
            x.ask(o -> o.book(DISMISSED, 3, at));
            x.ask(o -> o.book(BOOKED, 4, at + 10));
        }
        x.ask(o -> o.order(3));
        x.ask(o -> o.order(4));
        carryOnFor(x, 3);
        x.ask(o -> o.go(1));
        carryOnFor(x, 4);
        x.ask(o -> yes(o.part(0)));
        x.ask(o -> o.go(0));
        x.ask(o -> o.go(400));
        x.ask(o -> o.order(403));
        x.ask(o -> o.order(404));
        carryOnFor(x, 404);
    }

    private static void carryOnFor(Asked x, int day) {
        for (int i = 0; i < NOTICES + 2; i++) {
            int number = i;
            x.ask(o -> o.wed(number));
            x.ask(o -> o.told(number, 4));
            x.ask(o -> o.married(number));
            x.ask(o -> o.entry(number, 7, day));
        }
        x.ask(o -> o.count(3));
        x.ask(o -> o.count(5));
    }

    // ---- 2 to 6 ----

    private static void laws() {
        for (int land : Office.noneOf(6)) {
            refused("law of land " + land, 0, o -> yes(o.law(land, 0, 1, 0)));
        }
        for (int day : Office.noneOf(LAST + 1)) {
            refused("law of day " + day, 0, o -> yes(o.law(0, day, 30370001, 30)));
        }
        for (int what : new int[] {-1, 0, 401, 3001, 80001, 400001, 31000001, Integer.MIN_VALUE, Integer.MAX_VALUE}) {
            refused("law " + what, 0, o -> yes(o.law(0, 0, what, 0)));
        }
        for (int notice : Office.noneOf(31)) {
            refused("law with notice " + notice, 0, o -> yes(o.law(0, 0, 30370001, notice)));
        }
    }

    private static void persons() {
        for (int who : new int[] {-1, 0, 10000, 320001, 6010001, Integer.MIN_VALUE, Integer.MAX_VALUE}) {
            refused("person " + who, NONE, o -> o.person(who, 0, NONE, NONE));
        }
        for (int born : new int[] {-30001, 4, Integer.MIN_VALUE, Integer.MAX_VALUE}) {
            refused("person born on " + born, NONE, o -> o.person(10001, born, NONE, NONE));
        }
        for (int parent : Office.noneOf(PERSONS)) {
            if (parent != NONE) {
                refused("person with father " + parent, NONE, o -> o.person(10001, 0, parent, NONE));
                refused("person with mother " + parent, NONE, o -> o.person(10001, 0, 0, parent));
            }
        }
        refused("person whose parents are one", NONE, o -> o.person(10001, 0, 2, 2));
    }

    private static void papers() {
        for (int person : Office.noneOf(PERSONS)) {
            refused("paper of person " + person, 0, o -> yes(o.paper(person, 0, 3)));
        }
        for (int kind : Office.noneOf(3)) {
            refused("paper of kind " + kind, 0, o -> yes(o.paper(7, kind, 3)));
        }
        for (int day : Office.noneOf(4)) {
            refused("paper of day " + day, 0, o -> yes(o.paper(7, 0, day)));
        }
    }

    private static void feasts() {
        for (int day : Office.noneOf(LAST + 1)) {
            refused("feast on " + day, 0, o -> yes(o.feast(day)));
        }
        refused("feast on a weekly one", 0, o -> yes(o.feast(13)));
        refused("feast on a told one", 0, o -> yes(o.feast(8)));
    }

    private static void days() {
        for (int n : Office.noneOf(401)) {
            refused("go(" + n + ")", NONE, o -> o.go(n));
        }
    }

    // ---- 9 to 14 ----

    private static void posts() {
        for (int person : Office.noneOf(PERSONS)) {
            refused("post of " + person, NONE, o -> o.post(person, 12));
            refused("post with " + person, NONE, o -> o.post(12, person));
        }
        refused("post of one", NONE, o -> o.post(12, 12));
        refused("post of a married one", NONE, o -> o.post(0, 12));
        refused("post with a married one", NONE, o -> o.post(12, 1));
        refused("post of those who have one", NONE, o -> o.post(12, 13));
        refused("post of those who have one, the other way", NONE, o -> o.post(13, 12));
    }

    private static void withdrawals() {
        for (int notice : Office.noneOf(NOTICES)) {
            refused("withdraw(" + notice + ")", 0, o -> yes(o.withdraw(notice)));
        }
        refused("withdraw of one that was wed", 0, o -> yes(o.withdraw(WED)));
        refused("withdraw of a withdrawn one", 0, o -> yes(o.withdraw(WITHDRAWN)));
    }

    private static void objections() {
        for (int notice : Office.noneOf(NOTICES)) {
            refused("object(" + notice + ")", NONE, o -> o.object(notice));
        }
        refused("object to one that was wed", NONE, o -> o.object(WED));
        refused("object to a withdrawn one", NONE, o -> o.object(WITHDRAWN));
        refused("object too late", NONE, o -> o.object(BOOKED));
        refused("object too late, to one with an open one", NONE, o -> o.object(OBJECTED));
        for (int objection : Office.noneOf(OBJECTIONS)) {
            refused("judge(" + objection + ", true)", 0, o -> yes(o.judge(objection, true)));
            refused("judge(" + objection + ", false)", 0, o -> yes(o.judge(objection, false)));
        }
        refused("uphold an upheld one", 0, o -> yes(o.judge(1, true)));
        refused("dismiss an upheld one", 0, o -> yes(o.judge(1, false)));
        refused("uphold a dismissed one", 0, o -> yes(o.judge(2, true)));
        refused("dismiss a dismissed one", 0, o -> yes(o.judge(2, false)));
    }

    // ---- 15 to 19 ----

    private static void registrars() {
        for (int tongues : Office.noneOf(32)) {
            refused("registrar(" + tongues + ")", NONE, o -> o.registrar(tongues));
        }
    }

    private static void bookings() {
        for (int notice : Office.noneOf(NOTICES)) {
            refused("book(" + notice + ")", NONE, o -> o.book(notice, 4, 1600));
        }
        for (int day : new int[] {-1, 2, LAST + 1, Integer.MIN_VALUE, Integer.MAX_VALUE}) {
            refused("book for day " + day, NONE, o -> o.book(BOOKED, day, 1600));
        }
        for (int slot : new int[] {-1, 0, 700, 1800, 840, 803, Integer.MIN_VALUE, Integer.MAX_VALUE}) {
            refused("book at slot " + slot, NONE, o -> o.book(BOOKED, 4, slot));
        }
    }

    /** A booking against which something stands leaves the one that it would be in place of. */
    private static void bookingsBarred() {
        refused("book one that was wed", 1, o -> o.book(WED, 4, 1600));
        refused("book a withdrawn one", 1, o -> o.book(WITHDRAWN, 4, 1600));
        refused("book on a weekly feast", 2, o -> o.book(BOOKED, 6, 1600));
        refused("book on a told feast", 2, o -> o.book(BOOKED, 8, 1600));
        refused("book an unripe one", 3, o -> o.book(UNRIPE, 3, 1600));
        refused("book one with an open objection", 3, o -> o.book(OBJECTED, 4, 1600));
        refused("book one with an upheld objection", 3, o -> o.book(UPHELD, 4, 1600));
        refused("book a taken hall", 4, o -> o.book(BOOKED, 3, 902));
        refused("book a taken registrar", 5, o -> o.book(BOOKED, 3, 920));
        refused("book a registrar who is elsewhere behind", 6, o -> o.book(BOOKED, 3, 1510));
        refused("book a registrar who speaks with none", 7, o -> o.book(BOOKED, 3, 1601));
        refused("book a registrar who speaks with one", 7, o -> o.book(FREE, 3, 1600));
    }

    private static void orders() {
        for (int day : new int[] {-1, 2, LAST + 1, Integer.MIN_VALUE, Integer.MAX_VALUE}) {
            refused("order(" + day + ")", NONE, o -> o.order(day));
        }
        refused("order on a weekly feast", 0, o -> o.order(6));
        refused("order on a told feast", 0, o -> o.order(8));
    }

    private static void weddings() {
        for (int notice : Office.noneOf(NOTICES)) {
            refused("wed(" + notice + ")", NONE, o -> o.wed(notice));
        }
        refused("wed one without a booking", NONE, o -> o.wed(FREE));
        refused("wed one booked for another day", NONE, o -> o.wed(BOOKED));
        refused("wed one that was wed", NONE, o -> o.wed(WED));
        refused("wed a withdrawn one", NONE, o -> o.wed(WITHDRAWN));
        refused("wed a married one", NONE, o -> o.wed(MARRIED));
        refused("wed one too young", NONE, o -> o.wed(YOUNG));
        refused("wed kin", NONE, o -> o.wed(RELATED));
        refused("wed one without a paper", NONE, o -> o.wed(PAPERLESS));
        refused("wed an unripe one", NONE, o -> o.wed(UNRIPE));
        refused("wed one with an open objection", NONE, o -> o.wed(OBJECTED));
        refused("wed one with an upheld objection", NONE, o -> o.wed(UPHELD));
    }

    private static void partings() {
        for (int person : Office.noneOf(PERSONS)) {
            refused("part(" + person + ")", 0, o -> yes(o.part(person)));
        }
        refused("part one who isn't married", 0, o -> yes(o.part(12)));
    }

    // ---- 20 ----

    private static void corrections() {
        for (int entry : Office.noneOf(ENTRIES)) {
            refused("correct entry " + entry, 0, o -> yes(o.correct(entry, 0, 9)));
        }
        for (int field : Office.noneOf(5)) {
            refused("correct field " + field, 0, o -> yes(o.correct(0, field, 9)));
        }
        for (int value : Office.noneOf(20001)) {
            refused("correct to " + value, 0, o -> yes(o.correct(0, 1, value)));
        }
    }

    // ---- what only asks ----

    private static void questions() {
        refused("kin", 1, o -> o.kin(5, 6));
        refused("kin of nobody", NONE, o -> o.kin(5, PERSONS));
        refused("against", 3, o -> o.against(5, 6, 3));
        refused("against on no day", NONE, o -> o.against(5, 6, LAST + 1));
        refused("hung", 1, o -> o.hung(WED, 2));
        refused("hung of none", NONE, o -> o.hung(NOTICES, 2));
        refused("ripe", 5, o -> o.ripe(UNRIPE));
        refused("ripe of none", NONE, o -> o.ripe(NOTICES));
        refused("entry", 77, o -> o.entry(0, 1, 3));
        refused("entry behind NOW", NONE, o -> o.entry(0, 1, 4));
        refused("name", 100, o -> o.name(0, 0, 0));
        refused("name of a third one", NONE, o -> o.name(0, 2, 0));
        refused("quarrel", 0, o -> yes(o.quarrel(0)));
        refused("told", 910, o -> o.told(BOOKED, 4));
        refused("told of others", NONE, o -> o.told(BOOKED, 5));
        refused("married", 1, o -> o.married(0));
        refused("count", 3, o -> o.count(0));
        refused("count of others", NONE, o -> o.count(6));
    }

    // ---- one more than there may be ----

    private static void fullOffices() {
        refusedAfter(x -> fill(x, 55, o -> yes(o.law(5, 0, 1, 2))), "one law more", 0, o -> yes(o.law(0, 0, 30370001, 30)));
        refusedAfter(x -> fill(x, 26, o -> o.person(10001, 0, NONE, NONE)), "one person more", NONE,
            o -> o.person(10001, 0, NONE, NONE));
        refusedAfter(x -> fill(x, 199, o -> yes(o.paper(8, 2, 3))), "one paper more", 0, o -> yes(o.paper(7, 0, 3)));
        refusedAfter(RefusedTest::fillNotices, "one notice more", NONE, o -> o.post(9, 8));
        refusedAfter(RefusedTest::fillObjections, "one objection more", NONE, o -> o.object(UNRIPE));
        refusedAfter(x -> fill(x, 3, o -> o.registrar(1)), "one registrar more", NONE, o -> o.registrar(31));
        refusedAfter(x -> fill(x, 99, o -> yes(o.correct(0, 2, 5))), "one correction more", 0, o -> yes(o.correct(0, 1, 6)));
        refusedAfter(x -> fill(x, 50, o -> o.go(400)), "go too far on the last day", NONE, o -> o.go(401));
        refusedAfter(x -> fill(x, 50, o -> o.go(400)), "book behind the last day", NONE, o -> o.book(FREE, LAST + 1, 1602));
    }

    private static void fill(Asked x, int times, Call call) {
        for (int i = 0; i < times; i++) {
            x.ask(call);
        }
    }

    private static void fillNotices(Asked x) {
        for (int i = 0; i < 48; i++) {
            int number = NOTICES + i;
            x.ask(o -> o.post(8, 12));
            x.ask(o -> yes(o.withdraw(number)));
        }
        x.ask(o -> o.count(2));
    }

    private static void fillObjections(Asked x) {
        fill(x, 57, o -> o.object(UNRIPE));
        x.ask(o -> o.count(4));
    }
}
