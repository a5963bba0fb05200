import java.util.ArrayList;
import java.util.Arrays;

/** An office for weddings; ../shared/DOC.md says what each public method promises. */
public final class WeddingRegister {
    public static final int NONE = -1;

    private static final int LAST_DAY = 20000;
    private static final int FIRST_BIRTH = -30000;
    private static final int LONGEST_WAIT = 400;
    private static final int DAYS_OF_YEAR = 365;
    private static final int LANDS = 6;
    private static final int KINDS = 3;
    private static final int ALL_TONGUES = 31;
    private static final int NAME_RANGE = 10000;
    private static final int FIRST_HOUR = 8;
    private static final int HOURS = 10;
    private static final int HALLS = 4;
    private static final int GREATEST_VALUE = 20000;

    private static final int MOST_LAWS = 60;
    private static final int MOST_PERSONS = 40;
    private static final int MOST_PAPERS = 200;
    private static final int MOST_NOTICES = 60;
    private static final int MOST_OBJECTIONS = 60;
    private static final int MOST_REGISTRARS = 6;
    private static final int MOST_CORRECTIONS = 100;

    private static final int NOTHING = 0;

    private static final int MARRIED = 1;
    private static final int TOO_YOUNG = 2;
    private static final int KIN_BARS = 3;
    private static final int PAPER_WANTED = 4;

    private static final int NOT_OPEN = 1;
    private static final int ON_A_FEAST = 2;
    private static final int NOT_RIPE = 3;
    private static final int HALL_TAKEN = 4;
    private static final int REGISTRAR_TAKEN = 5;
    private static final int REGISTRAR_ELSEWHERE = 6;
    private static final int NO_COMMON_TONGUE = 7;

    private static final int OPEN = 0;
    private static final int WED = 1;
    private static final int WITHDRAWN = 2;

    private static final int NAMES_OF_FIRST = 1;
    private static final int NAMES_OF_BOTH = 2;

    private static final int CORRECTABLE_FIELDS = 5;
    private static final int FIELDS = 8;

    private int now;
    private int paperCount;
    private int registrarCount;
    private final int[] registrarTongues;
    private final Calendar calendar;
    private final LawBook laws;
    private final ArrayList<Person> persons;
    private final ArrayList<Notice> notices;
    private final ArrayList<Objection> objections;
    private final ArrayList<Entry> entries;
    private final ArrayList<Correction> corrections;
    private final DayPlan plan;

    public WeddingRegister() {
        now = 0;
        paperCount = 0;
        registrarCount = 0;
        registrarTongues = new int[MOST_REGISTRARS];
        calendar = new Calendar();
        laws = new LawBook();
        persons = new ArrayList<Person>();
        notices = new ArrayList<Notice>();
        objections = new ArrayList<Objection>();
        entries = new ArrayList<Entry>();
        corrections = new ArrayList<Correction>();
        plan = new DayPlan();
    }

    // ---- laws, persons, papers and days ----

    public boolean law(int land, int day, int what, int notice) {
        if (land < 0 || land >= LANDS || !isDay(day) || !Law.canBe(what, notice) || laws.isFull()) {
            return false;
        }
        laws.tell(new Law(land, day, what, notice));
        return true;
    }

    public int person(int who, int born, int father, int mother) {
        if (!Person.canBe(who) || born < FIRST_BIRTH || born > now || persons.size() >= MOST_PERSONS) {
            return NONE;
        }
        if (!canBeParents(father, mother)) {
            return NONE;
        }
        int number = persons.size();
        persons.add(new Person(number, who, born, personAt(father), personAt(mother)));
        return number;
    }

    public boolean paper(int person, int kind, int day) {
        Person holder = personAt(person);
        if (holder == null || kind < 0 || kind >= KINDS || day < 0 || day > now || paperCount >= MOST_PAPERS) {
            return false;
        }
        holder.papers.add(new Paper(kind, day));
        paperCount++;
        return true;
    }

    public boolean feast(int day) {
        if (!isDay(day) || calendar.isFeast(day)) {
            return false;
        }
        calendar.addFeast(day);
        return true;
    }

    public int go(int n) {
        if (n < 0 || n > LONGEST_WAIT) {
            return NONE;
        }
        now = Math.min(now + n, LAST_DAY);
        return now;
    }

    // ---- what stands against two persons ----

    public int kin(int a, int b) {
        Person first = personAt(a);
        Person second = personAt(b);
        if (first == null || second == null || a == b) {
            return NONE;
        }
        return kinOf(first, second);
    }

    public int against(int a, int b, int day) {
        Person first = personAt(a);
        Person second = personAt(b);
        if (first == null || second == null || a == b || !isDay(day)) {
            return NONE;
        }
        return barToCouple(first, second, day);
    }

    // ---- notices and objections ----

    public int post(int a, int b) {
        Person first = personAt(a);
        Person second = personAt(b);
        if (first == null || second == null || a == b || notices.size() >= MOST_NOTICES) {
            return NONE;
        }
        if (first.spouse != null || second.spouse != null || hasOpenNotice(first, second)) {
            return NONE;
        }
        int number = notices.size();
        notices.add(new Notice(number, first, second, now));
        return number;
    }

    public boolean withdraw(int notice) {
        Notice asked = noticeAt(notice);
        if (asked == null || asked.state != OPEN) {
            return false;
        }
        asked.state = WITHDRAWN;
        asked.setBooking(NONE, NONE);
        return true;
    }

    public int hung(int notice, int day) {
        Notice asked = noticeAt(notice);
        if (asked == null || !isDay(day)) {
            return NONE;
        }
        return calendar.workdaysBetween(asked.posted, day);
    }

    public int ripe(int notice) {
        Notice asked = noticeAt(notice);
        if (asked == null) {
            return NONE;
        }
        return firstRipeDay(asked);
    }

    public int object(int notice) {
        Notice asked = noticeAt(notice);
        if (asked == null || asked.state != OPEN || objections.size() >= MOST_OBJECTIONS) {
            return NONE;
        }
        int first = firstRipeDay(asked);
        // A notice that never gets ripe can be objected to for ever: no day is too late.
        if (first != NONE && now >= first) {
            return NONE;
        }
        int number = objections.size();
        objections.add(new Objection(asked));
        asked.standingObjections++;
        return number;
    }

    public boolean judge(int objection, boolean upheld) {
        if (objection < 0 || objection >= objections.size()) {
            return false;
        }
        Objection asked = objections.get(objection);
        if (!asked.open) {
            return false;
        }
        asked.open = false;
        if (!upheld) {
            asked.notice.standingObjections--;
        }
        return true;
    }

    // ---- bookings and weddings ----

    public int registrar(int tongues) {
        if (tongues < 0 || tongues > ALL_TONGUES || registrarCount >= MOST_REGISTRARS) {
            return NONE;
        }
        int number = registrarCount;
        registrarTongues[number] = tongues;
        registrarCount++;
        return number;
    }

    public int book(int notice, int day, int slot) {
        Notice asked = noticeAt(notice);
        if (asked == null || !isDayToCome(day) || !isSlot(slot)) {
            return NONE;
        }
        int bar = barToDay(asked, day);
        if (bar == NOTHING) {
            fillPlan(day, asked);
            bar = barToSlot(asked, slot);
        }
        if (bar == NOTHING) {
            asked.setBooking(day, slot);
        }
        return bar;
    }

    public int order(int day) {
        if (!isDayToCome(day)) {
            return NONE;
        }
        fillPlan(day, null);
        int booked = 0;
        for (int i = 0; i < notices.size(); i++) {
            if (bookByOrder(notices.get(i), day)) {
                booked++;
            }
        }
        return booked;
    }

    public int wed(int notice) {
        Notice asked = noticeAt(notice);
        if (asked == null || asked.state != OPEN || asked.bookedDay != now) {
            return NONE;
        }
        if (barToCouple(asked.first, asked.second, now) != NOTHING || !isRipeOn(asked, now)) {
            return NONE;
        }
        asked.state = WED;
        asked.first.spouse = asked.second;
        asked.second.spouse = asked.first;
        // Each of the notices is wed once at most, so their limit is that of the entries too.
        int number = entries.size();
        entries.add(new Entry(asked, now));
        return number;
    }

    public boolean part(int person) {
        Person asked = personAt(person);
        if (asked == null) {
            return false;
        }
        Person spouse = asked.spouse;
        if (spouse == null) {
            return false;
        }
        spouse.spouse = null;
        asked.spouse = null;
        return true;
    }

    // ---- entries, corrections and names ----

    public boolean correct(int entry, int field, int value) {
        Entry asked = entryAt(entry);
        if (asked == null || field < 0 || field >= CORRECTABLE_FIELDS) {
            return false;
        }
        if (value < 0 || value > GREATEST_VALUE || corrections.size() >= MOST_CORRECTIONS) {
            return false;
        }
        corrections.add(new Correction(entry, field, value, now));
        return true;
    }

    public int entry(int entry, int field, int day) {
        Entry asked = entryAt(entry);
        if (asked == null || field < 0 || field >= FIELDS || day < asked.day || day > now) {
            return NONE;
        }
        // They were told in the order of their days: the last one that fits is the latest.
        for (int i = corrections.size() - 1; i >= 0; i--) {
            Correction told = corrections.get(i);
            if (told.entry == entry && told.field == field && told.day <= day) {
                return told.value;
            }
        }
        return asked.written(field);
    }

    public int name(int entry, int which, int law) {
        Entry asked = entryAt(entry);
        if (asked == null || which < 0 || which > 1 || law < 0 || law > 1) {
            return NONE;
        }
        return nameAfter(asked, which, law);
    }

    public boolean quarrel(int entry) {
        Entry asked = entryAt(entry);
        if (asked == null) {
            return false;
        }
        return nameAfter(asked, 0, 0) != nameAfter(asked, 0, 1)
            || nameAfter(asked, 1, 0) != nameAfter(asked, 1, 1);
    }

    // ---- what can be asked ----

    public int told(int notice, int what) {
        Notice asked = noticeAt(notice);
        if (asked == null) {
            return NONE;
        }
        switch (what) {
            case 0: return asked.state;
            case 1: return asked.posted;
            case 2: return asked.standingObjections;
            case 3: return asked.bookedDay;
            case 4: return asked.slot;
            default: return NONE;
        }
    }

    public int married(int person) {
        Person asked = personAt(person);
        if (asked == null) {
            return NONE;
        }
        Person spouse = asked.spouse;
        return spouse == null ? NONE : spouse.number;
    }

    public int count(int what) {
        switch (what) {
            case 0: return now;
            case 1: return persons.size();
            case 2: return notices.size();
            case 3: return entries.size();
            case 4: return objections.size();
            case 5: return openBookings();
            default: return NONE;
        }
    }

    // ---- looking things up ----

    private static boolean isDay(int day) {
        return day >= 0 && day <= LAST_DAY;
    }

    private boolean isDayToCome(int day) {
        return day >= now && day <= LAST_DAY;
    }

    private Person personAt(int number) {
        return number >= 0 && number < persons.size() ? persons.get(number) : null;
    }

    private Notice noticeAt(int number) {
        return number >= 0 && number < notices.size() ? notices.get(number) : null;
    }

    private Entry entryAt(int number) {
        return number >= 0 && number < entries.size() ? entries.get(number) : null;
    }

    private boolean canBeParents(int father, int mother) {
        boolean fatherKnown = father == NONE || personAt(father) != null;
        boolean motherKnown = mother == NONE || personAt(mother) != null;
        return fatherKnown && motherKnown && (father == NONE || father != mother);
    }

    private int openBookings() {
        int booked = 0;
        for (int i = 0; i < notices.size(); i++) {
            Notice notice = notices.get(i);
            if (notice.state == OPEN && notice.isBooked()) {
                booked++;
            }
        }
        return booked;
    }

    private boolean hasOpenNotice(Person a, Person b) {
        for (int i = 0; i < notices.size(); i++) {
            Notice notice = notices.get(i);
            if (notice.state == OPEN && notice.isOf(a, b)) {
                return true;
            }
        }
        return false;
    }

    // ---- kin ----

    private static int kinOf(Person a, Person b) {
        if (a.isChildOf(b) || b.isChildOf(a) || a.sharesParentWith(b)) {
            return 1;
        }
        if (isNearByParent(a, b) || isNearByParent(b, a)) {
            return 2;
        }
        if (isCousinBy(a.father, b) || isCousinBy(a.mother, b)) {
            return 3;
        }
        return 0;
    }

    private static boolean isNearByParent(Person a, Person b) {
        return isNearAs(a.father, b) || isNearAs(a.mother, b);
    }

    private static boolean isNearAs(Person parent, Person other) {
        return parent != null && (parent.sharesParentWith(other) || parent.isChildOf(other));
    }

    private static boolean isCousinBy(Person parent, Person other) {
        return areSiblings(parent, other.father) || areSiblings(parent, other.mother);
    }

    private static boolean areSiblings(Person a, Person b) {
        // One's father can be the other one's mother: nobody is kin of themself, though they share their parents.
        return a != null && b != null && a != b && a.sharesParentWith(b);
    }

    // ---- bars to a couple ----

    private int barToCouple(Person a, Person b, int day) {
        if (a.spouse != null || b.spouse != null) {
            return MARRIED;
        }
        Law lawOfA = laws.inForce(a.land, day);
        Law lawOfB = laws.inForce(b.land, day);
        if (isTooYoung(a, lawOfA, day) || isTooYoung(b, lawOfB, day)) {
            return TOO_YOUNG;
        }
        int kin = kinOf(a, b);
        if (kin != 0 && (kin <= lawOfA.kin || kin <= lawOfB.kin)) {
            return KIN_BARS;
        }
        if (lacksPaper(a, lawOfA, day) || lacksPaper(b, lawOfB, day)) {
            return PAPER_WANTED;
        }
        return NOTHING;
    }

    private static boolean isTooYoung(Person person, Law law, int day) {
        return day - person.born < law.age * DAYS_OF_YEAR;
    }

    private static boolean lacksPaper(Person person, Law law, int day) {
        for (int kind = 0; kind < KINDS; kind++) {
            if (law.wantsPaper(kind) && !person.hasPaper(kind, day, law.valid)) {
                return true;
            }
        }
        return false;
    }

    // ---- hanging and ripeness ----

    private int hangingAsked(Notice notice, int day) {
        return Math.max(laws.inForce(notice.first.land, day).notice, laws.inForce(notice.second.land, day).notice);
    }

    private boolean isRipeOn(Notice notice, int day) {
        return notice.standingObjections == 0
            && day >= notice.posted
            && calendar.workdaysBetween(notice.posted, day) >= hangingAsked(notice, day);
    }

    private int firstRipeDay(Notice notice) {
        int hanging = 0;
        for (int day = notice.posted; day <= LAST_DAY; day++) {
            if (hanging >= hangingAsked(notice, day)) {
                return day;
            }
            if (day > notice.posted && !calendar.isFeast(day)) {
                hanging++;
            }
        }
        return NONE;
    }

    // ---- bars to a booking ----

    private boolean isSlot(int slot) {
        if (slot < 0) {
            return false;
        }
        int hour = hourOf(slot);
        return hour >= FIRST_HOUR && hour < FIRST_HOUR + HOURS
            && hallOf(slot) < HALLS
            && registrarOf(slot) < registrarCount;
    }

    private static int slotOf(int hour, int hall, int registrar) {
        return hour * 100 + hall * 10 + registrar;
    }

    private static int hourOf(int slot) {
        return slot / 100;
    }

    private static int hallOf(int slot) {
        return slot / 10 % 10;
    }

    private static int registrarOf(int slot) {
        return slot % 10;
    }

    private void fillPlan(int day, Notice leftOut) {
        plan.clear();
        for (int i = 0; i < notices.size(); i++) {
            Notice notice = notices.get(i);
            if (notice != leftOut && notice.isBooked() && notice.bookedDay == day) {
                plan.take(notice.slot);
            }
        }
    }

    private int barToDay(Notice notice, int day) {
        if (notice.state != OPEN) {
            return NOT_OPEN;
        }
        if (calendar.isFeast(day)) {
            return ON_A_FEAST;
        }
        return isRipeOn(notice, day) ? NOTHING : NOT_RIPE;
    }

    /** Asks the plan as it is filled now: a caller fills it for the day that it means. */
    private int barToSlot(Notice notice, int slot) {
        int bar = plan.barTo(slot);
        if (bar != NOTHING) {
            return bar;
        }
        return speaksWithBoth(registrarOf(slot), notice) ? NOTHING : NO_COMMON_TONGUE;
    }

    private boolean speaksWithBoth(int registrar, Notice notice) {
        if (registrar < 0 || registrar >= registrarTongues.length) {
            return false;
        }
        int tongues = registrarTongues[registrar];
        return (tongues & notice.first.tongues) != 0 && (tongues & notice.second.tongues) != 0;
    }

    private boolean bookByOrder(Notice notice, int day) {
        if (notice.isBooked() || barToDay(notice, day) != NOTHING) {
            return false;
        }
        if (barToCouple(notice.first, notice.second, day) != NOTHING) {
            return false;
        }
        int slot = firstFreeSlot(notice);
        if (slot == NONE) {
            return false;
        }
        notice.setBooking(day, slot);
        plan.take(slot);
        return true;
    }

    private int firstFreeSlot(Notice notice) {
        for (int hour = FIRST_HOUR; hour < FIRST_HOUR + HOURS; hour++) {
            for (int hall = 0; hall < HALLS; hall++) {
                for (int registrar = 0; registrar < registrarCount; registrar++) {
                    int slot = slotOf(hour, hall, registrar);
                    if (barToSlot(notice, slot) == NOTHING) {
                        return slot;
                    }
                }
            }
        }
        return NONE;
    }

    // ---- names after ----

    private int nameAfter(Entry entry, int which, int law) {
        int land = law == 0 ? entry.notice.first.land : entry.notice.second.land;
        int names = laws.inForce(land, entry.day).names;
        if (names == NAMES_OF_BOTH) {
            return entry.firstName * NAME_RANGE + entry.secondName;
        }
        return names == NAMES_OF_FIRST || which == 0 ? entry.firstName : entry.secondName;
    }

    // ---- classes inside ----

    private static final class Law {
        final int land;
        final int day;
        final int age;
        final int kin;
        final int papers;
        final int names;
        final int valid;
        final int notice;

        Law(int land, int day, int what, int notice) {
            this.land = land;
            this.day = day;
            this.age = what / 1000000;
            this.kin = what / 100000 % 10;
            this.papers = what / 10000 % 10;
            this.names = what / 1000 % 10;
            this.valid = what % 1000;
            this.notice = notice;
        }

        static boolean canBe(int what, int notice) {
            return what >= 0
                && what / 1000000 <= 30
                && what / 100000 % 10 <= 3
                && what / 10000 % 10 <= 7
                && what / 1000 % 10 <= 2
                && what % 1000 >= 1
                && what % 1000 <= 400
                && notice >= 0
                && notice <= 30;
        }

        boolean wantsPaper(int kind) {
            return (papers >> kind & 1) != 0;
        }
    }

    private static final class LawBook {
        private final ArrayList<Law> told;
        private final Law nothingAsked;

        LawBook() {
            told = new ArrayList<Law>();
            // Its day lies ahead of all others, so that any law in force goes before it.
            nothingAsked = new Law(NONE, -1, 1, 0);
        }

        boolean isFull() {
            return told.size() >= MOST_LAWS;
        }

        void tell(Law law) {
            told.add(law);
        }

        Law inForce(int land, int day) {
            Law found = nothingAsked;
            for (int i = 0; i < told.size(); i++) {
                Law law = told.get(i);
                if (law.land == land && law.day <= day && law.day >= found.day) {
                    found = law;
                }
            }
            return found;
        }
    }

    private static final class Calendar {
        private static final int DAYS_OF_WEEK = 7;
        private static final int WEEKLY_FEAST = 6;

        /** A bit for each day: the count of feasts up to a day needs no walk over the days. */
        private final long[] toldFeasts;

        Calendar() {
            toldFeasts = new long[LAST_DAY / 64 + 1];
        }

        boolean isFeast(int day) {
            int word = day >> 6;
            if (word < 0 || word >= toldFeasts.length) {
                return false;
            }
            return day % DAYS_OF_WEEK == WEEKLY_FEAST || (toldFeasts[word] >> (day & 63) & 1L) != 0;
        }

        void addFeast(int day) {
            int word = day >> 6;
            if (word >= 0 && word < toldFeasts.length) {
                toldFeasts[word] |= 1L << (day & 63);
            }
        }

        int workdaysBetween(int from, int to) {
            if (to <= from + 1) {
                return 0;
            }
            return to - from - 1 - (feastsAheadOf(to) - feastsAheadOf(from + 1));
        }

        private int feastsAheadOf(int day) {
            int word = day >> 6;
            // No told feast is a weekly one, so none is counted twice.
            int feasts = day / DAYS_OF_WEEK;
            for (int i = 0; i < word && i < toldFeasts.length; i++) {
                feasts += Long.bitCount(toldFeasts[i]);
            }
            if (word >= 0 && word < toldFeasts.length) {
                feasts += Long.bitCount(toldFeasts[word] & ((1L << (day & 63)) - 1L));
            }
            return feasts;
        }
    }

    private static final class Person {
        final int number;
        final int land;
        final int tongues;
        final int name;
        final int born;
        final Person father;
        final Person mother;
        final ArrayList<Paper> papers;
        Person spouse;

        Person(int number, int who, int born, Person father, Person mother) {
            this.number = number;
            this.land = who / 1000000;
            this.tongues = who / 10000 % 100;
            this.name = who % NAME_RANGE;
            this.born = born;
            this.father = father;
            this.mother = mother;
            this.papers = new ArrayList<Paper>();
            this.spouse = null;
        }

        static boolean canBe(int who) {
            return who >= 0
                && who / 1000000 < LANDS
                && who / 10000 % 100 <= ALL_TONGUES
                && who % NAME_RANGE >= 1;
        }

        boolean isChildOf(Person other) {
            return father == other || mother == other;
        }

        boolean sharesParentWith(Person other) {
            return (father != null && father == other.father) || (mother != null && mother == other.mother);
        }

        boolean hasPaper(int kind, int day, int valid) {
            for (int i = 0; i < papers.size(); i++) {
                Paper paper = papers.get(i);
                if (paper.kind == kind && paper.day <= day && valid > day - paper.day) {
                    return true;
                }
            }
            return false;
        }
    }

    private static final class Paper {
        final int kind;
        final int day;

        Paper(int kind, int day) {
            this.kind = kind;
            this.day = day;
        }
    }

    private static final class Notice {
        final int number;
        final Person first;
        final Person second;
        final int posted;
        int state;
        int standingObjections;
        int bookedDay;
        int slot;

        Notice(int number, Person first, Person second, int posted) {
            this.number = number;
            this.first = first;
            this.second = second;
            this.posted = posted;
            this.state = OPEN;
            this.standingObjections = 0;
            this.bookedDay = NONE;
            this.slot = NONE;
        }

        boolean isOf(Person a, Person b) {
            return (first == a && second == b) || (first == b && second == a);
        }

        boolean isBooked() {
            return bookedDay != NONE;
        }

        void setBooking(int day, int newSlot) {
            bookedDay = day;
            slot = newSlot;
        }
    }

    private static final class Objection {
        final Notice notice;
        boolean open;

        Objection(Notice notice) {
            this.notice = notice;
            this.open = true;
        }
    }

    private static final class Entry {
        final Notice notice;
        final int day;
        final int firstName;
        final int secondName;
        final int hall;
        final int registrar;

        Entry(Notice notice, int day) {
            this.notice = notice;
            this.day = day;
            this.firstName = notice.first.name;
            this.secondName = notice.second.name;
            this.hall = hallOf(notice.slot);
            this.registrar = registrarOf(notice.slot);
        }

        int written(int field) {
            switch (field) {
                case 0: return day;
                case 1: return firstName;
                case 2: return secondName;
                case 3: return hall;
                case 4: return registrar;
                case 5: return notice.first.number;
                case 6: return notice.second.number;
                case 7: return notice.number;
                default: return NONE;
            }
        }
    }

    private static final class Correction {
        final int entry;
        final int field;
        final int value;
        final int day;

        Correction(int entry, int field, int value, int day) {
            this.entry = entry;
            this.field = field;
            this.value = value;
            this.day = day;
        }
    }

    /** Who is where on one day; one plan serves all calls, so that none of them makes arrays. */
    private static final class DayPlan {
        private final int[] takenHalls;
        private final int[] hallOfRegistrar;

        DayPlan() {
            takenHalls = new int[HOURS];
            hallOfRegistrar = new int[HOURS * MOST_REGISTRARS];
        }

        void clear() {
            Arrays.fill(takenHalls, 0);
            Arrays.fill(hallOfRegistrar, NONE);
        }

        void take(int slot) {
            int hour = hourOf(slot);
            int place = placeOf(hour, registrarOf(slot));
            if (place == NONE) {
                return;
            }
            takenHalls[hour - FIRST_HOUR] |= 1 << hallOf(slot);
            hallOfRegistrar[place] = hallOf(slot);
        }

        int barTo(int slot) {
            int hour = hourOf(slot);
            int hall = hallOf(slot);
            int registrar = registrarOf(slot);
            if (isTaken(hour, hall)) {
                return HALL_TAKEN;
            }
            if (hallAt(hour, registrar) != NONE) {
                return REGISTRAR_TAKEN;
            }
            int ahead = hallAt(hour - 1, registrar);
            int behind = hallAt(hour + 1, registrar);
            if ((ahead != NONE && ahead != hall) || (behind != NONE && behind != hall)) {
                return REGISTRAR_ELSEWHERE;
            }
            return NOTHING;
        }

        private boolean isTaken(int hour, int hall) {
            int row = hour - FIRST_HOUR;
            return row >= 0 && row < HOURS && (takenHalls[row] >> hall & 1) != 0;
        }

        private int hallAt(int hour, int registrar) {
            int place = placeOf(hour, registrar);
            return place == NONE ? NONE : hallOfRegistrar[place];
        }

        private int placeOf(int hour, int registrar) {
            int row = hour - FIRST_HOUR;
            if (row < 0 || row >= HOURS || registrar < 0 || registrar >= MOST_REGISTRARS) {
                return NONE;
            }
            return row * MOST_REGISTRARS + registrar;
        }
    }
}
