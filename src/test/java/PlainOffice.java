import java.util.ArrayList;
import java.util.List;

/**
 * The document told a second time, word by word and day by day, without regard for speed.
 * It keeps what was told in lists and works every answer out anew from them.
 */
final class PlainOffice {
    private static final int NONE = -1;

    private record Law(int land, int day, int age, int kin, int papers, int names, int valid, int notice) { }
    private record Person(int land, int tongues, int name, int born, int father, int mother) { }
    private record Paper(int person, int kind, int day) { }
    private record Entry(int notice, int[] fields) { }
    private record Correction(int entry, int field, int value, int day) { }

    private static final class Notice {
        int a, b, posted, state, day = NONE, hour, hall, registrar;
    }

    private static final class Objection {
        int notice;
        String state = "open";
    }

    private int now = 0;
    private final List<Law> laws = new ArrayList<>();
    private final List<Person> persons = new ArrayList<>();
    private final List<Paper> papers = new ArrayList<>();
    private final List<Integer> feasts = new ArrayList<>();
    private final List<Notice> notices = new ArrayList<>();
    private final List<Objection> objections = new ArrayList<>();
    private final List<Integer> registrars = new ArrayList<>();
    private final List<Entry> entries = new ArrayList<>();
    private final List<Correction> corrections = new ArrayList<>();
    private final List<int[]> marriages = new ArrayList<>();

    private static boolean in(int value, int least, int greatest) {
        return least <= value && value <= greatest;
    }

    private static boolean has(List<?> list, int number) {
        return in(number, 0, list.size() - 1);
    }

    boolean law(int land, int day, int what, int notice) {
        int valid = what % 1000, names = what / 1000 % 10, bits = what / 10000 % 10, kin = what / 100000 % 10;
        int age = what / 1000000;
        boolean good = what > 0 && in(age, 0, 30) && in(kin, 0, 3) && in(bits, 0, 7) && in(names, 0, 2)
            && in(valid, 1, 400) && in(notice, 0, 30) && in(land, 0, 5) && in(day, 0, 20000);
        return good && laws.size() < 60 && laws.add(new Law(land, day, age, kin, bits, names, valid, notice));
    }

    private Law lawOf(int person, int day) {
        int land = persons.get(person).land;
        for (int from = day; from >= 0; from--) {
            for (int i = laws.size() - 1; i >= 0; i--) {
                if (laws.get(i).day == from && laws.get(i).land == land) {
                    return laws.get(i);
                }
            }
        }
        return new Law(land, 0, 0, 0, 0, 0, 1, 0);
    }

    int person(int who, int born, int father, int mother) {
        if (who < 0 || who > 5999999 || who / 10000 % 100 > 31 || who % 10000 == 0 || !in(born, -30000, now)) {
            return NONE;
        }
        if (father != NONE && !has(persons, father) || mother != NONE && !has(persons, mother)) {
            return NONE;
        }
        if (father == mother && father != NONE || persons.size() == 40) {
            return NONE;
        }
        persons.add(new Person(who / 1000000, who / 10000 % 100, who % 10000, born, father, mother));
        return persons.size() - 1;
    }

    boolean paper(int person, int kind, int day) {
        return has(persons, person) && in(kind, 0, 2) && in(day, 0, now) && papers.size() < 200
            && papers.add(new Paper(person, kind, day));
    }

    private boolean isFeast(int day) {
        return day % 7 == 6 || feasts.contains(day);
    }

    boolean feast(int day) {
        return in(day, 0, 20000) && !isFeast(day) && feasts.add(day);
    }

    int go(int n) {
        if (!in(n, 0, 400)) {
            return NONE;
        }
        for (int i = 0; i < n && now < 20000; i++) {
            now++;
        }
        return now;
    }

    private boolean isParent(int parent, int child) {
        return persons.get(child).father == parent || persons.get(child).mother == parent;
    }

    private boolean common(int a, int b) {
        Person p = persons.get(a), q = persons.get(b);
        return p.father != NONE && p.father == q.father || p.mother != NONE && p.mother == q.mother;
    }

    private List<Integer> parents(int person) {
        List<Integer> both = new ArrayList<>(List.of(persons.get(person).father, persons.get(person).mother));
        both.removeIf(p -> p == NONE);
        return both;
    }

    private boolean second(int a, int b) {
        return parents(a).stream().anyMatch(p -> common(p, b) || isParent(b, p));
    }

    private int degree(int a, int b) {
        if (isParent(a, b) || isParent(b, a) || common(a, b)) {
            return 1;
        }
        if (second(a, b) || second(b, a)) {
            return 2;
        }
        return parents(a).stream().anyMatch(p -> parents(b).stream().anyMatch(q -> areTwo(p, q) && common(p, q))) ? 3 : 0;
    }

    private boolean areTwo(int a, int b) {
        return has(persons, a) && has(persons, b) && a != b;
    }

    int kin(int a, int b) {
        return areTwo(a, b) ? degree(a, b) : NONE;
    }

    private boolean lacks(int person, int day) {
        Law law = lawOf(person, day);
        for (int kind = 0; kind < 3; kind++) {
            boolean held = false;
            for (Paper p : papers) {
                held |= p.person == person && p.kind == kind && p.day <= day && law.valid > day - p.day;
            }
            if ((law.papers & 1 << kind) != 0 && !held) {
                return true;
            }
        }
        return false;
    }

    private boolean young(int person, int day) {
        return persons.get(person).born + lawOf(person, day).age * 365 > day;
    }

    int against(int a, int b, int day) {
        if (!areTwo(a, b) || !in(day, 0, 20000)) {
            return NONE;
        }
        if (married(a) != NONE || married(b) != NONE) {
            return 1;
        }
        if (young(a, day) || young(b, day)) {
            return 2;
        }
        if (degree(a, b) != 0 && degree(a, b) <= Math.max(lawOf(a, day).kin, lawOf(b, day).kin)) {
            return 3;
        }
        return lacks(a, day) || lacks(b, day) ? 4 : 0;
    }

    int post(int a, int b) {
        if (!areTwo(a, b) || married(a) != NONE || married(b) != NONE || notices.size() == 60) {
            return NONE;
        }
        for (Notice n : notices) {
            if (n.state == 0 && (n.a == a && n.b == b || n.a == b && n.b == a)) {
                return NONE;
            }
        }
        Notice n = new Notice();
        n.a = a;
        n.b = b;
        n.posted = now;
        notices.add(n);
        return notices.size() - 1;
    }

    boolean withdraw(int notice) {
        if (!has(notices, notice) || notices.get(notice).state != 0) {
            return false;
        }
        notices.get(notice).state = 2;
        notices.get(notice).day = NONE;
        return true;
    }

    int hung(int notice, int day) {
        if (!has(notices, notice) || !in(day, 0, 20000)) {
            return NONE;
        }
        int days = 0;
        for (int d = notices.get(notice).posted + 1; d < day; d++) {
            days += isFeast(d) ? 0 : 1;
        }
        return days;
    }

    private boolean hungEnough(int notice, int day) {
        Notice n = notices.get(notice);
        return day >= n.posted && hung(notice, day) >= Math.max(lawOf(n.a, day).notice, lawOf(n.b, day).notice);
    }

    private boolean isRipe(int notice, int day) {
        return hungEnough(notice, day) && told(notice, 2) == 0;
    }

    int ripe(int notice) {
        for (int day = 0; has(notices, notice) && day <= 20000; day++) {
            if (hungEnough(notice, day)) {
                return day;
            }
        }
        return NONE;
    }

    int object(int notice) {
        if (!has(notices, notice) || notices.get(notice).state != 0 || objections.size() == 60) {
            return NONE;
        }
        for (int day = 0; day <= now; day++) {
            if (hungEnough(notice, day)) {
                return NONE;
            }
        }
        Objection o = new Objection();
        o.notice = notice;
        objections.add(o);
        return objections.size() - 1;
    }

    boolean judge(int objection, boolean upheld) {
        if (!has(objections, objection) || !objections.get(objection).state.equals("open")) {
            return false;
        }
        objections.get(objection).state = upheld ? "upheld" : "dismissed";
        return true;
    }

    int registrar(int tongues) {
        if (!in(tongues, 0, 31) || registrars.size() == 6) {
            return NONE;
        }
        registrars.add(tongues);
        return registrars.size() - 1;
    }

    private int barTo(int notice, int day, int hour, int hall, int registrar) {
        Notice n = notices.get(notice);
        if (n.state != 0) {
            return 1;
        }
        if (isFeast(day)) {
            return 2;
        }
        if (!isRipe(notice, day)) {
            return 3;
        }
        boolean hallTaken = false, registrarTaken = false, elsewhere = false;
        for (Notice o : notices) {
            if (o != n && o.day == day) {
                hallTaken |= o.hour == hour && o.hall == hall;
                registrarTaken |= o.hour == hour && o.registrar == registrar;
                elsewhere |= Math.abs(o.hour - hour) == 1 && o.registrar == registrar && o.hall != hall;
            }
        }
        int tongues = registrars.get(registrar);
        boolean silent = (tongues & persons.get(n.a).tongues) == 0 || (tongues & persons.get(n.b).tongues) == 0;
        return hallTaken ? 4 : registrarTaken ? 5 : elsewhere ? 6 : silent ? 7 : 0;
    }

    private int bookAt(int notice, int day, int hour, int hall, int registrar) {
        int bar = barTo(notice, day, hour, hall, registrar);
        if (bar == 0) {
            Notice n = notices.get(notice);
            n.day = day;
            n.hour = hour;
            n.hall = hall;
            n.registrar = registrar;
        }
        return bar;
    }

    int book(int notice, int day, int slot) {
        if (!has(notices, notice) || !in(day, now, 20000) || !in(slot, 800, 1799)) {
            return NONE;
        }
        if (slot / 10 % 10 > 3 || !has(registrars, slot % 10)) {
            return NONE;
        }
        return bookAt(notice, day, slot / 100, slot / 10 % 10, slot % 10);
    }

    private boolean bookFirst(int notice, int day) {
        for (int place = 0; place < 10 * 4 * registrars.size(); place++) {
            int registrar = place % registrars.size(), hall = place / registrars.size() % 4;
            if (bookAt(notice, day, 8 + place / registrars.size() / 4, hall, registrar) == 0) {
                return true;
            }
        }
        return false;
    }

    int order(int day) {
        if (!in(day, now, 20000)) {
            return NONE;
        }
        int booked = 0;
        for (int i = 0; i < notices.size(); i++) {
            Notice n = notices.get(i);
            if (n.state == 0 && n.day == NONE && against(n.a, n.b, day) == 0 && isRipe(i, day) && bookFirst(i, day)) {
                booked++;
            }
        }
        return booked;
    }

    int wed(int notice) {
        if (!has(notices, notice)) {
            return NONE;
        }
        Notice n = notices.get(notice);
        if (n.state != 0 || n.day != now || against(n.a, n.b, now) != 0 || !isRipe(notice, now)) {
            return NONE;
        }
        n.state = 1;
        marriages.add(new int[] {n.a, n.b});
        int one = persons.get(n.a).name, other = persons.get(n.b).name;
        entries.add(new Entry(notice, new int[] {now, one, other, n.hall, n.registrar, n.a, n.b, notice}));
        return entries.size() - 1;
    }

    boolean part(int person) {
        return marriages.removeIf(m -> m[0] == person || m[1] == person);
    }

    boolean correct(int entry, int field, int value) {
        return has(entries, entry) && in(field, 0, 4) && in(value, 0, 20000) && corrections.size() < 100
            && corrections.add(new Correction(entry, field, value, now));
    }

    int entry(int entry, int field, int day) {
        if (!has(entries, entry) || !in(field, 0, 7) || !in(day, entries.get(entry).fields[0], now)) {
            return NONE;
        }
        int known = entries.get(entry).fields[field];
        for (Correction c : corrections) {
            known = c.entry == entry && c.field == field && c.day <= day ? c.value : known;
        }
        return known;
    }

    int name(int entry, int which, int law) {
        if (!has(entries, entry) || !in(which, 0, 1) || !in(law, 0, 1)) {
            return NONE;
        }
        int[] fields = entries.get(entry).fields;
        int names = lawOf(fields[5 + law], fields[0]).names;
        return names == 0 ? fields[1 + which] : names == 1 ? fields[1] : fields[1] * 10000 + fields[2];
    }

    boolean quarrel(int entry) {
        return name(entry, 0, 0) != name(entry, 0, 1) || name(entry, 1, 0) != name(entry, 1, 1);
    }

    int told(int notice, int what) {
        if (!has(notices, notice)) {
            return NONE;
        }
        Notice n = notices.get(notice);
        int standing = 0;
        for (Objection o : objections) {
            standing += o.notice == notice && !o.state.equals("dismissed") ? 1 : 0;
        }
        int slot = n.day == NONE ? NONE : n.hour * 100 + n.hall * 10 + n.registrar;
        int[] all = {n.state, n.posted, standing, n.day, slot};
        return in(what, 0, 4) ? all[what] : NONE;
    }

    int married(int person) {
        for (int[] m : marriages) {
            if (m[0] == person || m[1] == person) {
                return m[0] + m[1] - person;
            }
        }
        return NONE;
    }

    int count(int what) {
        int booked = (int) notices.stream().filter(n -> n.state == 0 && n.day != NONE).count();
        int[] all = {now, persons.size(), notices.size(), entries.size(), objections.size(), booked};
        return in(what, 0, 5) ? all[what] : NONE;
    }
}
