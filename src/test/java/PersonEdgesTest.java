/** Promises 1 to 8 and the terms of ==== 1 and ==== 2: a test for each boundary that a sentence names. */
public final class PersonEdgesTest {
    private static final int NONE = WeddingRegister.NONE;
    private static final int LAST = 20000;

    public static void main(String[] args) {
        newObject();
        lastPromisedCall();
        laws();
        lawsInForce();
        persons();
        papers();
        feasts();
        days();
        kin();
        against();
        Due.end("PersonEdgesTest");
    }

    // ---- 1: a new object ----

    private static void newObject() {
        WeddingRegister x = new WeddingRegister();
        Due.is("1: NOW is 0", 0, x.count(0));
        Due.is("1: no persons", 0, x.count(1));
        Due.is("1: nobody is number 0", NONE, x.kin(0, 1));
        Due.no("1: nobody can be given a paper", x.paper(0, 0, 0));
        x.person(1, 0, NONE, NONE);
        x.person(2, 0, 0, NONE);
        Due.is("1: no laws, so nothing is asked of a newborn, its father, and without papers", 0, x.against(0, 1, 0));
        x.post(0, 1);
        Due.is("1: no law asks for notice", 0, x.ripe(0));
        Due.is("1: no registrars", NONE, x.book(0, 0, 800));
        Due.is("1: no feast ahead of the weekly one", 5, x.hung(0, 6));
    }

    private static void lastPromisedCall() {
        WeddingRegister x = new WeddingRegister();
        for (int i = 0; i < 510; i++) {
            x.person(i % 2 == 0 ? 1 : 0, 0, NONE, NONE);
        }
        Due.is("the 511th call", 40, x.count(1));
        Due.is("the 512th call", 0, x.kin(0, 39));
    }

    // ---- 2: law ----

    private static void laws() {
        lawLands();
        lawDays();
        lawAges();
        lawDigits();
        lawValids();
        lawNotices();
        lawsBelowNothing();
        lawsSixty();
        lawsRefusedDoNotCount();
    }

    private static void lawLands() {
        WeddingRegister x = new WeddingRegister();
        for (int land = 0; land <= 5; land++) {
            Due.yes("2: land " + land, x.law(land, 0, 1, 0));
        }
        for (int land : Office.noneOf(6)) {
            Due.no("2: land " + land, x.law(land, 0, 1, 0));
        }
    }

    private static void lawDays() {
        WeddingRegister x = new WeddingRegister();
        Due.yes("2: the first day", x.law(0, 0, 1, 0));
        Due.yes("2: the last day", x.law(0, LAST, 1, 0));
        for (int day : Office.noneOf(LAST + 1)) {
            Due.no("2: day " + day, x.law(0, day, 1, 0));
        }
    }

    private static void lawAges() {
        WeddingRegister x = new WeddingRegister();
        for (int age = 0; age <= 30; age++) {
            Due.yes("2: age " + age, x.law(0, 0, age * 1000000 + 1, 0));
        }
        for (int age : new int[] {31, 32, 99, 100, 2147}) {
            Due.no("2: age " + age, x.law(0, 0, age * 1000000 + 1, 0));
        }
    }

    /** KIN, PAPERS and NAMES have a digit each, and not each digit can be. */
    private static void lawDigits() {
        WeddingRegister x = new WeddingRegister();
        for (int digit = 0; digit <= 9; digit++) {
            Due.is("2: kin " + digit, digit <= 3 ? 1 : 0, x.law(0, 0, digit * 100000 + 1, 0) ? 1 : 0);
            Due.is("2: papers " + digit, digit <= 7 ? 1 : 0, x.law(0, 0, digit * 10000 + 1, 0) ? 1 : 0);
            Due.is("2: names " + digit, digit <= 2 ? 1 : 0, x.law(0, 0, digit * 1000 + 1, 0) ? 1 : 0);
        }
    }

    private static void lawValids() {
        WeddingRegister x = new WeddingRegister();
        Due.no("2: valid 0", x.law(0, 0, 0, 0));
        Due.no("2: valid 0 with all else at its greatest", x.law(0, 0, 30372000, 30));
        Due.yes("2: valid 1", x.law(0, 0, 1, 0));
        Due.yes("2: valid 400", x.law(0, 0, 400, 0));
        Due.yes("2: valid 400 with all else at its greatest", x.law(5, LAST, 30372400, 30));
        Due.no("2: valid 401", x.law(0, 0, 401, 0));
        Due.no("2: valid 401 with all else at its greatest", x.law(5, LAST, 30372401, 30));
        Due.no("2: valid 999", x.law(0, 0, 999, 0));
    }

    private static void lawNotices() {
        WeddingRegister x = new WeddingRegister();
        Due.yes("2: notice 0", x.law(0, 0, 1, 0));
        Due.yes("2: notice 30", x.law(0, 0, 1, 30));
        for (int notice : Office.noneOf(31)) {
            Due.no("2: notice " + notice, x.law(0, 0, 1, notice));
        }
    }

    private static void lawsBelowNothing() {
        WeddingRegister x = new WeddingRegister();
        for (int what : new int[] {-1, -399, -1000001, -18000001, Integer.MIN_VALUE, Integer.MAX_VALUE}) {
            Due.no("2: what " + what, x.law(0, 0, what, 0));
        }
    }

    private static void lawsSixty() {
        WeddingRegister x = Office.of(1);
        x.person(5010001, 0, NONE, NONE);
        x.person(4010001, 0, NONE, NONE);
        Due.yes("2: the first law", x.law(0, 0, 1000001, 0));
        for (int i = 1; i < 59; i++) {
            Due.yes("2: law " + i, x.law(1 + i % 3, i, 1, 0));
        }
        Due.yes("2: the sixtieth law", x.law(5, 0, 2000001, 0));
        for (int land = 0; land <= 5; land++) {
            Due.no("2: one law more, of land " + land, x.law(land, 0, 1, 0));
        }
        Due.no("2: one law more, of the last day", x.law(0, LAST, 1, 0));
        Due.is("2: the first law is in force still", 2, x.against(0, 2, 364));
        Due.is("2: the first law asks for a year", 0, x.against(0, 2, 365));
        Due.is("2: the sixtieth law is in force", 2, x.against(1, 2, 729));
        Due.is("2: the sixtieth law asks for two years", 0, x.against(1, 2, 730));
    }

    private static void lawsRefusedDoNotCount() {
        WeddingRegister x = new WeddingRegister();
        for (int i = 0; i < 70; i++) {
            x.law(6, 0, 1, 0);
            x.law(0, LAST + 1, 1, 0);
            x.law(0, 0, 0, 0);
            x.law(0, 0, 1, 31);
        }
        for (int i = 0; i < 60; i++) {
            Due.yes("2: law " + i + " though others were refused", x.law(0, 0, 1, 0));
        }
        Due.no("2: the sixty-first", x.law(0, 0, 1, 0));
    }

    // ---- ==== 1: that in force on a day ----

    private static void lawsInForce() {
        lawFromItsDayOn();
        lawOfLastDay();
        lawOfGreatestDay();
        lawsOfOneDay();
        lawOfEachLand();
        withoutLaw();
        lawOfAllAtTheirGreatest();
        ageByYears();
    }

    private static void lawFromItsDayOn() {
        WeddingRegister x = Office.of(2);
        x.law(0, 10, 30000001, 0);
        Due.is("law: the day ahead of it", 0, x.against(0, 1, 9));
        Due.is("law: its own day", 2, x.against(0, 1, 10));
        Due.is("law: the day behind it", 2, x.against(0, 1, 11));
        x.law(0, 0, 30000001, 0);
        Due.is("law: the first day of all", 2, x.against(0, 1, 0));
    }

    private static void lawOfLastDay() {
        WeddingRegister x = Office.of(2);
        x.law(0, LAST, 10001, 0);
        Due.is("law: ahead of the last day", 0, x.against(0, 1, LAST - 1));
        Due.is("law: on the last day", 4, x.against(0, 1, LAST));
    }

    private static void lawOfGreatestDay() {
        WeddingRegister x = Office.of(2);
        x.law(0, 10, 10001, 0);
        x.law(0, 20, 1, 0);
        x.law(0, 5, 1, 0);
        Due.is("law: told last, of a smaller day, isn't in force", 4, x.against(0, 1, 10));
        Due.is("law: it is in force on the days ahead of that", 0, x.against(0, 1, 9));
        Due.is("law: the last day of the second", 4, x.against(0, 1, 19));
        Due.is("law: the first day of the third", 0, x.against(0, 1, 20));
    }

    private static void lawsOfOneDay() {
        WeddingRegister x = Office.of(2);
        x.law(0, 10, 10001, 0);
        x.law(0, 10, 1, 0);
        Due.is("law: of like ones the latest told", 0, x.against(0, 1, 10));
        x.law(0, 10, 10001, 0);
        Due.is("law: of three like ones the latest told", 4, x.against(0, 1, 10));
        x.law(0, 0, 1, 0);
        x.law(0, 0, 10001, 0);
        Due.is("law: of like ones of the first day too", 4, x.against(0, 1, 0));
    }

    private static void lawOfEachLand() {
        for (int land = 0; land <= 5; land++) {
            WeddingRegister x = new WeddingRegister();
            for (int of = 0; of <= 5; of++) {
                x.person(of * 1000000 + 1, 0, NONE, NONE);
                x.person(of * 1000000 + 1, 0, NONE, NONE);
            }
            x.law(land, 0, 10001, 0);
            for (int of = 0; of <= 5; of++) {
                Due.is("law: of land " + land + ", persons of " + of, of == land ? 4 : 0, x.against(2 * of, 2 * of + 1, 0));
            }
        }
    }

    private static void withoutLaw() {
        WeddingRegister x = Office.of(1);
        x.person(10002, 0, 0, NONE);
        for (int land = 1; land <= 5; land++) {
            x.law(land, 0, 30370001, 30);
        }
        x.law(0, 100, 30370001, 30);
        Due.is("law: none of age, kin or papers on the day ahead of the first", 0, x.against(0, 1, 99));
        x.post(0, 1);
        Due.is("law: none of notice", 0, x.ripe(0));
    }

    /** AGE 30, KIN 3, PAPERS 7, NAMES 2, VALID 400, NOTICE 30: each of them is asked. */
    private static void lawOfAllAtTheirGreatest() {
        WeddingRegister x = Office.of(1);
        x.person(1, 0, 0, NONE);
        x.person(1, 0, 0, NONE);
        x.person(1, 0, 1, NONE);
        x.person(1, 0, 2, NONE);
        x.person(1, -30000, NONE, NONE);
        x.post(3, 4);
        x.law(0, 0, 30372400, 30);
        Due.is("law: notice 30", 36, x.ripe(0));
        Due.is("law: too young on the day ahead of 30 years", 2, x.against(3, 4, 10949));
        Due.is("law: kin 3", 3, x.against(3, 4, 10950));
        Office.wait(x, 10551);
        for (int kind = 0; kind <= 2; kind++) {
            Due.is("law: too few papers", 4, x.against(0, 5, 10950));
            x.paper(0, kind, 10551);
            Due.is("law: a paper too few", 4, x.against(0, 5, 10950));
            x.paper(5, kind, 10551);
        }
        Due.is("law: all papers, on the last day of 400", 0, x.against(0, 5, 10950));
        Due.is("law: the papers are over", 4, x.against(0, 5, 10951));
    }

    private static void ageByYears() {
        for (int age : new int[] {1, 2, 18, 29, 30}) {
            WeddingRegister x = Office.of(2);
            x.law(0, 0, age * 1000000 + 1, 0);
            Due.is("age " + age + ": on the day of birth", 2, x.against(0, 1, 0));
            Due.is("age " + age + ": a day short", 2, x.against(0, 1, age * 365 - 1));
            Due.is("age " + age + ": over", 0, x.against(0, 1, age * 365));
        }
        WeddingRegister y = new WeddingRegister();
        y.person(1, -10950, NONE, NONE);
        y.person(1, -10949, NONE, NONE);
        y.person(1, -30000, NONE, NONE);
        y.law(0, 0, 30000001, 0);
        Due.is("age 30: over on day 0", 0, y.against(0, 2, 0));
        Due.is("age 30: a day short on day 0", 2, y.against(1, 2, 0));
        Due.is("age 30: over on day 1", 0, y.against(1, 2, 1));
        y.law(0, 0, 1, 0);
        y.person(1, 0, NONE, NONE);
        Due.is("age 0: on the day of birth", 0, y.against(2, 3, 0));
    }

    // ---- 3: person ----

    private static void persons() {
        personLands();
        personTongues();
        personNames();
        personWhoOdd();
        personBorn();
        personBornByNow();
        personBornOnLastDay();
        personParents();
        personsForty();
        personsRefusedDoNotCount();
    }

    private static void personLands() {
        WeddingRegister x = new WeddingRegister();
        for (int land = 0; land <= 5; land++) {
            Due.is("3: land " + land, land, x.person(land * 1000000 + 1, 0, NONE, NONE));
        }
        for (int land : new int[] {6, 7, 10, 60, 2147}) {
            Due.is("3: land " + land, NONE, x.person(land * 1000000 + 1, 0, NONE, NONE));
        }
    }

    private static void personTongues() {
        WeddingRegister x = new WeddingRegister();
        for (int tongues = 0; tongues <= 31; tongues++) {
            Due.is("3: tongues " + tongues, tongues, x.person(tongues * 10000 + 1, 0, NONE, NONE));
        }
        for (int tongues : new int[] {32, 33, 63, 64, 99}) {
            Due.is("3: tongues " + tongues, NONE, x.person(tongues * 10000 + 1, 0, NONE, NONE));
            Due.is("3: tongues " + tongues + " of land 5", NONE, x.person(5000001 + tongues * 10000, 0, NONE, NONE));
        }
    }

    private static void personNames() {
        WeddingRegister x = new WeddingRegister();
        Due.is("3: name 0", NONE, x.person(0, 0, NONE, NONE));
        Due.is("3: name 0 with a tongue (a name of 10000)", NONE, x.person(10000, 0, NONE, NONE));
        Due.is("3: name 0 with a land", NONE, x.person(1000000, 0, NONE, NONE));
        Due.is("3: name 0 with all else at its greatest", NONE, x.person(5310000, 0, NONE, NONE));
        Due.is("3: name 1", 0, x.person(1, 0, NONE, NONE));
        Due.is("3: name 9999", 1, x.person(9999, 0, NONE, NONE));
        Due.is("3: name 9999 with all else at its greatest", 2, x.person(5319999, 0, NONE, NONE));
    }

    private static void personWhoOdd() {
        WeddingRegister x = new WeddingRegister();
        for (int who : new int[] {-1, -9999, -10001, -1000001, Integer.MIN_VALUE, Integer.MAX_VALUE}) {
            Due.is("3: who " + who, NONE, x.person(who, 0, NONE, NONE));
        }
        Due.is("3: none came", 0, x.count(1));
    }

    private static void personBorn() {
        WeddingRegister x = new WeddingRegister();
        Due.is("3: born on -30000", 0, x.person(1, -30000, NONE, NONE));
        Due.is("3: born on -30001", NONE, x.person(1, -30001, NONE, NONE));
        Due.is("3: born on -1", 1, x.person(1, -1, NONE, NONE));
        Due.is("3: born on 0, which is NOW", 2, x.person(1, 0, NONE, NONE));
        Due.is("3: born on 1, behind NOW", NONE, x.person(1, 1, NONE, NONE));
        Due.is("3: born on the least number", NONE, x.person(1, Integer.MIN_VALUE, NONE, NONE));
        Due.is("3: born on the greatest number", NONE, x.person(1, Integer.MAX_VALUE, NONE, NONE));
    }

    private static void personBornByNow() {
        WeddingRegister x = new WeddingRegister();
        x.go(7);
        Due.is("3: born on 8", NONE, x.person(1, 8, NONE, NONE));
        Due.is("3: born on 7", 0, x.person(1, 7, NONE, NONE));
        x.go(1);
        Due.is("3: born on 8, which is NOW now", 1, x.person(1, 8, NONE, NONE));
    }

    private static void personBornOnLastDay() {
        WeddingRegister x = new WeddingRegister();
        Office.wait(x, LAST);
        Due.is("3: born on the last day", 0, x.person(1, LAST, NONE, NONE));
        Due.is("3: born behind the last day", NONE, x.person(1, LAST + 1, NONE, NONE));
        Due.is("3: born on -30000 still", 1, x.person(1, -30000, NONE, NONE));
    }

    private static void personParents() {
        WeddingRegister x = new WeddingRegister();
        Due.is("3: the first one's father can't be the one that comes", NONE, x.person(1, 0, 0, NONE));
        Due.is("3: nor the mother", NONE, x.person(1, 0, NONE, 0));
        Due.is("3: none of both", 0, x.person(1, 0, NONE, NONE));
        x.person(1, 0, NONE, NONE);
        for (int parent : Office.noneOf(2)) {
            if (parent != NONE) {
                Due.is("3: father " + parent, NONE, x.person(1, 0, parent, NONE));
                Due.is("3: mother " + parent, NONE, x.person(1, 0, NONE, parent));
                Due.is("3: mother " + parent + " with a father", NONE, x.person(1, 0, 0, parent));
                Due.is("3: both are " + parent, NONE, x.person(1, 0, parent, parent));
            }
        }
        Due.is("3: both are the first", NONE, x.person(1, 0, 0, 0));
        Due.is("3: both are the last", NONE, x.person(1, 0, 1, 1));
        Due.is("3: the first and the last", 2, x.person(1, 0, 0, 1));
        Due.is("3: the last one as a father alone", 3, x.person(1, 0, 2, NONE));
        Due.is("3: the last one as a mother alone", 4, x.person(1, 0, NONE, 3));
        Due.is("3: a parent may be born behind the child", 5, x.person(1, -30000, 4, NONE));
    }

    private static void personsForty() {
        WeddingRegister x = new WeddingRegister();
        for (int i = 0; i < 39; i++) {
            x.person(1, 0, NONE, NONE);
        }
        Due.is("3: the fortieth", 39, x.person(1, 0, 38, NONE));
        Due.is("3: the forty-first", NONE, x.person(1, 0, NONE, NONE));
        Due.is("3: the forty-first with a father", NONE, x.person(1, 0, 39, NONE));
        Due.is("3: forty came", 40, x.count(1));
        Due.is("3: the fortieth has kin", 1, x.kin(39, 38));
        Due.is("3: there is no forty-first", NONE, x.kin(40, 38));
        Due.yes("3: the fortieth is given papers", x.paper(39, 2, 0));
        Due.is("3: the fortieth can post", 0, x.post(39, 0));
        Due.is("3: the forty-first can't", NONE, x.post(40, 0));
    }

    private static void personsRefusedDoNotCount() {
        WeddingRegister x = Office.of(1);
        for (int i = 0; i < 50; i++) {
            x.person(0, 0, NONE, NONE);
            x.person(1, 1, NONE, NONE);
            x.person(1, 0, 0, 0);
        }
        for (int i = 1; i < 40; i++) {
            Due.is("3: person " + i + " though others were refused", i, x.person(1, 0, NONE, NONE));
        }
        Due.is("3: no one more", NONE, x.person(1, 0, NONE, NONE));
    }

    // ---- 4: paper ----

    private static void papers() {
        paperPersons();
        paperKinds();
        paperDays();
        paperOnLastDay();
        paperBits();
        paperValidOneDay();
        paperValidLongest();
        paperByLawOfTheDay();
        paperAnyOfTheKind();
        papersTwoHundred();
        papersRefusedDoNotCount();
    }

    private static void paperPersons() {
        WeddingRegister x = Office.of(3);
        Due.yes("4: the first person", x.paper(0, 0, 0));
        Due.yes("4: the last person", x.paper(2, 0, 0));
        for (int person : Office.noneOf(3)) {
            Due.no("4: person " + person, x.paper(person, 0, 0));
        }
    }

    private static void paperKinds() {
        WeddingRegister x = Office.of(1);
        for (int kind = 0; kind <= 2; kind++) {
            Due.yes("4: kind " + kind, x.paper(0, kind, 0));
        }
        for (int kind : Office.noneOf(3)) {
            Due.no("4: kind " + kind, x.paper(0, kind, 0));
        }
    }

    private static void paperDays() {
        WeddingRegister x = Office.of(1);
        Due.yes("4: day 0, which is NOW", x.paper(0, 0, 0));
        Due.no("4: day 1, behind NOW", x.paper(0, 0, 1));
        x.go(5);
        Due.yes("4: day 0, long ahead", x.paper(0, 0, 0));
        Due.yes("4: day 5, which is NOW", x.paper(0, 0, 5));
        for (int day : Office.noneOf(6)) {
            Due.no("4: day " + day, x.paper(0, 0, day));
        }
    }

    private static void paperOnLastDay() {
        WeddingRegister x = Office.of(2);
        x.law(0, 0, 10400, 0);
        Office.wait(x, LAST);
        x.paper(1, 0, LAST);
        Due.yes("4: the last day", x.paper(0, 0, LAST));
        Due.no("4: behind the last day", x.paper(0, 0, LAST + 1));
        Due.is("4: it holds on the last day", 0, x.against(0, 1, LAST));
        Due.is("4: it doesn't hold ahead of it", 4, x.against(0, 1, LAST - 1));
    }

    /** A bit of PAPERS wants its own kind alone. */
    private static void paperBits() {
        for (int bits = 0; bits <= 7; bits++) {
            for (int held = 0; held <= 7; held++) {
                WeddingRegister x = new WeddingRegister();
                x.person(1, 0, NONE, NONE);
                x.person(1000001, 0, NONE, NONE);
                x.law(0, 0, bits * 10000 + 1, 0);
                for (int kind = 0; kind <= 2; kind++) {
                    if ((held >> kind & 1) != 0) {
                        x.paper(0, kind, 0);
                    }
                }
                Due.is("papers wanted " + bits + ", held " + held, (bits & ~held) != 0 ? 4 : 0, x.against(0, 1, 0));
            }
        }
    }

    private static WeddingRegister onePaper(int valid) {
        WeddingRegister x = new WeddingRegister();
        x.person(1, 0, NONE, NONE);
        x.person(1000001, 0, NONE, NONE);
        x.law(0, 0, 10000 + valid, 0);
        x.go(10);
        x.paper(0, 0, 10);
        return x;
    }

    private static void paperValidOneDay() {
        WeddingRegister x = onePaper(1);
        Due.is("valid 1: the day ahead of that on which it was given", 4, x.against(0, 1, 9));
        Due.is("valid 1: the day on which it was given", 0, x.against(0, 1, 10));
        Due.is("valid 1: the day behind it", 4, x.against(0, 1, 11));
    }

    private static void paperValidLongest() {
        WeddingRegister x = onePaper(400);
        Due.is("valid 400: the day ahead of that on which it was given", 4, x.against(0, 1, 9));
        Due.is("valid 400: the day on which it was given", 0, x.against(0, 1, 10));
        Due.is("valid 400: the last day", 0, x.against(0, 1, 409));
        Due.is("valid 400: it is over", 4, x.against(0, 1, 410));
    }

    private static void paperByLawOfTheDay() {
        WeddingRegister x = onePaper(400);
        x.law(0, 20, 10010, 0);
        Due.is("valid: by the law ahead", 0, x.against(0, 1, 19));
        Due.is("valid: by the law of the day on which it is asked", 4, x.against(0, 1, 20));
        x.law(0, 20, 10011, 0);
        Due.is("valid: a day more", 0, x.against(0, 1, 20));
        Due.is("valid: but not two", 4, x.against(0, 1, 21));
    }

    private static void paperAnyOfTheKind() {
        WeddingRegister x = onePaper(5);
        x.go(4);
        x.paper(0, 0, 14);
        x.paper(0, 0, 0);
        Due.is("papers: the first one holds", 0, x.against(0, 1, 13));
        Due.is("papers: both hold", 0, x.against(0, 1, 14));
        Due.is("papers: the second one holds", 0, x.against(0, 1, 18));
        Due.is("papers: none holds any more", 4, x.against(0, 1, 19));
        Due.is("papers: the third one holds on its days", 0, x.against(0, 1, 4));
        Due.is("papers: none holds between", 4, x.against(0, 1, 5));
    }

    private static void papersTwoHundred() {
        WeddingRegister x = Office.of(2);
        x.law(0, 0, 20001, 0);
        x.paper(1, 1, 0);
        for (int i = 1; i < 199; i++) {
            Due.yes("4: paper " + i, x.paper(0, 0, 0));
        }
        Due.is("4: none of the wanted kind yet", 4, x.against(0, 1, 0));
        Due.yes("4: the two hundredth", x.paper(0, 1, 0));
        Due.is("4: the two hundredth holds", 0, x.against(0, 1, 0));
        for (int kind = 0; kind <= 2; kind++) {
            Due.no("4: one more of the first", x.paper(0, kind, 0));
            Due.no("4: one more of the second", x.paper(1, kind, 0));
        }
    }

    private static void papersRefusedDoNotCount() {
        WeddingRegister x = Office.of(1);
        for (int i = 0; i < 70; i++) {
            x.paper(1, 0, 0);
            x.paper(0, 3, 0);
            x.paper(0, 0, 1);
        }
        for (int i = 0; i < 200; i++) {
            Due.yes("4: paper " + i + " though others were refused", x.paper(0, i % 3, 0));
        }
        Due.no("4: the two hundred and first", x.paper(0, 0, 0));
    }

    // ---- 5: feast ----

    private static void feasts() {
        feastDays();
        feastsOfTheWeek();
        feastsTwice();
        feastsManyInARow();
    }

    private static void feastDays() {
        WeddingRegister x = new WeddingRegister();
        Due.yes("5: the first day", x.feast(0));
        Due.yes("5: the last day", x.feast(LAST));
        for (int day : Office.noneOf(LAST + 1)) {
            Due.no("5: day " + day, x.feast(day));
        }
        x.go(10);
        Due.yes("5: a day ahead of NOW", x.feast(9));
        Due.yes("5: NOW", x.feast(10));
    }

    private static void feastsOfTheWeek() {
        WeddingRegister x = new WeddingRegister();
        for (int day = 0; day <= 21; day++) {
            boolean weekly = day == 6 || day == 13 || day == 20;
            Due.is("5: day " + day, weekly ? 0 : 1, x.feast(day) ? 1 : 0);
        }
        Due.no("5: the last weekly one", x.feast(19998));
        Due.yes("5: the day ahead of it", x.feast(19997));
        Due.yes("5: the day behind it", x.feast(19999));
    }

    private static void feastsTwice() {
        WeddingRegister x = new WeddingRegister();
        for (int day : new int[] {0, 63, 64, 127, 128, LAST}) {
            Due.yes("5: day " + day, x.feast(day));
            Due.no("5: day " + day + " again", x.feast(day));
        }
        Due.yes("5: the day behind a told one", x.feast(1));
        Due.yes("5: the day ahead of a told one", x.feast(19999));
    }

    /** No limit of their number is told: all days up to 560 are feasts here. */
    private static void feastsManyInARow() {
        WeddingRegister x = Office.of(2);
        x.law(0, 0, 1, 30);
        x.post(0, 1);
        for (int day = 1; day <= 560; day++) {
            if (day % 7 != 6) {
                x.feast(day);
            }
        }
        Due.no("5: the last one told is a feast", x.feast(560));
        Due.is("5: it hasn't hung on one of them", 0, x.hung(0, 561));
        Due.is("5: it has hung on the day behind them", 1, x.hung(0, 562));
        Due.is("5: ripe far behind them", 596, x.ripe(0));
    }

    // ---- 6: go ----

    private static void days() {
        goSteps();
        goToLastDay();
        goBeyondLastDay();
        goOddOnLastDay();
    }

    private static void goSteps() {
        WeddingRegister x = new WeddingRegister();
        Due.is("6: go(0)", 0, x.go(0));
        Due.is("6: go(1)", 1, x.go(1));
        Due.is("6: go(400)", 401, x.go(400));
        for (int n : Office.noneOf(401)) {
            Due.is("6: go(" + n + ")", NONE, x.go(n));
            Due.is("6: NOW stays", 401, x.count(0));
        }
    }

    private static void goToLastDay() {
        WeddingRegister x = new WeddingRegister();
        Office.wait(x, 19600);
        Due.is("6: just to the last day", LAST, x.go(400));
        Due.is("6: NOW", LAST, x.count(0));
    }

    private static void goBeyondLastDay() {
        WeddingRegister x = new WeddingRegister();
        Office.wait(x, 19601);
        Due.is("6: 20000 at most", LAST, x.go(400));
        Due.is("6: NOW", LAST, x.count(0));
        Due.is("6: a day more", LAST, x.go(1));
        Due.is("6: the longest wait more", LAST, x.go(400));
        Due.is("6: NOW stays", LAST, x.count(0));
    }

    private static void goOddOnLastDay() {
        WeddingRegister x = new WeddingRegister();
        Office.wait(x, 19999);
        Due.is("6: go(0) ahead of the last day", 19999, x.go(0));
        Due.is("6: go(1)", LAST, x.go(1));
        Due.is("6: go(0)", LAST, x.go(0));
        for (int n : Office.noneOf(401)) {
            Due.is("6: go(" + n + ") on the last day", NONE, x.go(n));
        }
    }

    // ---- 7: kin ----

    private static void kin() {
        kinOfNobody();
        kinWithoutParents();
        kinOneWays();
        kinTwoByGrandparents();
        kinTwoByAunts();
        kinThreeWays();
        kinLeast();
        kinTooFar();
    }

    private static void both(String what, WeddingRegister x, int a, int b, int want) {
        Due.is(what, want, x.kin(a, b));
        Due.is(what + ", the other way", want, x.kin(b, a));
    }

    private static void kinOfNobody() {
        WeddingRegister x = Office.of(3);
        both("7: the first and the last", x, 0, 2, 0);
        for (int number : Office.noneOf(3)) {
            both("7: nobody " + number, x, 0, number, NONE);
            Due.is("7: nobody twice", NONE, x.kin(number, number));
        }
        for (int number = 0; number < 3; number++) {
            Due.is("7: both are one", NONE, x.kin(number, number));
        }
    }

    /** Two without a father have none in common. */
    private static void kinWithoutParents() {
        WeddingRegister x = Office.of(4);
        both("7: no parents", x, 0, 1, 0);
        x.person(1, 0, 0, NONE);
        x.person(1, 0, 1, NONE);
        both("7: both without a mother", x, 4, 5, 0);
        x.person(1, 0, NONE, 2);
        x.person(1, 0, NONE, 3);
        both("7: both without a father", x, 6, 7, 0);
        both("7: one without a father, one without a mother", x, 4, 6, 0);
    }

    /** A child of parent 0: as a father (0) or as a mother (1). */
    private static int child(WeddingRegister x, int parent, int as) {
        return as == 0 ? x.person(1, 0, parent, NONE) : x.person(1, 0, NONE, parent);
    }

    private static void kinOneWays() {
        WeddingRegister x = Office.of(2);
        both("7: father", x, 0, child(x, 0, 0), 1);
        both("7: mother", x, 1, child(x, 1, 1), 1);
        both("7: a father in common", x, 2, child(x, 0, 0), 1);
        both("7: a mother in common", x, 3, child(x, 1, 1), 1);
        both("7: the father of one is the mother of the other one", x, 2, child(x, 0, 1), 0);
        both("7: both parents of one are the other one's the other way", x, x.person(1, 0, 0, 1), x.person(1, 0, 1, 0), 0);
        both("7: both parents in common", x, x.person(1, 0, 0, 1), 7, 1);
    }

    private static void kinTwoByGrandparents() {
        for (int way = 0; way < 4; way++) {
            WeddingRegister x = Office.of(1);
            int parent = child(x, 0, way & 1);
            both("7: a grandparent by way " + way, x, 0, child(x, parent, way >> 1), 2);
        }
    }

    private static void kinTwoByAunts() {
        for (int way = 0; way < 8; way++) {
            WeddingRegister x = Office.of(1);
            int parent = child(x, 0, way & 1);
            int aunt = child(x, 0, way >> 1 & 1);
            boolean alike = (way & 1) == (way >> 1 & 1);
            both("7: a parent's kin by way " + way, x, aunt, child(x, parent, way >> 2), alike ? 2 : 0);
        }
    }

    private static void kinThreeWays() {
        for (int way = 0; way < 16; way++) {
            WeddingRegister x = Office.of(1);
            int one = child(x, 0, way & 1);
            int other = child(x, 0, way >> 1 & 1);
            boolean alike = (way & 1) == (way >> 1 & 1);
            both("7: cousins by way " + way, x, child(x, one, way >> 2 & 1), child(x, other, way >> 3), alike ? 3 : 0);
        }
    }

    private static void kinLeast() {
        WeddingRegister x = Office.of(2);
        x.person(1, 0, 1, NONE);
        x.person(1, 0, 1, NONE);
        int one = x.person(1, 0, 0, 2);
        int uncle = x.person(1, 0, 0, NONE);
        both("7: 2 by a father, 3 by the mothers", x, one, x.person(1, 0, uncle, 3), 2);
        both("7: 1 by a father, 3 by the mothers", x, one, x.person(1, 0, 0, 3), 1);
        both("7: a father and the mother's father", x, 0, x.person(1, 0, 0, uncle), 1);
        both("7: a mother who is the father's kin too", x, 2, x.person(1, 0, 3, 2), 1);
        both("7: a mother's mother, and 2 by the father", x, 2, x.person(1, 0, 3, one), 2);
    }

    private static void kinTooFar() {
        WeddingRegister x = Office.of(2);
        x.person(1, 0, 0, NONE);
        x.person(1, 0, 2, NONE);
        both("7: three steps up", x, 0, x.person(1, 0, 3, NONE), 0);
        x.person(1, 0, 0, NONE);
        both("7: a grandparent's kin", x, 5, 4, 0);
        x.person(1, 0, 5, NONE);
        both("7: cousins", x, 6, 3, 3);
        both("7: a cousin's child", x, 6, 4, 0);
        both("7: the other parent of one's child", x, 0, 1, 0);
    }

    // ---- 8: against ----

    private static void against() {
        againstDays();
        againstNobody();
        againstFirstOfAll();
        againstMarriedNow();
        barsByLaw();
        barsByOneLand();
        eachOfBothIsAsked();
    }

    private static void againstDays() {
        WeddingRegister x = Office.of(2);
        x.go(400);
        Due.is("8: the first day, ahead of NOW", 0, x.against(0, 1, 0));
        Due.is("8: the last day", 0, x.against(0, 1, LAST));
        for (int day : Office.noneOf(LAST + 1)) {
            Due.is("8: day " + day, NONE, x.against(0, 1, day));
        }
    }

    private static void againstNobody() {
        WeddingRegister x = Office.of(2);
        x.law(0, 0, 30370001, 30);
        for (int number : Office.noneOf(2)) {
            Due.is("8: nobody " + number, NONE, x.against(number, 0, 0));
            Due.is("8: nobody " + number + " as the second", NONE, x.against(0, number, 0));
            Due.is("8: nobody twice", NONE, x.against(number, number, 0));
        }
        Due.is("8: both are the first", NONE, x.against(0, 0, 0));
        Due.is("8: both are the last", NONE, x.against(1, 1, 0));
    }

    /** All four stand against 0 and 2 on day 0; one after the other falls away. */
    private static void againstFirstOfAll() {
        WeddingRegister x = Office.withEntry(10001, 10002);
        x.person(10003, 0, 0, NONE);
        x.law(0, 0, 30170001, 0);
        Due.is("8: all four: the first", 1, x.against(0, 2, 0));
        x.part(0);
        Due.is("8: three of them: the second", 2, x.against(0, 2, 0));
        x.law(0, 0, 170001, 0);
        Due.is("8: two of them: the third", 3, x.against(0, 2, 0));
        x.law(0, 0, 70001, 0);
        Due.is("8: one of them: the fourth", 4, x.against(0, 2, 0));
        x.law(0, 0, 1, 0);
        Due.is("8: nothing", 0, x.against(0, 2, 0));
    }

    private static void againstMarriedNow() {
        WeddingRegister x = Office.of(3);
        x.registrar(1);
        x.go(10);
        x.post(0, 1);
        x.book(0, 10, 800);
        Due.is("8: ahead of the wedding", 0, x.against(0, 2, 10));
        x.wed(0);
        for (int day : new int[] {0, 9, 10, 11, LAST}) {
            Due.is("8: the first is married, day " + day, 1, x.against(0, 2, day));
            Due.is("8: the second is married, day " + day, 1, x.against(2, 1, day));
            Due.is("8: to one another, day " + day, 1, x.against(0, 1, day));
        }
        x.part(1);
        Due.is("8: married on a day, but not NOW", 0, x.against(0, 2, 10));
    }

    /** KIN of 1, 2 and 3 against each KIN of a law. */
    private static void barsByLaw() {
        WeddingRegister x = Office.of(2);
        x.person(1, 0, 0, NONE);
        x.person(1, 0, 0, NONE);
        x.person(1, 0, 2, NONE);
        x.person(1, 0, 3, NONE);
        int[][] pairs = {{0, 1, 0}, {2, 3, 1}, {2, 5, 2}, {4, 5, 3}};
        for (int bars = 0; bars <= 3; bars++) {
            x.law(0, 0, bars * 100000 + 1, 0);
            for (int[] pair : pairs) {
                boolean barred = pair[2] != 0 && pair[2] <= bars;
                Due.is("8: kin " + pair[2] + " by a law of " + bars, barred ? 3 : 0, x.against(pair[0], pair[1], 0));
            }
        }
    }

    private static void barsByOneLand() {
        WeddingRegister x = Office.of(1);
        x.person(1, 0, 0, NONE);
        x.person(1000001, 0, 0, NONE);
        Due.is("8: by no land", 0, x.against(1, 2, 0));
        x.law(0, 0, 100001, 0);
        Due.is("8: by the first one's land", 3, x.against(1, 2, 0));
        Due.is("8: by the second one's land", 3, x.against(2, 1, 0));
        x.law(1, 0, 1, 0);
        Due.is("8: though the other land's law bars nothing", 3, x.against(1, 2, 0));
        x.law(0, 0, 1, 0);
        x.law(2, 0, 300001, 0);
        Due.is("8: a third land's law bars nothing", 0, x.against(1, 2, 0));
    }

    private static void eachOfBothIsAsked() {
        WeddingRegister x = new WeddingRegister();
        x.person(1, 0, NONE, NONE);
        x.person(1000001, 0, NONE, NONE);
        x.law(0, 0, 1000001, 0);
        Due.is("8: the first is too young", 2, x.against(0, 1, 364));
        Due.is("8: the second is too young", 2, x.against(1, 0, 364));
        Due.is("8: none is", 0, x.against(0, 1, 365));
        x.law(1, 0, 10001, 0);
        Due.is("8: the second lacks a paper", 4, x.against(0, 1, 365));
        Due.is("8: the first lacks a paper", 4, x.against(1, 0, 365));
        Due.is("8: one too young, the other one without a paper", 2, x.against(1, 0, 364));
    }
}
