/** Promises 1 to 8: the new object, laws, persons, papers, feasts, days, kin, and what stands against two. */
public final class PersonsTest {
    private static final int NONE = WeddingRegister.NONE;

    public static void main(String[] args) {
        newObject();
        lawsThatCanBe();
        lawInForce();
        lawsAtMost();
        personsThatCanBe();
        personsAtMost();
        papers();
        papersAtMost();
        feasts();
        days();
        kin();
        kinByParentsInBothParts();
        kinByOneParent();
        againstInOrder();
        againstAge();
        againstKin();
        againstPapers();
        againstWrong();
        Due.end("PersonsTest");
    }

    private static void newObject() {
        WeddingRegister x = new WeddingRegister();
        for (int what = 0; what <= 5; what++) {
            Due.is("new: count(" + what + ")", 0, x.count(what));
        }
        Due.is("new: married(0)", NONE, x.married(0));
        Due.is("new: kin(0, 1)", NONE, x.kin(0, 1));
        Due.is("new: told(0, 0)", NONE, x.told(0, 0));
        Due.is("new: entry(0, 0, 0)", NONE, x.entry(0, 0, 0));
        x.person(10001, 0, NONE, NONE);
        WeddingRegister y = new WeddingRegister();
        Due.is("objects stand apart", 0, y.count(1));
    }

    private static void lawsThatCanBe() {
        WeddingRegister x = new WeddingRegister();
        Due.yes("law least", x.law(0, 0, 1, 0));
        Due.yes("law greatest", x.law(5, 20000, 30372400, 30));
        Due.no("land 6", x.law(6, 0, 1, 0));
        Due.no("day 20001", x.law(0, 20001, 1, 0));
        Due.no("age 31", x.law(0, 0, 31000001, 0));
        Due.no("kin 4", x.law(0, 0, 400001, 0));
        Due.no("papers 8", x.law(0, 0, 80001, 0));
        Due.no("names 3", x.law(0, 0, 3001, 0));
        Due.no("valid 0", x.law(0, 0, 0, 0));
        Due.no("valid 0 of an aged law", x.law(0, 0, 18000000, 0));
        Due.no("valid 401", x.law(0, 0, 401, 0));
        Due.no("valid 999", x.law(0, 0, 999, 0));
        Due.no("notice 31", x.law(0, 0, 1, 31));
        for (int odd : Office.ODD_NUMBERS) {
            Due.no("odd land " + odd, x.law(odd, 0, 1, 0));
            Due.no("odd day " + odd, x.law(0, odd, 1, 0));
            Due.no("odd what " + odd, x.law(0, 0, odd, 0));
            Due.no("odd notice " + odd, x.law(0, 0, 1, odd));
        }
    }

    private static void lawInForce() {
        WeddingRegister x = Office.of(2);
        x.post(0, 1);
        x.law(0, 10, 1, 7);
        x.law(0, 20, 1, 0);
        x.law(0, 5, 1001, 4);
        x.law(1, 0, 30000001, 0);
        Due.is("no law ahead of day 5", 0, x.against(0, 1, 4));
        Due.is("ripe before any law", 0, x.ripe(0));
        x.law(0, 0, 1, 30);
        Due.is("ripe by the law of day 5 told ahead of that of day 0", 5, x.ripe(0));
        x.law(0, 5, 1, 5);
        Due.is("the latest told of day 5 is in force", 6, x.ripe(0));
        x.law(0, 5, 1, 30);
        Due.is("and then the law of day 10, hung 8 by then", 10, x.ripe(0));
        x.law(0, 10, 1, 30);
        Due.is("and then that of day 20", 20, x.ripe(0));
    }

    private static void lawsAtMost() {
        WeddingRegister x = new WeddingRegister();
        for (int i = 0; i < 60; i++) {
            x.law(7, 0, 1, 0);
            Due.yes("law " + i, x.law(i % 6, i, 1, 0));
        }
        Due.no("law 60", x.law(0, 0, 1, 0));
    }

    private static void personsThatCanBe() {
        WeddingRegister x = new WeddingRegister();
        Due.is("least", 0, x.person(1, -30000, NONE, NONE));
        Due.is("greatest", 1, x.person(5319999, 0, NONE, NONE));
        Due.is("with a father", 2, x.person(1, 0, 0, NONE));
        Due.is("with a mother", 3, x.person(1, 0, NONE, 1));
        Due.is("with both", 4, x.person(1, 0, 0, 1));
        Due.is("land 6", NONE, x.person(6010001, 0, NONE, NONE));
        Due.is("tongues 32", NONE, x.person(320001, 0, NONE, NONE));
        Due.is("tongues 99", NONE, x.person(990001, 0, NONE, NONE));
        Due.is("name 0", NONE, x.person(10000, 0, NONE, NONE));
        Due.is("born -30001", NONE, x.person(1, -30001, NONE, NONE));
        Due.is("born 1", NONE, x.person(1, 1, NONE, NONE));
        Due.is("father 5", NONE, x.person(1, 0, 5, NONE));
        Due.is("mother 5", NONE, x.person(1, 0, NONE, 5));
        Due.is("father -2", NONE, x.person(1, 0, -2, NONE));
        Due.is("mother -2", NONE, x.person(1, 0, NONE, -2));
        Due.is("both are one", NONE, x.person(1, 0, 3, 3));
        for (int odd : Office.ODD_NUMBERS) {
            Due.is("odd who " + odd, NONE, x.person(odd, 0, NONE, NONE));
            Due.is("odd born " + odd, odd < 0 && odd >= -30000 ? x.count(1) : NONE, x.person(1, odd, NONE, NONE));
            if (odd != NONE) {
                Due.is("odd father " + odd, NONE, x.person(1, 0, odd, NONE));
                Due.is("odd mother " + odd, NONE, x.person(1, 0, NONE, odd));
            }
        }
        x.go(3);
        Due.is("born NOW", 8, x.person(1, 3, NONE, NONE));
        Due.is("born behind NOW", NONE, x.person(1, 4, NONE, NONE));
        Due.is("count", 9, x.count(1));
    }

    private static void personsAtMost() {
        WeddingRegister x = new WeddingRegister();
        for (int i = 0; i < 40; i++) {
            Due.is("person " + i, i, x.person(1, 0, NONE, NONE));
        }
        Due.is("person 40", NONE, x.person(1, 0, NONE, NONE));
        Due.is("count", 40, x.count(1));
    }

    private static void papers() {
        WeddingRegister x = Office.of(2);
        x.go(5);
        Due.yes("given on 0", x.paper(0, 0, 0));
        Due.yes("given NOW", x.paper(1, 2, 5));
        Due.no("given behind NOW", x.paper(0, 0, 6));
        Due.no("kind 3", x.paper(0, 3, 0));
        Due.no("person 2", x.paper(2, 0, 0));
        for (int odd : Office.ODD_NUMBERS) {
            Due.no("odd person " + odd, x.paper(odd, 0, 0));
            Due.no("odd kind " + odd, x.paper(0, odd, 0));
            Due.no("odd day " + odd, x.paper(0, 0, odd));
        }
    }

    private static void papersAtMost() {
        WeddingRegister x = Office.of(2);
        for (int i = 0; i < 200; i++) {
            x.paper(0, 3, 0);
            Due.yes("paper " + i, x.paper(i % 2, 1 + i % 2, 0));
        }
        Due.no("paper 200", x.paper(0, 0, 0));
        x.law(0, 0, 10001, 0);
        Due.is("the one refused doesn't hold", 4, x.against(0, 1, 0));
    }

    private static void feasts() {
        WeddingRegister x = Office.of(2);
        Due.yes("feast(0)", x.feast(0));
        Due.no("feast(0) again", x.feast(0));
        Due.no("feast(6)", x.feast(6));
        Due.no("feast(13)", x.feast(13));
        Due.no("feast(19998), rest 6", x.feast(19998));
        Due.yes("feast(20000)", x.feast(20000));
        Due.no("feast(20000) again", x.feast(20000));
        Due.no("feast(20001)", x.feast(20001));
        for (int odd : Office.ODD_NUMBERS) {
            Due.no("odd feast " + odd, x.feast(odd));
        }
        x.go(10);
        Due.yes("a day that is over", x.feast(5));
        Due.yes("63", x.feast(63));
        Due.yes("64", x.feast(64));
        Due.no("63 again", x.feast(63));
        x.post(0, 1);
        Due.is("both feasts count, as 65 begins", 65 - 11 - 8 - 2, x.hung(0, 65));
        Due.is("one of them, as 64 begins", 64 - 11 - 8 - 1, x.hung(0, 64));
        Due.is("none of them, as 63 begins", 63 - 11 - 8, x.hung(0, 63));
    }

    private static void days() {
        WeddingRegister x = new WeddingRegister();
        Due.is("go(0)", 0, x.go(0));
        Due.is("go(400)", 400, x.go(400));
        Due.is("go(401)", NONE, x.go(401));
        for (int odd : Office.ODD_NUMBERS) {
            Due.is("odd go " + odd, NONE, x.go(odd));
        }
        Due.is("refused ones change nothing", 400, x.count(0));
        Office.wait(x, 19590);
        Due.is("near the end", 19990, x.count(0));
        Due.is("go(9)", 19999, x.go(9));
        Due.is("go(400) stops at the last day", 20000, x.go(400));
        Due.is("go(0) on the last day", 20000, x.go(0));
        Due.is("go(401) on the last day", NONE, x.go(401));
    }

    /** 0 and 1; their children 2 and 3; 4 of 2 with 8, 5 of 3; 6 of 4; 7 of 5; 8 a stranger. */
    private static WeddingRegister family() {
        WeddingRegister x = Office.of(2);
        x.person(1, 0, 0, 1);
        x.person(1, 0, 0, NONE);
        x.person(1, 0, NONE, 2);
        x.person(1, 0, 3, NONE);
        x.person(1, 0, 4, NONE);
        x.person(1, 0, NONE, 5);
        x.person(1, 0, NONE, NONE);
        return x;
    }

    private static void kinBothWays(WeddingRegister x, int a, int b, int want) {
        Due.is("kin(" + a + ", " + b + ")", want, x.kin(a, b));
        Due.is("kin(" + b + ", " + a + ")", want, x.kin(b, a));
    }

    private static void kin() {
        WeddingRegister x = family();
        kinBothWays(x, 0, 2, 1);
        kinBothWays(x, 1, 2, 1);
        kinBothWays(x, 2, 3, 1);
        kinBothWays(x, 0, 4, 2);
        kinBothWays(x, 1, 4, 2);
        kinBothWays(x, 3, 4, 2);
        kinBothWays(x, 2, 5, 2);
        kinBothWays(x, 4, 5, 3);
        kinBothWays(x, 6, 5, 0);
        kinBothWays(x, 6, 7, 0);
        kinBothWays(x, 0, 6, 0);
        kinBothWays(x, 3, 6, 0);
        kinBothWays(x, 0, 1, 0);
        kinBothWays(x, 1, 3, 0);
        kinBothWays(x, 8, 4, 0);
        Due.is("one", NONE, x.kin(4, 4));
        kinBothWays(x, 0, 9, NONE);
        for (int odd : Office.ODD_NUMBERS) {
            kinBothWays(x, 0, odd, NONE);
        }
    }

    /** A person can be one's father and another one's mother: that is no parent in common. */
    private static void kinByParentsInBothParts() {
        WeddingRegister x = Office.of(2);
        x.person(1, 0, 0, NONE);
        x.person(1, 0, NONE, 0);
        kinBothWays(x, 2, 3, 0);
        x.person(1, 0, 2, NONE);
        x.person(1, 0, NONE, 2);
        kinBothWays(x, 4, 5, 0);
        x.person(1, 0, NONE, 1);
        x.person(1, 0, 2, 6);
        x.person(1, 0, NONE, 1);
        kinBothWays(x, 7, 8, 2);
        kinBothWays(x, 1, 7, 2);
        x.person(1, 0, 8, 2);
        kinBothWays(x, 7, 9, 3);
    }

    /** Cousins have two parents who are kin: one who is the father of one and the mother of the other isn't two. */
    private static void kinByOneParent() {
        WeddingRegister x = Office.of(2);
        x.person(1, 0, 0, 1);
        x.person(1, 0, 2, 0);
        x.person(1, 0, NONE, 2);
        kinBothWays(x, 3, 4, 0);
        x.law(0, 0, 300001, 0);
        Due.is("nothing stands against them", 0, x.against(3, 4, 0));
        Due.is("nor the other way", 0, x.against(4, 3, 0));
        x.person(1, 0, 0, NONE);
        x.person(1, 0, 5, 2);
        kinBothWays(x, 3, 6, 3);
        Due.is("cousins by another parent too", 3, x.against(3, 6, 0));
        kinBothWays(x, 4, 6, 1);
        kinBothWays(x, 4, 5, 2);
        x.person(1, 0, 5, 1);
        kinBothWays(x, 4, 7, 2);
        x.person(1, 0, 7, NONE);
        kinBothWays(x, 4, 8, 3);
        kinBothWays(x, 3, 8, 3);
    }

    private static void againstInOrder() {
        WeddingRegister x = Office.of(2);
        x.person(10003, 0, 0, 1);
        x.registrar(1);
        x.post(0, 1);
        x.book(0, 0, 800);
        x.wed(0);
        x.law(0, 0, 1310001, 0);
        Due.is("married comes first", 1, x.against(0, 2, 0));
        Due.is("married, the other way", 1, x.against(2, 0, 0));
        Due.is("married is asked as it is NOW", 1, x.against(0, 2, 20000));
        x.part(0);
        Due.is("then too young", 2, x.against(0, 2, 0));
        Due.is("then kin", 3, x.against(0, 2, 365));
        Due.is("then papers", 4, x.against(0, 1, 365));
        x.law(0, 365, 1, 0);
        Due.is("then nothing", 0, x.against(0, 2, 365));
    }

    private static void againstAge() {
        WeddingRegister x = new WeddingRegister();
        x.person(10001, -100, NONE, NONE);
        x.person(1010002, -30000, NONE, NONE);
        x.law(0, 0, 18000001, 0);
        Due.is("a day short", 2, x.against(0, 1, 18 * 365 - 101));
        Due.is("a day short, the other way", 2, x.against(1, 0, 18 * 365 - 101));
        Due.is("the years are over", 0, x.against(0, 1, 18 * 365 - 100));
        x.law(1, 0, 30000001, 0);
        Due.is("each by their land's law", 0, x.against(0, 1, 18 * 365 - 100));
        x.law(0, 6471, 30000001, 0);
        Due.is("by the law of the day ahead", 0, x.against(0, 1, 6470));
        Due.is("by the law of the day", 2, x.against(0, 1, 6471));
    }

    private static void againstKin() {
        WeddingRegister x = family();
        x.person(1000001, 0, 2, NONE);
        int[][] pairs = {{2, 3, 1}, {3, 4, 2}, {4, 5, 3}, {9, 5, 3}, {9, 3, 2}};
        for (int bars = 0; bars <= 3; bars++) {
            x.law(0, bars, bars * 100000 + 1, 0);
            for (int[] pair : pairs) {
                int want = pair[2] <= bars ? 3 : 0;
                Due.is("kin " + pair[2] + " by " + bars, want, x.against(pair[0], pair[1], bars));
                Due.is("kin " + pair[2] + " by " + bars + " back", want, x.against(pair[1], pair[0], bars));
            }
            Due.is("no kin by " + bars, 0, x.against(0, 1, bars));
        }
    }

    private static void againstPapers() {
        WeddingRegister x = new WeddingRegister();
        x.person(10001, 0, NONE, NONE);
        x.person(1010002, 0, NONE, NONE);
        x.law(0, 0, 50010, 0);
        x.go(100);
        x.paper(0, 0, 20);
        x.paper(0, 1, 20);
        Due.is("one of two kinds", 4, x.against(0, 1, 20));
        x.paper(1, 2, 20);
        Due.is("another one's paper", 4, x.against(0, 1, 20));
        x.paper(0, 2, 25);
        Due.is("ahead of the second", 4, x.against(0, 1, 24));
        Due.is("both", 0, x.against(0, 1, 25));
        Due.is("both, the other way", 0, x.against(1, 0, 25));
        Due.is("the last day of the first", 0, x.against(0, 1, 29));
        Due.is("the first is over", 4, x.against(0, 1, 30));
        x.paper(0, 0, 28);
        Due.is("a new one", 0, x.against(0, 1, 34));
        Due.is("the second is over", 4, x.against(0, 1, 35));
        x.law(0, 35, 50011, 0);
        Due.is("by the law of the day", 0, x.against(0, 1, 35));
        x.law(1, 0, 20001, 0);
        Due.is("the other land's law", 4, x.against(0, 1, 35));
        x.paper(1, 1, 35);
        Due.is("valid for the day", 0, x.against(0, 1, 35));
    }

    private static void againstWrong() {
        WeddingRegister x = Office.of(2);
        Due.is("day 20000", 0, x.against(0, 1, 20000));
        Due.is("day 20001", NONE, x.against(0, 1, 20001));
        Due.is("one", NONE, x.against(1, 1, 0));
        Due.is("person 2", NONE, x.against(0, 2, 0));
        for (int odd : Office.ODD_NUMBERS) {
            Due.is("odd a " + odd, NONE, x.against(odd, 1, 0));
            Due.is("odd b " + odd, NONE, x.against(0, odd, 0));
            Due.is("odd day " + odd, NONE, x.against(0, 1, odd));
        }
    }
}
