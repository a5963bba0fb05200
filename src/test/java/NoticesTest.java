/** Promises 9 to 14 and 24: notices, how they hang and ripen, and objections to them. */
public final class NoticesTest {
    private static final int NONE = WeddingRegister.NONE;

    public static void main(String[] args) {
        post();
        postOfMarried();
        postAtMost();
        withdraw();
        hung();
        hungAheadOfFeasts();
        ripe();
        ripeNever();
        object();
        objectByLawsAsTold();
        objectsAtMost();
        judge();
        told();
        Due.end("NoticesTest");
    }

    private static void post() {
        WeddingRegister x = Office.of(3);
        Due.is("post(0, 1)", 0, x.post(0, 1));
        Due.is("post(0, 1) again", NONE, x.post(0, 1));
        Due.is("post(1, 0)", NONE, x.post(1, 0));
        Due.is("post(2, 0)", 1, x.post(2, 0));
        Due.is("post(1, 1)", NONE, x.post(1, 1));
        Due.is("post(0, 3)", NONE, x.post(0, 3));
        Due.is("post(3, 0)", NONE, x.post(3, 0));
        for (int odd : Office.ODD_NUMBERS) {
            Due.is("odd a " + odd, NONE, x.post(odd, 0));
            Due.is("odd b " + odd, NONE, x.post(0, odd));
        }
        Due.is("count", 2, x.count(2));
        x.withdraw(0);
        x.go(3);
        Due.is("post(1, 0) when that is withdrawn", 2, x.post(1, 0));
        Due.is("posted NOW", 3, x.told(2, 1));
        x.law(0, 0, 30310001, 30);
        Due.is("post asks no law", 3, x.post(1, 2));
    }

    private static void postOfMarried() {
        WeddingRegister x = Office.withEntry(10001, 10002);
        x.person(10003, 0, NONE, NONE);
        Due.is("post(0, 2)", NONE, x.post(0, 2));
        Due.is("post(2, 1)", NONE, x.post(2, 1));
        x.part(0);
        Due.is("post(0, 2) when parted", 1, x.post(0, 2));
        Due.is("post(1, 0) when the other one was wed", 2, x.post(1, 0));
    }

    private static void postAtMost() {
        WeddingRegister x = Office.of(2);
        for (int i = 0; i < 60; i++) {
            Due.is("post " + i, i, x.post(0, 1));
            x.withdraw(i);
        }
        Due.is("post 60", NONE, x.post(0, 1));
        Due.is("count", 60, x.count(2));
    }

    private static void withdraw() {
        WeddingRegister x = Office.of(4);
        x.registrar(1);
        x.post(0, 1);
        x.post(2, 3);
        Due.is("booked", 0, x.book(0, 0, 800));
        Due.yes("withdraw(0)", x.withdraw(0));
        Due.no("withdraw(0) again", x.withdraw(0));
        Due.is("it is withdrawn", 2, x.told(0, 0));
        Due.is("its booking's day", NONE, x.told(0, 3));
        Due.is("its booking's slot", NONE, x.told(0, 4));
        Due.is("no bookings", 0, x.count(5));
        Due.is("the hall is free", 0, x.book(1, 0, 800));
        x.wed(1);
        Due.no("one that was wed", x.withdraw(1));
        Due.is("it keeps its booking", 800, x.told(1, 4));
        Due.no("withdraw(2)", x.withdraw(2));
        for (int odd : Office.ODD_NUMBERS) {
            Due.no("odd notice " + odd, x.withdraw(odd));
        }
    }

    private static void hung() {
        WeddingRegister x = Office.of(2);
        x.go(4);
        x.post(0, 1);
        int[] wants = {0, 0, 0, 0, 0, 0, 1, 1, 2, 3, 4, 5, 6, 7, 7, 8};
        for (int day = 0; day < wants.length; day++) {
            Due.is("hung(0, " + day + ")", wants[day], x.hung(0, day));
        }
        x.feast(8);
        x.feast(4);
        Due.is("with a feast, as it begins", 2, x.hung(0, 8));
        Due.is("with a feast, as the day behind it begins", 2, x.hung(0, 9));
        Due.is("and later", 7, x.hung(0, 15));
        Due.is("hung(0, 20000)", 19995 - 2857 - 1, x.hung(0, 20000));
        Due.is("hung(0, 20001)", NONE, x.hung(0, 20001));
        Due.is("hung(1, 5)", NONE, x.hung(1, 5));
        for (int odd : Office.ODD_NUMBERS) {
            Due.is("odd notice " + odd, NONE, x.hung(odd, 5));
            Due.is("odd day " + odd, NONE, x.hung(0, odd));
        }
        x.withdraw(0);
        Due.is("withdrawn ones too", 2, x.hung(0, 9));
    }

    private static void hungAheadOfFeasts() {
        WeddingRegister x = Office.of(3);
        x.go(5);
        x.post(0, 1);
        Due.is("the day behind that of posting is a feast", 0, x.hung(0, 7));
        Due.is("the day behind the feast counts", 1, x.hung(0, 8));
        x.go(2);
        x.feast(8);
        x.post(0, 2);
        Due.is("a told feast behind that of posting", 0, x.hung(1, 9));
        Due.is("the day behind the told feast counts", 1, x.hung(1, 10));
    }

    private static void ripe() {
        WeddingRegister x = new WeddingRegister();
        x.person(10001, 0, NONE, NONE);
        x.person(1010002, 0, NONE, NONE);
        x.go(6);
        x.post(0, 1);
        Due.is("without laws that of posting, a feast too", 6, x.ripe(0));
        x.law(1, 0, 1, 3);
        Due.is("three days of the second one's land", 10, x.ripe(0));
        x.law(0, 0, 1, 5);
        Due.is("the greater of both", 12, x.ripe(0));
        x.law(1, 0, 1, 6);
        Due.is("the greater of both, the other one", 13, x.ripe(0));
        x.law(0, 13, 1, 7);
        Due.is("the law of the day, the feast 13 lies between", 15, x.ripe(0));
        x.law(0, 11, 1, 0);
        x.law(1, 11, 1, 0);
        Due.is("a milder law", 11, x.ripe(0));
        x.feast(8);
        Due.is("a feast doesn't matter then", 11, x.ripe(0));
        x.law(0, 11, 1, 4);
        Due.is("but here it does", 12, x.ripe(0));
        x.object(0);
        Due.is("without objections", 12, x.ripe(0));
        Due.is("ripe(1)", NONE, x.ripe(1));
        for (int odd : Office.ODD_NUMBERS) {
            Due.is("odd notice " + odd, NONE, x.ripe(odd));
        }
    }

    private static void ripeNever() {
        WeddingRegister x = Office.of(2);
        x.law(0, 0, 1, 30);
        Office.wait(x, 19963);
        x.post(0, 1);
        Due.is("five weeks, a feast as the last day of them", 19998, x.ripe(0));
        x.feast(19971);
        Due.is("with one feast more the last day of all", 20000, x.ripe(0));
        x.feast(19980);
        Due.is("with two feasts never", NONE, x.ripe(0));
        Office.wait(x, 400);
        Due.is("no day is too late then", 0, x.object(0));
    }

    private static void object() {
        WeddingRegister x = Office.of(4);
        x.law(0, 0, 1, 3);
        x.post(0, 1);
        x.post(2, 3);
        x.post(0, 3);
        Due.is("object(0)", 0, x.object(0));
        Due.is("object(0) again", 1, x.object(0));
        Due.is("object(1)", 2, x.object(1));
        x.withdraw(2);
        Due.is("withdrawn", NONE, x.object(2));
        Due.is("object(3)", NONE, x.object(3));
        for (int odd : Office.ODD_NUMBERS) {
            Due.is("odd notice " + odd, NONE, x.object(odd));
        }
        x.go(3);
        Due.is("the day ahead of the first ripe one", 3, x.object(0));
        x.go(1);
        Due.is("too late", NONE, x.object(0));
        Due.is("count", 4, x.count(4));
        Due.is("told(0, 2)", 3, x.told(0, 2));
        Due.is("told(1, 2)", 1, x.told(1, 2));
        WeddingRegister y = Office.withEntry(10001, 10002);
        y.law(0, 0, 1, 30);
        Due.is("wed", NONE, y.object(0));
    }

    private static void objectByLawsAsTold() {
        WeddingRegister x = Office.of(2);
        x.post(0, 1);
        Due.is("too late at once without laws", NONE, x.object(0));
        x.law(0, 0, 1, 2);
        Due.is("a law was told", 0, x.object(0));
        x.go(2);
        x.law(0, 0, 1, 1);
        Due.is("a milder law was told", NONE, x.object(0));
    }

    private static void objectsAtMost() {
        WeddingRegister x = Office.of(3);
        x.law(0, 0, 1, 3);
        x.post(0, 1);
        x.post(0, 2);
        for (int i = 0; i < 60; i++) {
            Due.is("object " + i, i, x.object(i % 2));
        }
        Due.is("object 60", NONE, x.object(0));
        Due.is("count", 60, x.count(4));
        Due.is("told(0, 2)", 30, x.told(0, 2));
    }

    private static void judge() {
        WeddingRegister x = Office.of(4);
        x.law(0, 0, 1, 1);
        x.registrar(1);
        x.post(0, 1);
        x.post(2, 3);
        x.object(0);
        x.object(0);
        x.object(1);
        Due.is("two are open", 3, x.book(0, 2, 800));
        Due.yes("judge(0, false)", x.judge(0, false));
        Due.no("judge(0, false) again", x.judge(0, false));
        Due.no("judge(0, true)", x.judge(0, true));
        Due.is("one is open", 1, x.told(0, 2));
        Due.is("one is open, against a booking", 3, x.book(0, 2, 800));
        Due.yes("judge(1, false)", x.judge(1, false));
        Due.is("none is open", 0, x.book(0, 2, 800));
        Due.yes("judge(2, true)", x.judge(2, true));
        Due.no("judge(2, false)", x.judge(2, false));
        Due.is("upheld", 1, x.told(1, 2));
        Due.is("upheld, against a booking", 3, x.book(1, 2, 900));
        Due.is("upheld, for ever", 3, x.book(1, 19999, 900));
        Due.no("judge(3, true)", x.judge(3, true));
        for (int odd : Office.ODD_NUMBERS) {
            Due.no("odd objection " + odd, x.judge(odd, true));
        }
        x.post(0, 2);
        x.object(2);
        x.withdraw(2);
        Due.is("open though withdrawn", 1, x.told(2, 2));
        Due.yes("judged though withdrawn", x.judge(3, false));
        Due.is("dismissed", 0, x.told(2, 2));
    }

    private static void told() {
        WeddingRegister x = Office.of(2);
        x.registrar(1);
        x.registrar(1);
        x.go(3);
        x.post(0, 1);
        int[] posted = {0, 3, 0, NONE, NONE, NONE};
        toldIs("posted", x, posted);
        x.book(0, 4, 1731);
        int[] booked = {0, 3, 0, 4, 1731, NONE};
        toldIs("booked", x, booked);
        x.go(1);
        x.wed(0);
        int[] wed = {1, 3, 0, 4, 1731, NONE};
        toldIs("wed", x, wed);
        x.part(0);
        toldIs("parted", x, wed);
        Due.is("told(1, 0)", NONE, x.told(1, 0));
        for (int odd : Office.ODD_NUMBERS) {
            Due.is("odd notice " + odd, NONE, x.told(odd, 0));
            Due.is("odd what " + odd, NONE, x.told(0, odd));
        }
    }

    private static void toldIs(String when, WeddingRegister x, int[] wants) {
        for (int what = 0; what < wants.length; what++) {
            Due.is(when + ": told(0, " + what + ")", wants[what], x.told(0, what));
        }
    }
}
