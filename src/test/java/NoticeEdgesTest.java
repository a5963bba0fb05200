/** Promises 9 to 14 and 24, and the terms of ==== 3: a test for each boundary that a sentence names. */
public final class NoticeEdgesTest {
    private static final int NONE = WeddingRegister.NONE;
    private static final int LAST = 20000;

    public static void main(String[] args) {
        posts();
        withdrawals();
        hanging();
        ripeness();
        ripeNearTheEnd();
        objections();
        judgements();
        told();
        Due.end("NoticeEdgesTest");
    }

    // ---- 9: post ----

    private static void posts() {
        postOfNobody();
        postOfOne();
        postOfMarried();
        postTwice();
        postAgain();
        postOnFirstAndLastDay();
        postSixty();
        postsRefusedDoNotCount();
    }

    private static void postOfNobody() {
        WeddingRegister x = Office.of(3);
        for (int number : Office.noneOf(3)) {
            Due.is("9: nobody " + number, NONE, x.post(number, 0));
            Due.is("9: nobody " + number + " as the second", NONE, x.post(0, number));
            Due.is("9: nobody twice", NONE, x.post(number, number));
        }
        Due.is("9: none was posted", 0, x.count(2));
        Due.is("9: the first and the last", 0, x.post(0, 2));
        Due.is("9: in an office without persons", NONE, new WeddingRegister().post(0, 1));
    }

    private static void postOfOne() {
        WeddingRegister x = Office.of(2);
        Due.is("9: both are the first", NONE, x.post(0, 0));
        Due.is("9: both are the last", NONE, x.post(1, 1));
    }

    private static void postOfMarried() {
        WeddingRegister x = Office.withEntry(10001, 10002);
        x.person(10003, 0, NONE, NONE);
        for (int married = 0; married <= 1; married++) {
            Due.is("9: the first is married", NONE, x.post(married, 2));
            Due.is("9: the second is married", NONE, x.post(2, married));
        }
        Due.is("9: to one another", NONE, x.post(0, 1));
        Due.is("9: to one another, the other way", NONE, x.post(1, 0));
        x.part(1);
        Due.is("9: parted, with another one", 1, x.post(0, 2));
        Due.is("9: parted, the other one", 2, x.post(2, 1));
    }

    private static void postTwice() {
        WeddingRegister x = Office.of(3);
        x.post(0, 1);
        Due.is("9: they have one", NONE, x.post(0, 1));
        Due.is("9: they have one, in the other order", NONE, x.post(1, 0));
        Due.is("9: one of them with a third", 1, x.post(0, 2));
        Due.is("9: the other one of them with the third", 2, x.post(2, 1));
        Due.is("9: all pairs have one", NONE, x.post(1, 2));
    }

    private static void postAgain() {
        WeddingRegister x = Office.withEntry(10001, 10002);
        x.part(0);
        Due.is("9: theirs was wed", 1, x.post(0, 1));
        Due.is("9: theirs is open", NONE, x.post(1, 0));
        x.withdraw(1);
        Due.is("9: theirs is withdrawn", 2, x.post(1, 0));
        Due.is("9: theirs is open again", NONE, x.post(0, 1));
    }

    private static void postOnFirstAndLastDay() {
        WeddingRegister x = Office.of(3);
        x.post(0, 1);
        Due.is("9: posted on the first day", 0, x.told(0, 1));
        Office.wait(x, LAST);
        x.post(0, 2);
        Due.is("9: posted on the last day", LAST, x.told(1, 1));
        Due.is("9: the first one's day stays", 0, x.told(0, 1));
    }

    /** 12 persons make 66 pairs: the sixtieth notice is the last though other pairs have none. */
    private static void postSixty() {
        WeddingRegister x = Office.of(12);
        x.registrar(1);
        int number = 0;
        for (int a = 0; a < 12; a++) {
            for (int b = a + 1; b < 12; b++) {
                Due.is("9: notice of " + a + " and " + b, number < 60 ? number : NONE, x.post(a, b));
                number++;
            }
        }
        Due.is("9: sixty came", 60, x.count(2));
        Due.is("9: the sixtieth is open", 0, x.told(59, 0));
        Due.is("9: there is no sixty-first", NONE, x.told(60, 0));
        Due.is("9: the sixtieth has hung", 1, x.hung(59, 2));
        Due.is("9: the sixtieth is ripe", 0, x.ripe(59));
        Due.is("9: the sixtieth is booked", 0, x.book(59, 0, 800));
        Due.is("9: the sixtieth is wed", 0, x.wed(59));
        x.withdraw(0);
        Due.is("9: a withdrawn one makes no room", NONE, x.post(0, 1));
        x.part(x.entry(0, 5, 0));
        Due.is("9: nor one that was wed", NONE, x.post(0, 1));
    }

    private static void postsRefusedDoNotCount() {
        WeddingRegister x = Office.of(12);
        for (int i = 0; i < 70; i++) {
            x.post(0, 0);
            x.post(0, 12);
        }
        int number = 0;
        for (int a = 0; a < 12 && number < 60; a++) {
            for (int b = a + 1; b < 12 && number < 60; b++) {
                Due.is("9: though others were refused", number, x.post(a, b));
                Due.is("9: again", NONE, x.post(b, a));
                number++;
            }
        }
    }

    // ---- 10: withdraw ----

    private static void withdrawals() {
        withdrawNone();
        withdrawTwice();
        withdrawOfWed();
        withdrawOfBooked();
        withdrawFirstAndLast();
    }

    private static void withdrawNone() {
        WeddingRegister x = Office.withNotice(1);
        for (int notice : Office.noneOf(1)) {
            Due.no("10: notice " + notice, x.withdraw(notice));
        }
        Due.is("10: the one there is stays open", 0, x.told(0, 0));
        Due.no("10: in a new office", new WeddingRegister().withdraw(0));
    }

    private static void withdrawTwice() {
        WeddingRegister x = Office.withNotice(1);
        Due.yes("10: an open one without a booking", x.withdraw(0));
        Due.no("10: it is so already", x.withdraw(0));
        Due.is("10: it is withdrawn", 2, x.told(0, 0));
    }

    private static void withdrawOfWed() {
        WeddingRegister x = Office.withEntry(10001, 10002);
        Due.no("10: it was wed", x.withdraw(0));
        x.part(0);
        Due.no("10: it was wed, though they parted", x.withdraw(0));
        Due.is("10: it stays wed", 1, x.told(0, 0));
        Due.is("10: it keeps its booking", 800, x.told(0, 4));
    }

    private static void withdrawOfBooked() {
        WeddingRegister x = Office.of(4);
        x.registrar(1);
        x.post(0, 1);
        x.post(2, 3);
        x.book(0, 1, 910);
        Due.is("10: its hall is taken", 4, x.book(1, 1, 910));
        Due.is("10: its registrar is taken", 5, x.book(1, 1, 900));
        Due.is("10: its registrar is elsewhere the hour ahead", 6, x.book(1, 1, 1000));
        x.withdraw(0);
        Due.is("10: the booking's day goes", NONE, x.told(0, 3));
        Due.is("10: the booking's slot goes", NONE, x.told(0, 4));
        Due.is("10: no booking of an open one", 0, x.count(5));
        Due.is("10: hall, registrar and hour are free", 0, x.book(1, 1, 1000));
        Due.is("10: its own place too", 0, x.book(1, 1, 910));
        x.go(1);
        Due.is("10: it can't be wed", NONE, x.wed(0));
    }

    private static void withdrawFirstAndLast() {
        WeddingRegister x = Office.of(4);
        x.post(0, 1);
        x.post(1, 2);
        x.post(2, 3);
        Due.yes("10: the last", x.withdraw(2));
        Due.yes("10: the first", x.withdraw(0));
        Due.is("10: the one between stays", 0, x.told(1, 0));
        Due.is("10: they count still", 3, x.count(2));
    }

    // ---- 11: hung ----

    private static void hanging() {
        hungOfNone();
        hungDays();
        hungFromEachDayOfTheWeek();
        hungByToldFeasts();
        hungOnLastDays();
        hungOverWeeks();
        hungOfEnded();
    }

    private static void hungOfNone() {
        WeddingRegister x = Office.withNotice(0);
        for (int notice : Office.noneOf(1)) {
            Due.is("11: notice " + notice, NONE, x.hung(notice, 5));
        }
        Due.is("11: in a new office", NONE, new WeddingRegister().hung(0, 0));
    }

    private static void hungDays() {
        WeddingRegister x = Office.withNotice(0);
        Due.is("11: the first day", 0, x.hung(0, 0));
        Due.is("11: the last day", 17142, x.hung(0, LAST));
        for (int day : Office.noneOf(LAST + 1)) {
            Due.is("11: day " + day, NONE, x.hung(0, day));
        }
    }

    /** The day of posting, the day behind it, and those that the weekly feast leaves. */
    private static void hungFromEachDayOfTheWeek() {
        for (int posted = 7; posted <= 13; posted++) {
            WeddingRegister x = Office.of(2);
            x.go(posted);
            x.post(0, 1);
            Due.is("11: ahead of posting", 0, x.hung(0, posted - 1));
            Due.is("11: the first day of all", 0, x.hung(0, 0));
            Due.is("11: as that of posting begins", 0, x.hung(0, posted));
            Due.is("11: as the day behind begins", 0, x.hung(0, posted + 1));
            int want = 0;
            for (int day = posted + 1; day <= 22; day++) {
                want += day == 13 || day == 20 ? 0 : 1;
                Due.is("11: posted on " + posted + ", as " + (day + 1) + " begins", want, x.hung(0, day + 1));
            }
        }
    }

    private static void hungByToldFeasts() {
        WeddingRegister x = Office.withNotice(0);
        x.feast(0);
        Due.is("11: a feast on the day of posting is nothing", 2, x.hung(0, 3));
        x.feast(3);
        Due.is("11: a feast on the day that begins is nothing", 2, x.hung(0, 3));
        Due.is("11: a feast on the last day that counts", 2, x.hung(0, 4));
        x.feast(1);
        Due.is("11: a feast on the first day that counts", 0, x.hung(0, 2));
        Due.is("11: both feasts", 1, x.hung(0, 4));
        Due.no("11: a weekly feast told is none more", x.feast(6));
        Due.is("11: the weekly one once", 3, x.hung(0, 7));
    }

    private static void hungOnLastDays() {
        WeddingRegister x = Office.of(4);
        Office.wait(x, 19998);
        x.post(0, 1);
        x.go(1);
        x.post(1, 2);
        x.go(1);
        x.post(2, 3);
        Due.is("11: posted two days ahead of the last one", 1, x.hung(0, LAST));
        Due.is("11: posted on the day ahead of the last one", 0, x.hung(1, LAST));
        Due.is("11: posted on the last day", 0, x.hung(2, LAST));
        Due.is("11: posted on the last day, asked for the first", 0, x.hung(2, 0));
        x.feast(19999);
        Due.is("11: a feast between", 0, x.hung(0, LAST));
        x.feast(LAST);
        Due.is("11: a feast on the last day is nothing", 0, x.hung(0, LAST));
    }

    /** Every day up to 400 against a count day by day, with feasts told at odd places. */
    private static void hungOverWeeks() {
        WeddingRegister x = Office.of(2);
        x.go(3);
        x.post(0, 1);
        int[] feasts = {4, 5, 62, 63, 64, 65, 126, 127, 128, 191, 192, 193, 255, 256, 319, 320, 384};
        boolean[] feast = new boolean[400];
        for (int day : feasts) {
            x.feast(day);
            feast[day] = true;
        }
        int want = 0;
        for (int day = 4; day < 400; day++) {
            want += feast[day] || day % 7 == 6 ? 0 : 1;
            Due.is("11: as " + (day + 1) + " begins", want, x.hung(0, day + 1));
        }
    }

    private static void hungOfEnded() {
        WeddingRegister x = Office.withEntry(10001, 10002);
        Due.is("11: one that was wed", 5, x.hung(0, 6));
        x.part(0);
        x.post(0, 1);
        x.withdraw(1);
        Due.is("11: one that is withdrawn", 5, x.hung(1, 6));
    }

    // ---- 12: ripe ----

    private static void ripeness() {
        ripeOfNone();
        ripeWithoutNotice();
        ripeByEachNotice();
        ripeByTheGreater();
        ripeByLawOfTheDay();
        ripeWithoutObjections();
        ripeOfEnded();
    }

    private static void ripeOfNone() {
        WeddingRegister x = Office.withNotice(0);
        for (int notice : Office.noneOf(1)) {
            Due.is("12: notice " + notice, NONE, x.ripe(notice));
        }
        Due.is("12: in a new office", NONE, new WeddingRegister().ripe(0));
    }

    private static void ripeWithoutNotice() {
        WeddingRegister x = Office.of(3);
        x.law(0, 0, 1, 0);
        x.post(0, 1);
        Due.is("12: the day of posting, the first of all", 0, x.ripe(0));
        x.go(6);
        x.post(1, 2);
        Due.is("12: the day of posting, a feast", 6, x.ripe(1));
        Due.is("12: the other one's stays", 0, x.ripe(0));
    }

    /** Posted on day 0: NOTICE days that are no feasts lie behind it, ahead of the ripe day. */
    private static void ripeByEachNotice() {
        WeddingRegister x = Office.withNotice(1);
        for (int notice = 1; notice <= 30; notice++) {
            x.law(0, 0, 1, notice);
            // Five days count ahead of the first weekly feast, then six ahead of each other one.
            int lastCounted = notice + notice / 6;
            Due.is("12: notice " + notice, lastCounted + 1, x.ripe(0));
            Due.is("12: hung as many by then", notice, x.hung(0, lastCounted + 1));
            Due.is("12: one fewer on the day ahead", notice - 1, x.hung(0, lastCounted));
        }
    }

    private static void ripeByTheGreater() {
        WeddingRegister x = new WeddingRegister();
        x.person(1, 0, NONE, NONE);
        x.person(1000001, 0, NONE, NONE);
        x.post(0, 1);
        x.law(0, 0, 1, 2);
        Due.is("12: the first one's alone", 3, x.ripe(0));
        x.law(1, 0, 1, 1);
        Due.is("12: the first one's is the greater", 3, x.ripe(0));
        x.law(1, 0, 1, 2);
        Due.is("12: both alike", 3, x.ripe(0));
        x.law(1, 0, 1, 3);
        Due.is("12: the second one's is the greater", 4, x.ripe(0));
        x.law(2, 0, 1, 30);
        Due.is("12: a third land's is nothing", 4, x.ripe(0));
    }

    private static void ripeByLawOfTheDay() {
        WeddingRegister x = Office.withNotice(0);
        x.law(0, 0, 1, 30);
        x.law(0, 4, 1, 3);
        Due.is("12: on the first day of a milder law", 4, x.ripe(0));
        x.law(0, 4, 1, 4);
        Due.is("12: one day behind it", 5, x.ripe(0));
        x.law(0, 5, 1, 30);
        x.law(0, 9, 1, 0);
        Due.is("12: a harder one comes between", 9, x.ripe(0));
        x.law(0, 0, 1, 0);
        Due.is("12: none is asked on the day of posting", 0, x.ripe(0));
    }

    private static void ripeWithoutObjections() {
        WeddingRegister x = Office.withNotice(1);
        x.law(0, 0, 1, 2);
        x.object(0);
        Due.is("12: one is open", 3, x.ripe(0));
        x.judge(0, true);
        Due.is("12: it is upheld", 3, x.ripe(0));
        Due.is("12: a booking asks for objections", 3, x.book(0, 3, 800));
    }

    private static void ripeOfEnded() {
        WeddingRegister x = Office.withEntry(10001, 10002);
        x.law(0, 0, 1, 1);
        Due.is("12: one that was wed", 2, x.ripe(0));
        x.part(0);
        x.post(0, 1);
        x.withdraw(1);
        Due.is("12: one that is withdrawn", 2, x.ripe(1));
    }

    private static void ripeNearTheEnd() {
        ripeOnLastDay();
        ripeJustOnLastDay();
        ripeByLawOfLastDay();
        ripeFarBehind();
    }

    private static void ripeOnLastDay() {
        WeddingRegister x = Office.of(2);
        Office.wait(x, LAST);
        x.post(0, 1);
        Due.is("12: posted on the last day, none asked", LAST, x.ripe(0));
        x.law(0, 0, 1, 1);
        Due.is("12: posted on the last day, one asked", NONE, x.ripe(0));
    }

    /** 19998 is a feast: from 19996 on, 19997 and 19999 count. */
    private static void ripeJustOnLastDay() {
        WeddingRegister x = Office.of(2);
        Office.wait(x, 19996);
        x.post(0, 1);
        x.law(0, 0, 1, 2);
        Due.is("12: just on the last day", LAST, x.ripe(0));
        x.law(0, 0, 1, 3);
        Due.is("12: one day too many", NONE, x.ripe(0));
        x.law(0, 0, 1, 2);
        x.feast(LAST);
        Due.is("12: the last day may be a feast", LAST, x.ripe(0));
        x.feast(19997);
        Due.is("12: a feast too many", NONE, x.ripe(0));
    }

    private static void ripeByLawOfLastDay() {
        WeddingRegister x = Office.of(2);
        Office.wait(x, 19990);
        x.law(0, 0, 1, 30);
        x.post(0, 1);
        Due.is("12: never", NONE, x.ripe(0));
        x.law(0, LAST, 1, 7);
        Due.is("12: by the law of the last day", LAST, x.ripe(0));
        x.law(0, LAST, 1, 8);
        Due.is("12: never again", NONE, x.ripe(0));
    }

    private static void ripeFarBehind() {
        WeddingRegister x = Office.of(2);
        x.law(0, 0, 1, 30);
        Office.wait(x, 19964);
        x.post(0, 1);
        Due.is("12: thirty days are just left", LAST, x.ripe(0));
        WeddingRegister y = Office.of(2);
        y.law(0, 0, 1, 30);
        Office.wait(y, 19965);
        y.post(0, 1);
        Due.is("12: twenty-nine days are left", NONE, y.ripe(0));
    }

    // ---- 13: object ----

    private static void objections() {
        objectToNone();
        objectToEnded();
        objectInTime();
        objectTooLateAtOnce();
        objectByLaws();
        objectWhenNeverRipe();
        objectSixty();
        objectionsRefusedDoNotCount();
    }

    private static void objectToNone() {
        WeddingRegister x = Office.withNotice(0);
        x.law(0, 0, 1, 5);
        for (int notice : Office.noneOf(1)) {
            Due.is("13: notice " + notice, NONE, x.object(notice));
        }
        Due.is("13: none was made", 0, x.count(4));
        Due.is("13: the one there is", 0, x.object(0));
    }

    private static void objectToEnded() {
        WeddingRegister x = Office.withEntry(10001, 10002);
        x.law(0, 0, 1, 5);
        Due.is("13: it was wed", NONE, x.object(0));
        x.part(0);
        Due.is("13: it was wed, though they parted", NONE, x.object(0));
        x.post(0, 1);
        x.withdraw(1);
        Due.is("13: it is withdrawn", NONE, x.object(1));
        x.post(0, 1);
        Due.is("13: it is open", 0, x.object(2));
    }

    private static void objectInTime() {
        WeddingRegister x = Office.withNotice(0);
        x.law(0, 0, 1, 5);
        Due.is("13: the first day on which it is ripe", 6, x.ripe(0));
        Due.is("13: on the day of posting", 0, x.object(0));
        x.go(5);
        Due.is("13: on the day ahead of the first ripe one", 1, x.object(0));
        x.go(1);
        Due.is("13: on the first ripe day it is too late", NONE, x.object(0));
        x.go(1);
        Due.is("13: on the day behind it too", NONE, x.object(0));
        Due.is("13: two were made", 2, x.told(0, 2));
    }

    private static void objectTooLateAtOnce() {
        WeddingRegister x = Office.withNotice(0);
        Due.is("13: ripe on the day of posting", NONE, x.object(0));
        x.law(0, 0, 1, 1);
        Due.is("13: one day of notice leaves two days", 0, x.object(0));
        x.go(1);
        Due.is("13: the second of them", 1, x.object(0));
        x.go(1);
        Due.is("13: not the third", NONE, x.object(0));
    }

    /** Objections don't put off the first day on which it would be ripe without them; laws and feasts do. */
    private static void objectByLaws() {
        WeddingRegister x = Office.withNotice(0);
        x.law(0, 0, 1, 2);
        x.object(0);
        x.go(3);
        Due.is("13: an open one doesn't put it off", NONE, x.object(0));
        x.feast(2);
        Due.is("13: a feast told does", 1, x.object(0));
        x.go(1);
        Due.is("13: for a day", NONE, x.object(0));
        x.law(0, 0, 1, 3);
        Due.is("13: a harder law told does", 2, x.object(0));
        x.law(0, 1, 1, 0);
        Due.is("13: by a milder one it was ripe long ago", NONE, x.object(0));
    }

    private static void objectWhenNeverRipe() {
        WeddingRegister x = Office.of(2);
        Office.wait(x, LAST);
        x.law(0, 0, 1, 1);
        x.post(0, 1);
        Due.is("13: no day up to the last is its first ripe one", 0, x.object(0));
        x.law(0, LAST, 1, 0);
        Due.is("13: the last day is", NONE, x.object(0));
    }

    private static void objectSixty() {
        WeddingRegister x = Office.of(4);
        x.law(0, 0, 1, 5);
        x.post(0, 1);
        x.post(2, 3);
        for (int i = 0; i < 59; i++) {
            Due.is("13: objection " + i, i, x.object(0));
        }
        Due.is("13: the sixtieth of all", 59, x.object(1));
        Due.is("13: no one more to the first", NONE, x.object(0));
        Due.is("13: no one more to the second", NONE, x.object(1));
        Due.yes("13: the sixtieth can be judged", x.judge(59, false));
        Due.no("13: there is no sixty-first", x.judge(60, false));
        Due.is("13: a judged one makes no room", NONE, x.object(1));
        Due.is("13: those of the first", 59, x.told(0, 2));
        Due.is("13: those of the second", 0, x.told(1, 2));
        Due.is("13: sixty came", 60, x.count(4));
    }

    private static void objectionsRefusedDoNotCount() {
        WeddingRegister x = Office.of(4);
        x.post(0, 1);
        for (int i = 0; i < 70; i++) {
            x.object(0);
            x.object(1);
        }
        x.law(0, 0, 1, 5);
        for (int i = 0; i < 60; i++) {
            Due.is("13: though others were refused", i, x.object(0));
        }
        Due.is("13: the sixty-first", NONE, x.object(0));
    }

    // ---- 14: judge ----

    private static void judgements() {
        judgeNone();
        judgeTwice();
        judgeEachOfMany();
        judgeOfEnded();
    }

    private static void judgeNone() {
        WeddingRegister x = Office.withNotice(0);
        Due.no("14: none was made", x.judge(0, false));
        x.law(0, 0, 1, 5);
        x.object(0);
        for (int objection : Office.noneOf(1)) {
            Due.no("14: dismiss " + objection, x.judge(objection, false));
            Due.no("14: uphold " + objection, x.judge(objection, true));
        }
        Due.is("14: it is open still", 1, x.told(0, 2));
    }

    private static void judgeTwice() {
        for (int first = 0; first <= 1; first++) {
            WeddingRegister x = Office.withNotice(1);
            x.law(0, 0, 1, 1);
            x.object(0);
            Due.is("14: open", 3, x.book(0, 2, 800));
            Due.yes("14: judged", x.judge(0, first == 1));
            Due.no("14: dismissed again", x.judge(0, false));
            Due.no("14: upheld again", x.judge(0, true));
            Due.is("14: as it was judged first", first, x.told(0, 2));
            Due.is("14: against a booking", first == 1 ? 3 : 0, x.book(0, 2, 800));
        }
    }

    private static void judgeEachOfMany() {
        WeddingRegister x = Office.withNotice(1);
        x.law(0, 0, 1, 1);
        for (int i = 0; i < 3; i++) {
            x.object(0);
        }
        x.judge(2, false);
        x.judge(0, false);
        Due.is("14: one of three is open", 1, x.told(0, 2));
        Due.is("14: one is enough", 3, x.book(0, 2, 800));
        x.judge(1, false);
        Due.is("14: none is", 0, x.told(0, 2));
        Due.is("14: none stands against it", 0, x.book(0, 2, 800));
    }

    private static void judgeOfEnded() {
        WeddingRegister x = Office.withNotice(1);
        x.law(0, 0, 1, 1);
        x.object(0);
        x.object(0);
        x.withdraw(0);
        Due.yes("14: of a withdrawn one, upheld", x.judge(0, true));
        Due.yes("14: of a withdrawn one, dismissed", x.judge(1, false));
        Due.is("14: the upheld one is told", 1, x.told(0, 2));
    }

    // ---- 24: told ----

    private static void told() {
        toldOfNone();
        toldOthers();
        toldBookings();
    }

    private static void toldOfNone() {
        WeddingRegister x = Office.withNotice(0);
        for (int notice : Office.noneOf(1)) {
            for (int what = -1; what <= 5; what++) {
                Due.is("24: notice " + notice, NONE, x.told(notice, what));
            }
        }
    }

    private static void toldOthers() {
        WeddingRegister x = Office.withNotice(0);
        for (int what : Office.noneOf(5)) {
            Due.is("24: what " + what, NONE, x.told(0, what));
        }
        Due.is("24: the first of all", 0, x.told(0, 0));
        Due.is("24: the last of all", NONE, x.told(0, 4));
    }

    private static void toldBookings() {
        WeddingRegister x = Office.withNotice(6);
        Due.is("24: no booking's day", NONE, x.told(0, 3));
        Due.is("24: no booking's slot", NONE, x.told(0, 4));
        x.book(0, 0, 800);
        Due.is("24: the first day", 0, x.told(0, 3));
        Due.is("24: the first slot", 800, x.told(0, 4));
        x.book(0, LAST, 1735);
        Due.is("24: the last day", LAST, x.told(0, 3));
        Due.is("24: the last slot", 1735, x.told(0, 4));
        Office.wait(x, LAST);
        x.wed(0);
        Due.is("24: one that was wed keeps its day", LAST, x.told(0, 3));
        Due.is("24: one that was wed keeps its slot", 1735, x.told(0, 4));
    }
}
