import java.util.Random;

/**
 * Runs of random calls: WeddingRegister must answer each as PlainOffice does. The seeds are fixed.
 * What a call's arguments need to know is asked of PlainOffice, since nothing is promised behind an object's 512th call.
 */
public final class RandomRunsTest {
    private static final int RUNS = 3000;
    private static final int MOST_CALLS = 512;

    private final Random random;
    private final boolean wild;
    private final int settling;
    private final int longestGo;
    private final WeddingRegister office = new WeddingRegister();
    private final PlainOffice plain = new PlainOffice();
    private int now = 0;
    private int calls = 0;
    private final int[] answered = new int[27];
    private final int[] bars = new int[8];
    private final int[] standing = new int[5];

    private RandomRunsTest(long seed) {
        random = new Random(seed);
        wild = seed % 10 == 0;
        settling = 10 + random.nextInt(60);
        longestGo = seed % 7 == 0 ? 420 : 1 + random.nextInt(12);
    }

    public static void main(String[] args) {
        int[] answered = new int[27];
        int[] bars = new int[8];
        int[] standing = new int[5];
        for (int seed = 1; seed <= RUNS; seed++) {
            RandomRunsTest run = new RandomRunsTest(seed);
            while (run.callsLeft()) {
                run.call(seed);
            }
            addUp(answered, run.answered);
            addUp(bars, run.bars);
            addUp(standing, run.standing);
        }
        for (int promise = 2; promise <= 26; promise++) {
            Due.yes("promise " + promise + " was often met, not refused", answered[promise] > 1000);
        }
        for (int bar = 0; bar < bars.length; bar++) {
            Due.yes("book answered " + bar + " often", bars[bar] > 100);
        }
        for (int bar = 0; bar < standing.length; bar++) {
            Due.yes("against answered " + bar + " often", standing[bar] > 100);
        }
        Due.end("RandomRunsTest");
    }

    private static void addUp(int[] sums, int[] more) {
        for (int i = 0; i < sums.length; i++) {
            sums[i] += more[i];
        }
    }

    private boolean callsLeft() {
        return calls < MOST_CALLS;
    }

    private int upTo(int bound) {
        return random.nextInt(bound);
    }

    private boolean seldom() {
        return upTo(wild ? 4 : 40) == 0;
    }

    private int odd() {
        int[] odds = {-1, -2, Integer.MIN_VALUE, Integer.MAX_VALUE, 20001, 20000, 61, 401, 7, -30001};
        return upTo(3) == 0 ? random.nextInt() : odds[upTo(odds.length)];
    }

    private int or(int ordinary) {
        return seldom() ? odd() : ordinary;
    }

    private int number(int count) {
        return or(upTo(Math.max(1, count)));
    }

    private int newest(int count) {
        return or(Math.max(0, count - 1 - upTo(4)));
    }

    private int aPerson() {
        return number(plain.count(1));
    }

    private int aNotice() {
        return upTo(2) == 0 ? newest(plain.count(2)) : number(plain.count(2));
    }

    private int anEntry() {
        return number(plain.count(3));
    }

    private int soon() {
        return or(now + upTo(upTo(3) == 0 ? 40 : 8));
    }

    private int near() {
        return or(Math.max(0, now - 20 + upTo(60)));
    }

    private int parent() {
        return upTo(3) != 0 ? WeddingRegister.NONE : aPerson();
    }

    private int lawText() {
        int age = upTo(3) == 0 ? upTo(32) : 0;
        int papers = upTo(2) == 0 ? 0 : upTo(9);
        return or(age * 1000000 + upTo(5) * 100000 + papers * 10000 + upTo(upTo(9) == 0 ? 4 : 3) * 1000 + upTo(upTo(4) == 0 ? 430 : 60));
    }

    private int whoText() {
        int tongues = upTo(3) == 0 ? upTo(34) : 1 + 2 * upTo(16);
        return or(upTo(upTo(20) == 0 ? 7 : 3) * 1000000 + tongues * 10000 + upTo(upTo(2) == 0 ? 4 : 10000));
    }

    private int slot() {
        int hour = upTo(20) == 0 ? 7 + upTo(12) : 8 + upTo(3);
        return or(hour * 100 + upTo(upTo(20) == 0 ? 10 : 4) * 10 + upTo(upTo(20) == 0 ? 10 : 3));
    }

    private void is(int promise, String call, long want, long got) {
        calls++;
        Due.is(call, want, got);
        if (promise == 16 && got >= 0 && got < bars.length) {
            bars[(int) got]++;
        }
        if (promise == 8 && got >= 0 && got < standing.length) {
            standing[(int) got]++;
        }
        answered[promise] += got >= 0 ? 1 : 0;
    }

    private void is(int promise, String call, boolean want, boolean got) {
        calls++;
        Due.is(call, want ? 1 : 0, got ? 1 : 0);
        answered[promise] += got ? 1 : 0;
    }

    private void call(int seed) {
        String at = "run " + seed + " call " + (calls + 1) + ": ";
        int kind = calls < settling ? upTo(8) : upTo(48);
        if (kind < 8) {
            settle(at, kind);
        } else if (kind < 24) {
            notices(at, kind - 8);
        } else if (kind < 36) {
            weddings(at, kind - 24);
        } else {
            entries(at, kind - 36);
        }
    }

    private void settle(String at, int kind) {
        int a = aPerson(), day = near();
        switch (kind) {
            case 0, 1, 2 -> {
                int who = whoText(), born = upTo(4) == 0 ? or(-upTo(12000)) : or(now - upTo(30)), father = parent(), mother = parent();
                is(3, at + "person", plain.person(who, born, father, mother), office.person(who, born, father, mother));
            }
            case 3 -> {
                int land = or(upTo(4)), what = lawText(), notice = or(upTo(upTo(3) == 0 ? 32 : 5));
                is(2, at + "law", plain.law(land, day, what, notice), office.law(land, day, what, notice));
            }
            case 4, 5 -> {
                int paper = or(upTo(3)), given = or(now - upTo(10));
                is(4, at + "paper", plain.paper(a, paper, given), office.paper(a, paper, given));
            }
            case 6 -> is(5, at + "feast", plain.feast(day), office.feast(day));
            default -> {
                int tongues = or(upTo(2) == 0 ? 31 : upTo(33));
                is(15, at + "registrar", plain.registrar(tongues), office.registrar(tongues));
            }
        }
    }

    private void notices(String at, int kind) {
        int a = aPerson(), b = aPerson(), notice = aNotice(), day = near();
        switch (kind) {
            case 0 -> is(7, at + "kin(" + a + ", " + b + ")", plain.kin(a, b), office.kin(a, b));
            case 1 -> is(8, at + "against(" + a + ", " + b + ", " + day + ")", plain.against(a, b, day), office.against(a, b, day));
            case 2, 3, 4, 5 -> is(9, at + "post", plain.post(a, b), office.post(a, b));
            case 6 -> {
                if (upTo(3) == 0) {
                    is(10, at + "withdraw", plain.withdraw(notice), office.withdraw(notice));
                }
            }
            case 7 -> is(11, at + "hung", plain.hung(notice, day), office.hung(notice, day));
            case 8, 9 -> is(12, at + "ripe", plain.ripe(notice), office.ripe(notice));
            case 10, 11 -> is(13, at + "object", plain.object(notice), office.object(notice));
            case 12, 13 -> {
                int objection = number(plain.count(4));
                boolean upheld = upTo(4) == 0;
                is(14, at + "judge", plain.judge(objection, upheld), office.judge(objection, upheld));
            }
            default -> {
                int what = or(upTo(5));
                is(24, at + "told(" + notice + ", " + what + ")", plain.told(notice, what), office.told(notice, what));
            }
        }
    }

    private void weddings(String at, int kind) {
        int notice = aNotice(), day = soon(), slot = slot();
        switch (kind) {
            case 0, 1, 2 -> is(16, at + "book", plain.book(notice, day, slot), office.book(notice, day, slot));
            case 3, 4 -> is(16, at + "book NOW", plain.book(notice, now, slot), office.book(notice, now, slot));
            case 5 -> is(17, at + "order", plain.order(day), office.order(day));
            case 6 -> is(17, at + "order NOW", plain.order(now), office.order(now));
            case 7, 8 -> {
                for (int i = 0; i < plain.count(2) && callsLeft(); i++) {
                    if (plain.told(i, 3) == now) {
                        is(18, at + "wed(" + i + ")", plain.wed(i), office.wed(i));
                    }
                }
            }
            case 9 -> is(18, at + "wed", plain.wed(notice), office.wed(notice));
            default -> {
                int n = or(upTo(longestGo));
                is(6, at + "go(" + n + ")", plain.go(n), office.go(n));
                now = plain.count(0);
            }
        }
    }

    private void entries(String at, int kind) {
        int entry = anEntry(), person = aPerson();
        switch (kind) {
            case 0, 1 -> is(19, at + "part", plain.part(person), office.part(person));
            case 2, 3 -> {
                int field = or(upTo(5)), value = or(upTo(20001));
                is(20, at + "correct", plain.correct(entry, field, value), office.correct(entry, field, value));
            }
            case 4, 5, 6 -> {
                int field = or(upTo(8)), day = upTo(2) == 0 ? now : or(now - upTo(12));
                is(21, at + "entry", plain.entry(entry, field, day), office.entry(entry, field, day));
            }
            case 7 -> {
                int which = or(upTo(2)), law = or(upTo(2));
                is(22, at + "name", plain.name(entry, which, law), office.name(entry, which, law));
            }
            case 8 -> is(23, at + "quarrel", plain.quarrel(entry), office.quarrel(entry));
            case 9 -> {
                for (int i = -1; i <= plain.count(1) && callsLeft(); i++) {
                    is(25, at + "married(" + i + ")", plain.married(i), office.married(i));
                }
            }
            default -> {
                int what = or(upTo(6));
                is(26, at + "count(" + what + ")", plain.count(what), office.count(what));
            }
        }
    }
}
