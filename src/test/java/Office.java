/** Offices that several tests begin with. */
final class Office {
    static final int NONE = WeddingRegister.NONE;
    static final int[] ODD_NUMBERS = {-1, -2, -1000, Integer.MIN_VALUE, Integer.MAX_VALUE};

    private Office() { }

    /** So many persons of land 0 with tongue 0, born on day 0 without parents; names from 1 on. */
    static WeddingRegister of(int persons) {
        WeddingRegister x = new WeddingRegister();
        for (int i = 0; i < persons; i++) {
            x.person(10001 + i, 0, NONE, NONE);
        }
        return x;
    }

    /** Persons 0 and 1 with notice 0, booked for day 0 at 8 in hall 0, and wed. */
    static WeddingRegister withEntry(int firstWho, int secondWho) {
        WeddingRegister x = new WeddingRegister();
        x.person(firstWho, 0, NONE, NONE);
        x.person(secondWho, 0, NONE, NONE);
        x.registrar(31);
        x.post(0, 1);
        x.book(0, 0, 800);
        x.wed(0);
        return x;
    }

    /** Persons 0 and 1 of one land and tongue with notice 0, and so many registrars who speak with both. */
    static WeddingRegister withNotice(int registrars) {
        WeddingRegister x = of(2);
        for (int i = 0; i < registrars; i++) {
            x.registrar(1);
        }
        x.post(0, 1);
        return x;
    }

    /** Numbers that name none of so many that came. */
    static int[] noneOf(int count) {
        return new int[] {-1, -2, Integer.MIN_VALUE, count, count + 1, Integer.MAX_VALUE};
    }

    static void wait(WeddingRegister x, int days) {
        for (int left = days; left > 0; left -= 400) {
            x.go(Math.min(left, 400));
        }
    }
}
