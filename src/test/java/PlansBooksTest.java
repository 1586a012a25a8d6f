/** Promises 20 to 23: plans, books. */
public final class PlansBooksTest {
    private static final Due due = new Due();

    public static void main(String[] args) {
        promise20();
        promise21();
        forgotBeyond();
        promise22();
        promise23();
        due.end("promises 20 to 23");
    }

    private static void promise20() {
        SungHarvest x = new SungHarvest();
        due.is("20: a DAY needs no SINGER", x.plan(0, -77), 1);
        due.is("20: nobody", x.plan(1, 0), -1);
        x.singer(0, 0, 1, 50);
        due.is("20: one is AWAY", x.plan(1, 0), 2);
        due.is("20: one is not", x.plan(2, 0), 3);
        due.is("20: MEMORY", x.plan(3, 0), 4);
        due.is("20: what above", x.plan(4, 0), -1);
        due.is("20: what below", x.plan(-2, 0), -1);
        due.is("20: singer", x.plan(3, 1), -1);
        due.is("20: singer below", x.plan(2, -1), -1);
        for (int n = 5; n <= 10; n++) {
            due.is("20: row " + n, x.plan(0, n), n);
        }
        due.is("20: full", x.plan(0, 0), -4);
        due.is("20: NONE ahead of FULL", x.plan(1, 1), -1);
        due.is("20: ten", x.count(3), 10);
        due.is("20: it is empty then", x.plan(-1, 99), 0);
        due.is("20: none", x.count(3), 0);
        due.is("20: again", x.plan(3, 0), 1);
    }

    private static void promise21() {
        SungHarvest x = new SungHarvest();
        x.singer(0, 0, 3, 4);
        x.singer(0, 0, 12, 4);
        due.is("21: an empty PLAN", x.ends(0), 15);
        due.is("21: an empty PLAN, FORGOT", x.ends(1), 0);
        x.plan(1, 1);
        due.is("21: one is AWAY", x.ends(0), 3);
        x.plan(0, 0);
        due.is("21: a DAY", x.ends(0), 2);
        due.is("21: a DAY, FORGOT", x.ends(1), 1);
        x.plan(2, 1);
        due.is("21: the other is back", x.ends(0), 14);
        x.plan(3, 1);
        x.plan(0, 0);
        due.is("21: MEMORY is 99", x.ends(0), 14);
        x.plan(-1, 0);
        x.plan(0, 0);
        due.is("21: row by row", x.ends(1), 2);
        x.plan(3, 0);
        due.is("21: too late", x.ends(1), 2);
        due.is("21: nothing goes", x.told(0), 0);
        due.is("21: nothing is forgotten", x.of(0, 5), 0);
        due.is("21: MEMORY stays", x.of(0, 3), 4);
        due.is("21: what above", x.ends(2), -1);
        due.is("21: what below", x.ends(-1), -1);
        x.pass(1);
        due.is("21: FORGOT goes on from how it is", x.ends(1), 2);
    }

    /** FORGOT comes to 9999 only by more calls than are promised, but its limit is still the document's. */
    private static void forgotBeyond() {
        SungHarvest x = new SungHarvest();
        Due.village(x, "anew 0");
        x.singer(0, 0, 255, 0);
        x.singer(0, 0, 255, 0);
        x.plan(0, 0);
        x.plan(0, 0);
        for (int n = 0; n < 9992; n += 8) {
            x.set(0, 0, 255);
            x.pass(8);
        }
        due.is("13: FORGOT", x.of(0, 5), 9992);
        due.is("13: the other's", x.of(1, 5), 8);
        x.image();
        x.set(0, 0, 255);
        x.pass(6);
        due.is("13: FORGOT 9998", x.of(0, 5), 9998);
        due.is("21: 10000 asked", x.ends(1), 10000 + 8);
        x.pass(1);
        due.is("13: FORGOT 9999", x.of(0, 5), 9999);
        due.is("21: beyond 9999 asked", x.ends(1), 10000 + 8);
        x.set(0, 0, 255);
        due.is("21: beyond 9999 asked, two DAYS", x.ends(1), 10001 + 8);
        due.is("13: no DAY is left", x.pass(1), -3);
        due.is("13: at the limit", x.of(0, 5), 9999);
    }

    private static void promise22() {
        SungHarvest x = new SungHarvest();
        due.is("22: NONE ahead of BAD", x.book(8, 100), -1);
        due.is("22: part below", x.book(-2, 0), -1);
        due.is("22: sacks above", x.book(0, 100), -2);
        due.is("22: sacks below", x.book(0, -1), -2);
        for (int n = 1; n <= 8; n++) {
            due.is("22: row " + n, x.book(7, 99), n);
        }
        due.is("22: full", x.book(0, 0), -4);
        due.is("22: BAD ahead of FULL", x.book(0, 100), -2);
        due.is("22: eight", x.count(4), 8);
        due.is("22: it is empty then", x.book(-1, 100), 0);
        due.is("22: none", x.count(4), 0);
    }

    private static void promise23() {
        SungHarvest x = new SungHarvest();
        due.is("23: an empty BOOK", x.looked(), -5);
        x.book(0, 10);
        x.book(7, 10);
        x.book(0, 10);
        due.is("23: all as told", x.looked(), -5);
        x.sacks(7, 11);
        due.is("23: the second row", x.looked(), 1);
        x.sacks(0, 0);
        due.is("23: the first row", x.looked(), 0);
        x.sacks(0, 10);
        x.sacks(7, 10);
        x.book(3, 99);
        due.is("23: the fourth row", x.looked(), 3);
    }
}
