/** Promises 13 to 15: days, choirs. */
public final class DaysChoirsTest {
    private static final Due due = new Due();

    public static void main(String[] args) {
        promise13();
        daysGoByHowAllIsAhead();
        forgotHasALimit();
        promise14();
        promise15();
        due.end("promises 13 to 15");
    }

    private static void promise13() {
        SungHarvest x = new SungHarvest();
        due.is("13: none", x.pass(0), 0);
        due.is("13: below", x.pass(-1), -2);
        due.is("13: above", x.pass(61), -2);
        for (int n = 1; n <= 166; n++) {
            due.is("13: sixty", x.pass(60), 60 * n);
        }
        due.is("13: too many", x.pass(40), -3);
        due.is("13: BAD ahead of STATE", x.pass(61), -2);
        due.is("13: it stays", x.told(0), 9960);
        due.is("13: the last", x.pass(39), 9999);
        due.is("13: no more", x.pass(1), -3);
        due.is("13: but none", x.pass(0), 9999);
    }

    private static void daysGoByHowAllIsAhead() {
        SungHarvest x = new SungHarvest();
        Due.village(x, "easy 20 p=1;anew 33");
        x.singer(0, 0, 3, 4);
        x.singer(0, 0, 1, 90);
        x.singer(3, 0, 1, 50);
        x.singer(0, 0, 1, 2);
        x.singer(0, 0, 0, 0);
        x.away(3, true);
        due.is("13: a day", x.pass(1), 1);
        due.is("13: MEMORY is ANEW", x.of(0, 3), 33);
        due.is("13: the least PART is gone", x.of(0, 2), 2);
        due.is("13: FORGOT", x.of(0, 5), 1);
        due.is("13: 99 at most", x.of(1, 3), 99);
        due.is("13: two shared it ahead of the day", x.of(2, 3), 50 - 2 + 6);
        due.is("13: AWAY, nothing fades", x.of(3, 3), 2);
        due.is("13: AWAY, nothing is forgotten", x.of(3, 2), 1);
        due.is("13: nothing held, nothing forgotten", x.of(4, 5), 0);
        due.is("13: nothing held, MEMORY stays 0", x.of(4, 3), 0);
        x.pass(1);
        due.is("13: one shares it now", x.of(2, 3), 54 - 2 + 3);
    }

    private static void forgotHasALimit() {
        SungHarvest x = new SungHarvest();
        Due.village(x, "anew 0;hard 99 p<9");
        for (int p = 0; p < 6; p++) {
            x.singer(0, 0, 255, 99);
        }
        x.plan(0, 0);
        x.pass(8);
        due.is("13: FORGOT, one a day", x.of(0, 5), 8);
        due.is("13: nothing is held", x.of(0, 2), 0);
        x.pass(10);
        due.is("13: who HOLDS nothing forgets nothing", x.of(0, 5), 8);
        due.is("21: nothing more", x.ends(1), 48);
        x.set(0, 0, 1);
        due.is("21: one more", x.ends(1), 49);
    }

    private static void promise14() {
        SungHarvest x = new SungHarvest();
        x.singer(0, 0, 6, 9);
        x.singer(0, 0, 2, 2);
        x.sacks(1, 77);
        x.sacks(2, 20);
        due.is("14: KEPT now", x.on(0, 0), 6);
        due.is("14: SACKS now", x.on(0, 1), 97);
        due.is("14: KEPT still", x.on(2, 0), 6);
        due.is("14: KEPT then", x.on(3, 0), 4);
        due.is("14: SACKS then", x.on(3, 1), 20);
        due.is("14: MEMORY", x.on(2, 10), 1);
        due.is("14: MEMORY anew", x.on(3, 10), 50);
        due.is("14: MEMORY of the other", x.on(1, 11), 50);
        due.is("14: HOLDS", x.on(3, 20), 4);
        due.is("14: the other HOLDS", x.on(1, 21), 0);
        due.is("14: nothing in the end", x.on(60, 0), 0);
        due.is("14: no SINGER 2", x.on(1, 12), -1);
        due.is("14: no SINGER 2, HOLDS", x.on(1, 22), -1);
        due.is("14: NONE ahead of BAD", x.on(61, 2), -1);
        due.is("14: what 9", x.on(0, 9), -1);
        due.is("14: what 26", x.on(0, 26), -1);
        due.is("14: what below", x.on(0, -1), -1);
        due.is("14: n above", x.on(61, 0), -2);
        due.is("14: n below", x.on(-1, 10), -2);
        due.is("14: nothing goes", x.told(0), 0);
        due.is("14: nothing fades", x.of(0, 3), 9);
        for (int p = 2; p < 6; p++) {
            x.singer(0, 0, 0, p);
        }
        due.is("14: the sixth", x.on(5, 15), 5);
        due.is("14: what 16", x.on(5, 16), -1);
        due.is("14: what 20 is the first's", x.on(0, 20), 6);
        due.is("14: what 30", x.on(0, 30), -1);
        SungHarvest y = new SungHarvest();
        for (int n = 0; n < 166; n++) {
            y.pass(60);
        }
        y.pass(39);
        y.singer(5, 9, 3, 50);
        // 9999 is odd: 2 - 9; 10000 is even: 2.
        due.is("14: DAYS go beyond 9999", y.on(2, 10), 50 + 7 - 2);
    }

    private static void promise15() {
        SungHarvest x = new SungHarvest();
        due.is("15: nothing by nobody", x.choir(0, 0), 0);
        due.is("15: nothing twice by nobody", x.choir(0, 1), 0);
        due.is("15: something by nobody", x.choir(128, 0), -5);
        x.singer(0, 0, 3, 50);
        x.singer(0, 0, 12, 50);
        x.singer(0, 0, 6, 50);
        x.singer(0, 0, 15, 50);
        x.singer(0, 0, 16, 50);
        due.is("15: one is fewer than two", x.choir(15, 0), 8);
        due.is("15: of several the least", x.choir(2, 0), 1);
        due.is("15: of several the least again", x.choir(4, 0), 2);
        due.is("15: two", x.choir(31, 0), 24);
        due.is("15: none", x.choir(32, 0), -5);
        due.is("15: DOUBLE", x.choir(3, 1), 9);
        due.is("15: DOUBLE by three", x.choir(15, 1), 11);
        due.is("15: DOUBLE, none", x.choir(16, 1), -5);
        x.away(3, true);
        due.is("15: none AWAY", x.choir(15, 0), 3);
        due.is("15: DOUBLE without", x.choir(6, 1), 7);
        due.is("15: DOUBLE no more", x.choir(1, 1), -5);
        x.set(0, 0, 3);
        x.set(1, 0, 1);
        x.set(2, 0, 2);
        due.is("15: DOUBLE by three who share one each", x.choir(3, 1), 7);
        due.is("15: what above", x.choir(256, 2), -1);
        due.is("15: what below", x.choir(1, -1), -1);
        due.is("15: parts above", x.choir(256, 0), -2);
        due.is("15: parts below", x.choir(-1, 1), -2);
    }
}
