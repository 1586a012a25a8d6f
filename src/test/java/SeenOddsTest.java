/** Promises 16 to 19: seen, odds. */
public final class SeenOddsTest {
    private static final Due due = new Due();
    private static final long NO = SungHarvest.NO;

    public static void main(String[] args) {
        promise16();
        memories();
        promise17();
        promise18();
        promise19();
        due.end("promises 16 to 19");
    }

    private static void promise16() {
        SungHarvest x = new SungHarvest();
        due.is("16: nobody", x.see(0, 0, 0), -1);
        x.singer(0, 0, 1, 50);
        due.is("16: NONE ahead of BAD", x.see(1, 13, 100), -1);
        due.is("16: singer below", x.see(-2, 0, 0), -1);
        due.is("16: n above", x.see(0, 13, 0), -2);
        due.is("16: n below", x.see(0, -1, 0), -2);
        due.is("16: memory above", x.see(0, 12, 100), -2);
        due.is("16: memory below", x.see(0, 12, -1), -2);
        for (int n = 1; n <= 5; n++) {
            due.is("16: row " + n, x.see(0, 12, 99), n);
        }
        due.is("16: full", x.see(0, 0, 0), -4);
        due.is("16: BAD ahead of FULL", x.see(0, 13, 0), -2);
        due.is("16: NONE ahead of FULL", x.see(1, 0, 0), -1);
        due.is("16: five", x.count(2), 5);
        due.is("16: none then", x.see(-1, 99, 999), 0);
        due.is("16: none", x.count(2), 0);
        due.is("16: again", x.see(0, 0, 0), 1);
    }

    private static void memories() {
        SungHarvest x = new SungHarvest();
        x.singer(0, 0, 3, 20);
        x.singer(1, 2, 1, 30);
        due.is("3: nothing SEEN, all", x.of(0, 7), 100);
        due.is("3: nothing SEEN, the least", x.of(0, 8), 0);
        x.see(0, 2, 40);
        due.is("3: one", x.of(0, 7), 1);
        due.is("3: 48 it was", x.of(0, 8), 48);
        x.see(-1, 0, 0);
        x.see(0, 1, 50);
        // 54 fades to 50; 0 to 4 are gone at once, and it begins anew with 50.
        due.is("3: by fading or anew", x.of(0, 7), 6);
        due.is("3: the least", x.of(0, 8), 0);
        x.see(0, 0, 54);
        due.is("3: both rows", x.of(0, 7), 1);
        due.is("3: the least by both", x.of(0, 8), 54);
        x.see(1, 0, 31);
        due.is("3: another's row is otherwise", x.of(0, 7), 0);
        due.is("3: none", x.of(0, 8), -5);
        x.set(1, 1, 31);
        due.is("3: another's row is so", x.of(0, 7), 1);
        x.away(0, true);
        due.is("3: AWAY, nothing fades, 50 and 54 at once", x.of(0, 7), 0);
        due.is("3: MEMORY is as it was", x.of(0, 3), 20);
        x.see(-1, 0, 0);
        x.see(0, 12, 77);
        due.is("3: AWAY for 12 days", x.of(0, 8), 77);
        x.pass(5);
        due.is("3: from now on", x.of(0, 8), 77);
    }

    private static void promise17() {
        SungHarvest x = new SungHarvest();
        x.singer(1, 2, 1, 30);
        due.is("17: nothing SEEN, all", x.can(0, 0), 10);
        due.is("17: nothing SEEN, the least", x.can(0, 1), 0);
        x.see(0, 2, 16);
        due.is("17: one", x.can(0, 0), 1);
        due.is("17: 30 - 2 * (2 + 5)", x.can(0, 1), 5);
        x.see(0, 1, 22);
        due.is("17: none", x.can(0, 0), 0);
        due.is("17: no least", x.can(0, 1), -5);
        x.see(-1, 0, 0);
        x.set(0, 1, 9);
        x.see(0, 1, 50);
        due.is("17: 7, 8 and 9 make it begin anew", x.can(0, 0), 3);
        due.is("17: 7", x.can(0, 1), 7);
        due.is("17: v is as it was", x.of(0, 1), 2);
        due.is("17: singer", x.can(1, 0), -1);
        due.is("17: singer below", x.can(-1, 0), -1);
        due.is("17: what", x.can(0, 2), -1);
        due.is("17: what below", x.can(0, -1), -1);
    }

    private static void promise18() {
        SungHarvest x = new SungHarvest();
        due.is("18: there are none", x.odds(0, 0, 0), NO);
        x.singer(0, 0, 1, 10);
        due.is("18: the only one is away", x.odds(0, 0, 0), 0);
        due.is("18: 0 by 1", x.odds(0, 0, 1), 1);
        x.singer(0, 0, 2, 50);
        x.singer(0, 0, 4, 50);
        x.singer(0, 0, 3, 20);
        due.is("18: two HOLD it: 4 by 4", x.odds(0, 0, 0), 1);
        due.is("18: below the line", x.odds(0, 0, 1), 1);
        due.is("18: one HOLDS it: 3 by 4", x.odds(2, 0, 0), 3);
        due.is("18: by 4", x.odds(2, 0, 1), 4);
        // behind 5 days SINGERS 0 and 3 have both forgotten PART 0.
        due.is("18: 0 behind 5 days", x.odds(0, 5, 0), 0);
        due.is("18: behind 4 days", x.odds(0, 4, 0), 1);
        x.set(0, 1, 11);
        due.is("18: 3 by 4 behind 5 days", x.odds(0, 5, 0), 3);
        x.away(1, true);
        due.is("18: 2 by 3", x.odds(0, 5, 0), 2);
        due.is("18: 2 by 3, below", x.odds(0, 5, 1), 3);
        x.away(2, true);
        due.is("18: 1 by 2", x.odds(0, 5, 0), 1);
        due.is("18: 1 by 2, below", x.odds(0, 5, 1), 2);
        due.is("18: 20 days", x.odds(1, 20, 0), 1);
        due.is("18: n above", x.odds(0, 21, 0), NO);
        due.is("18: n below", x.odds(0, -1, 0), NO);
        due.is("18: grain above", x.odds(8, 0, 0), NO);
        due.is("18: grain below", x.odds(-1, 0, 0), NO);
        due.is("18: part above", x.odds(0, 0, 2), NO);
        due.is("18: part below", x.odds(0, 0, -1), NO);
        x.away(0, true);
        x.away(3, true);
        due.is("18: all are AWAY", x.odds(0, 0, 0), NO);
        due.is("18: who is AWAY stays so", x.told(5), 15);
        SungHarvest y = new SungHarvest();
        for (int p = 0; p < 4; p++) {
            y.singer(0, 0, 1 << p % 2, 50);
        }
        y.set(3, 0, 4);
        y.set(1, 0, 4);
        y.singer(0, 0, 4, 9);
        y.singer(0, 0, 16, 9);
        due.is("18: 5 by 6", y.odds(4, 0, 0), 5);
        y.set(0, 0, 32);
        y.set(2, 0, 64);
        y.set(4, 0, 128);
        due.is("18: PART 7", y.odds(7, 0, 0), 5);
        due.is("18: nobody HOLDS it", y.odds(0, 0, 0), 0);
        due.is("18: 0 by 1 of six", y.odds(0, 0, 1), 1);
        due.is("18: asking sends nobody away", y.told(5), 0);
    }

    private static void promise19() {
        SungHarvest x = new SungHarvest();
        due.is("19: none is KEPT", x.mean(0, 0), NO);
        x.singer(0, 0, 7, 6);
        x.sacks(0, 5);
        x.sacks(1, 7);
        x.sacks(2, 0);
        due.is("19: 12 by 3", x.mean(0, 0), 4);
        due.is("19: 12 by 3, below", x.mean(0, 1), 1);
        due.is("19: 7 by 2", x.mean(1, 0), 7);
        due.is("19: 7 by 2, below", x.mean(1, 1), 2);
        // 50 by 4: gone on the thirteenth day more; then 50 by 2, 25 days more.
        due.is("19: 7 by 2 behind 13", x.mean(13, 1), 2);
        due.is("19: 0 by 1", x.mean(14, 0), 0);
        due.is("19: 0 by 1, below", x.mean(14, 1), 1);
        due.is("19: the last day", x.mean(38, 1), 1);
        due.is("19: none is KEPT then", x.mean(39, 1), NO);
        due.is("19: 60 days", x.mean(60, 0), NO);
        due.is("19: n above", x.mean(61, 0), NO);
        due.is("19: n below", x.mean(-1, 0), NO);
        due.is("19: part above", x.mean(0, 2), NO);
        due.is("19: part below", x.mean(0, -1), NO);
        x.away(0, true);
        due.is("19: the only one is AWAY", x.mean(0, 0), NO);
    }
}
