/** Promises 1 to 12: singers, parts, villages. */
public final class SingersPartsVillagesTest {
    private static final Due due = new Due();

    public static void main(String[] args) {
        promise1();
        promise2();
        promise3();
        strains();
        promise4();
        heirs();
        promise5();
        promise6();
        promise7();
        promise8();
        promise9();
        promise10();
        promise11();
        faults();
        truths();
        promise12();
        due.end("promises 1 to 12");
    }

    private static void promise1() {
        SungHarvest x = new SungHarvest();
        for (int what = 0; what <= 6; what++) {
            due.is("1: count(" + what + ")", x.count(what), 0);
        }
        for (int part = 0; part < 8; part++) {
            due.is("1: SACKS at first", x.part(part, 0), 10);
        }
        due.is("1: told(0)", x.told(0), 0);
        due.is("1: told(1)", x.told(1), 50);
        due.is("1: undo()", x.undo(), SungHarvest.STATE);
        for (int tape = 0; tape < 6; tape++) {
            due.is("1: a TAPE holds nothing", x.item(tape, 0, 1), -11);
        }
        due.is("1: NONE", SungHarvest.NONE, -1);
        due.is("1: BAD", SungHarvest.BAD, -2);
        due.is("1: STATE", SungHarvest.STATE, -3);
        due.is("1: FULL", SungHarvest.FULL, -4);
        due.is("1: NO", SungHarvest.NO, Long.MIN_VALUE);
    }

    private static void promise2() {
        SungHarvest x = new SungHarvest();
        due.is("2: kind below", x.singer(-1, 10, 0, 0), -1);
        due.is("2: kind above", x.singer(7, 0, 0, 0), -1);
        due.is("2: v below", x.singer(0, -1, 0, 0), -2);
        due.is("2: v above", x.singer(0, 10, 0, 0), -2);
        due.is("2: parts below", x.singer(0, 0, -1, 0), -2);
        due.is("2: parts above", x.singer(0, 0, 256, 0), -2);
        due.is("2: memory below", x.singer(0, 0, 0, -1), -2);
        due.is("2: memory above", x.singer(0, 0, 0, 100), -2);
        due.is("2: none came", x.count(0), 0);
        for (int k = 0; k < 6; k++) {
            due.is("2: singer " + k, x.singer(k, 9, 255, 99), k);
        }
        due.is("2: the seventh", x.singer(6, 0, 0, 0), -4);
        due.is("2: NONE ahead of FULL", x.singer(7, 0, 0, 0), -1);
        due.is("2: BAD ahead of FULL", x.singer(6, 0, 0, 100), -2);
        due.is("2: six", x.count(0), 6);
    }

    private static void promise3() {
        SungHarvest x = new SungHarvest();
        x.singer(3, 7, 5, 42);
        int[] dues = {3, 7, 5, 42, 0, 0, 4, 100, 0};
        for (int what = 0; what < dues.length; what++) {
            due.is("3: of(0, " + what + ")", x.of(0, what), dues[what]);
        }
        due.is("3: what below", x.of(0, -1), -10001);
        due.is("3: what above", x.of(0, 9), -10001);
        due.is("3: no singer", x.of(1, 0), -10001);
        due.is("3: singer below", x.of(-1, 0), -10001);
        x.away(0, true);
        due.is("3: AWAY", x.of(0, 4), 1);
        due.is("3: STRAIN though AWAY", x.of(0, 6), 4);
        x.away(0, false);
        x.set(0, 1, 3);
        x.pass(1);
        due.is("3: FORGOT", x.of(0, 5), 1);
        due.is("3: the least PART is gone", x.of(0, 2), 4);
        due.is("3: MEMORY anew", x.of(0, 3), 50);
    }

    private static void strains() {
        SungHarvest x = new SungHarvest();
        x.singer(0, 5, 7, 50);
        due.is("3: SINGER", x.of(0, 6), 6);
        x.singer(1, 5, 7, 50);
        due.is("3: BASS", x.of(1, 6), 11);
        x.singer(2, 5, 7, 50);
        due.is("3: CHILD", x.of(2, 6), 3);
        x.singer(3, 5, 8, 50);
        due.is("3: OLD, nobody shares", x.of(3, 6), 2);
        x.set(3, 0, 12);
        due.is("3: OLD, three share", x.of(3, 6), 4 - 9);
        x.away(1, true);
        due.is("3: OLD, one that shares is AWAY", x.of(3, 6), 4 - 6);
        x.singer(4, 9, 15, 50);
        due.is("3: DESERTER with 4", x.of(4, 6), 17);
        x.set(4, 0, 31);
        due.is("3: DESERTER with 5", x.of(4, 6), 38);
        x.singer(5, 9, 3, 50);
        due.is("3: HUMMER on an even DAY", x.of(5, 6), 2);
        x.pass(1);
        due.is("3: HUMMER on an odd DAY", x.of(5, 6), 2 - 9);
        x.pass(1);
        due.is("3: HUMMER on DAY 2", x.of(5, 6), 2);
        x.pass(1);
        due.is("3: HUMMER on DAY 3", x.of(5, 6), 2 - 9);
        x.set(4, 0, 31);
        Due.village(x, "easy 7 k=2|k=4");
        due.is("3: CHILD, the half of -1", x.of(2, 6), 0);
        due.is("3: DESERTER, twice all of it", x.of(4, 6), 2 * (10 - 7 + 9));
        Due.village(x, "easy 9 k=2");
        due.is("3: CHILD, the half of -3 cut toward 0", x.of(2, 6), -1);
        SungHarvest y = new SungHarvest();
        y.singer(6, 1, 1, 50);
        y.singer(0, 0, 1, 50);
        for (int d = 0; d < 4; d++) {
            y.row(0, d, d + 3);
        }
        for (int d = 0; d < 6; d++) {
            due.is("3: TOLD on DAY " + d, y.of(0, 6), 2 - 3 + d % 4 + 3);
            y.pass(1);
        }
    }

    private static void promise4() {
        SungHarvest x = new SungHarvest();
        x.singer(0, 0, 6, 9);
        x.singer(0, 0, 2, 2);
        x.sacks(1, 77);
        due.is("4: SACKS", x.part(1, 0), 77);
        due.is("4: KEPT", x.part(1, 1), 1);
        due.is("4: not KEPT", x.part(0, 1), 0);
        due.is("4: LOST already", x.part(0, 2), 0);
        due.is("4: two HOLD it", x.part(1, 4), 2);
        due.is("4: one HOLDS it", x.part(2, 4), 1);
        due.is("4: none HOLDS it", x.part(7, 4), 0);
        // 9 - 4 - 4 - 4: PART 1 goes on the third day; then 50 by 2 a day: 25 days more.
        due.is("4: LOST with the last who HOLDS it", x.part(1, 2), 3);
        due.is("4: LOST later", x.part(2, 2), 28);
        x.away(0, true);
        due.is("4: AWAY does not keep", x.part(2, 1), 0);
        due.is("4: AWAY does not count", x.part(1, 4), 1);
        due.is("4: LOST without the one AWAY", x.part(1, 2), 1);
        due.is("4: what below", x.part(0, -1), -1);
        due.is("4: what above", x.part(0, 5), -1);
        due.is("4: part below", x.part(-1, 0), -1);
        due.is("4: part above", x.part(8, 0), -1);
        SungHarvest y = new SungHarvest();
        Due.village(y, "anew 59");
        y.singer(0, 0, 3, 4);
        due.is("4: LOST on the last day looked at", y.part(1, 2), 1 + 30);
        y.set(0, 1, 99);
        due.is("4: LOST, 25 and 30", y.part(1, 2), 25 + 30);
        Due.village(y, "anew 69");
        due.is("4: LOST behind 60 days", y.part(1, 2), 25 + 35);
        Due.village(y, "anew 71");
        due.is("4: not LOST by 60 days", y.part(1, 2), -5);
        due.is("4: DAYS asked do not go", y.told(0), 0);
        due.is("4: nothing is forgotten", y.of(0, 2), 3);
    }

    private static void heirs() {
        SungHarvest x = new SungHarvest();
        due.is("4: HEIR, nobody there", x.part(0, 3), -5);
        x.singer(0, 0, 1, 10);
        due.is("4: HEIR, only who HOLDS it", x.part(0, 3), -5);
        x.singer(0, 0, 0, 8);
        due.is("4: HEIR, not longer", x.part(0, 3), -5);
        x.set(1, 1, 10);
        due.is("4: HEIR, as long is not longer", x.part(0, 3), -5);
        x.set(1, 1, 20);
        due.is("4: HEIR", x.part(0, 3), 1);
        x.singer(0, 0, 0, 20);
        due.is("4: HEIR, of two the first", x.part(0, 3), 1);
        x.singer(0, 0, 0, 30);
        due.is("4: HEIR, the longest", x.part(0, 3), 3);
        x.away(3, true);
        due.is("4: HEIR, none AWAY", x.part(0, 3), 1);
        x.singer(2, 0, 0, 99);
        due.is("4: HEIR who never forgets it", x.part(0, 3), 4);
        x.set(0, 1, 99);
        due.is("4: LOST of the one who HOLDS it", x.part(0, 2), 50);
        x.teach(4, 0, 0);
        due.is("4: HEIR, as -5 nothing is greater", x.part(0, 3), -5);
        // by 2 a day the CHILD forgets PART 0 on DAY 50 and then keeps PART 7 for 50 DAYS more.
        due.is("4: HEIR of what nobody HOLDS", x.part(7, 3), 4);
        due.is("4: asking teaches nobody", x.of(2, 2), 0);
        SungHarvest y = new SungHarvest();
        y.singer(0, 0, 192, 40);
        y.singer(0, 0, 1, 30);
        y.singer(0, 0, 0, 29);
        // the first one, who HOLDS two more, forgets it on DAY 7, the third one on DAY 15, as the second one does.
        due.is("4: HEIR HOLDS the others, too", y.part(0, 3), -5);
        y.away(1, true);
        y.away(2, true);
        due.is("4: HEIR, the first one", y.part(0, 3), 0);
    }

    private static void promise5() {
        SungHarvest x = new SungHarvest();
        x.singer(0, 0, 12, 34);
        due.is("5: HOLDS", x.set(0, 0, 255), 12);
        due.is("5: HOLDS now", x.of(0, 2), 255);
        due.is("5: MEMORY", x.set(0, 1, 99), 34);
        due.is("5: MEMORY now", x.of(0, 3), 99);
        due.is("5: singer", x.set(1, 0, 0), -1);
        due.is("5: singer below", x.set(-1, 0, 0), -1);
        due.is("5: what", x.set(0, 2, 0), -1);
        due.is("5: what below", x.set(0, -1, 999), -1);
        due.is("5: HOLDS above", x.set(0, 0, 256), -2);
        due.is("5: HOLDS below", x.set(0, 0, -1), -2);
        due.is("5: MEMORY above", x.set(0, 1, 100), -2);
        due.is("5: MEMORY below", x.set(0, 1, -1), -2);
        due.is("5: HOLDS as it was", x.set(0, 0, 0), 255);
        due.is("5: MEMORY as it was", x.set(0, 1, 0), 99);
    }

    private static void promise6() {
        SungHarvest x = new SungHarvest();
        due.is("6: nobody", x.away(0, true), -1);
        x.singer(0, 0, 1, 9);
        due.is("6: was not", x.away(0, true), 0);
        due.is("6: was", x.away(0, true), 1);
        due.is("6: is", x.told(5), 1);
        due.is("6: comes back", x.away(0, false), 1);
        due.is("6: was back", x.away(0, false), 0);
        due.is("6: below", x.away(-1, false), -1);
        due.is("6: beyond", x.away(1, false), -1);
    }

    private static void promise7() {
        SungHarvest x = new SungHarvest();
        due.is("7: sacks", x.sacks(7, 99), 10);
        due.is("7: sacks again", x.sacks(7, 0), 99);
        due.is("7: they are", x.part(7, 0), 0);
        due.is("7: part", x.sacks(8, 100), -1);
        due.is("7: part below", x.sacks(-1, 1), -1);
        due.is("7: n above", x.sacks(7, 100), -2);
        due.is("7: n below", x.sacks(7, -1), -2);
        due.is("7: as it was", x.part(7, 0), 0);
    }

    private static void promise8() {
        SungHarvest x = new SungHarvest();
        x.singer(0, 0, 3, 50);
        x.singer(0, 0, 12, 50);
        due.is("8: taught", x.teach(0, 1, 3), 3);
        due.is("8: HOLDS it", x.of(0, 2), 11);
        due.is("8: the other does, too", x.of(1, 2), 12);
        due.is("8: taught again", x.teach(0, 1, 3), 3);
        due.is("8: singer", x.teach(2, 1, 3), -1);
        due.is("8: other", x.teach(0, 2, 3), -1);
        due.is("8: both below", x.teach(-1, -1, 3), -1);
        due.is("8: part", x.teach(0, 0, 8), -1);
        due.is("8: part below", x.teach(0, 1, -1), -1);
        due.is("8: one is both", x.teach(0, 0, 7), -2);
        due.is("8: the other does not HOLD it", x.teach(0, 1, 7), -3);
        x.away(1, true);
        due.is("8: the other is AWAY", x.teach(0, 1, 2), -3);
        x.away(1, false);
        x.away(0, true);
        due.is("8: the one is AWAY", x.teach(0, 1, 2), -3);
        due.is("8: nothing changed", x.of(0, 2), 11);
    }

    private static void promise9() {
        SungHarvest x = new SungHarvest();
        x.singer(6, 0, 1, 50);
        x.singer(3, 0, 1, 50);
        due.is("9: row", x.row(0, 3, 9), 0);
        due.is("9: row again", x.row(0, 3, 0), 9);
        due.is("9: singer", x.row(2, 0, 99), -1);
        due.is("9: singer below", x.row(-1, 0, 0), -1);
        due.is("9: part", x.row(0, 4, 0), -1);
        due.is("9: part below", x.row(0, -1, 0), -1);
        due.is("9: n above", x.row(1, 0, 10), -2);
        due.is("9: n below", x.row(0, 0, -1), -2);
        due.is("9: another KIND", x.row(1, 0, 9), -3);
        due.is("9: two have not one ROW", x.singer(6, 0, 1, 50), 2);
        x.row(0, 1, 4);
        due.is("9: the other's is 0", x.row(2, 1, 5), 0);
        due.is("9: the first one's stays", x.row(0, 1, 4), 4);
    }

    private static void promise10() {
        SungHarvest x = new SungHarvest();
        due.is("10: below", x.feed(-1), -2);
        due.is("10: above", x.feed(128), -2);
        due.is("10: 0", x.feed(0), 1);
        due.is("10: 127", x.feed(127), 2);
        for (int n = 3; n <= 100; n++) {
            due.is("10: sign " + n, x.feed('a'), n);
        }
        due.is("10: full", x.feed('a'), -4);
        due.is("10: BAD ahead of FULL", x.feed(128), -2);
        due.is("10: bytes", x.count(5), 100);
    }

    private static void promise11() {
        SungHarvest x = new SungHarvest();
        x.singer(0, 0, 1, 50);
        due.is("11: the first", Due.village(x, "hard 5 p=0;anew 7"), 0);
        due.is("11: it holds", x.of(0, 6), 7);
        due.is("11: its ANEW", x.told(1), 7);
        due.is("11: a fault", Due.village(x, "hard 5 p=0;anew"), -25);
        due.is("11: the text is empty then", x.count(5), 0);
        due.is("11: the one that held holds", x.told(1), 7);
        due.is("11: no village more", x.count(1), 1);
        due.is("11: the newest holds", Due.village(x, "anew 1;anew 23;hard 9 p=0"), 1);
        due.is("11: ANEW, the last one's", x.told(1), 23);
        due.is("11: only the newest", x.of(0, 6), 11);
        due.is("11: ANEW without", Due.village(x, "easy 9 p=0"), 2);
        due.is("11: ANEW is 50", x.told(1), 50);
        due.is("11: below 0", x.of(0, 6), -7);
        for (int n = 3; n < 6; n++) {
            due.is("11: village " + n, Due.village(x, "anew " + n), n);
        }
        due.is("11: full", Due.village(x, "anew"), -4);
        due.is("11: the text stays", x.count(5), 4);
        due.is("11: the newest goes on", x.told(1), 5);
        due.is("11: six", x.count(1), 6);
    }

    private static void faults() {
        fault("", 0);
        fault("x", 0);
        fault(" anew 1", 0);
        fault(";anew 1", 0);
        fault("h", 1);
        fault("harder 1", 4);
        fault("hard", 4);
        fault("hard ", 5);
        fault("hard  1 p=1", 5);
        fault("hard 1", 6);
        fault("hard 1;", 6);
        fault("hard 12", 7);
        fault("hard 1 ", 7);
        fault("hard 1 p", 8);
        fault("hard 1 p!", 8);
        fault("hard 1 p=", 9);
        fault("hard 1 p=x", 9);
        fault("hard 1 p=123", 11);
        fault("hard 1 p=1 ", 10);
        fault("hard 1 p=1&", 11);
        fault("hard 1 p=1|", 11);
        fault("hard 1 p=1|&", 11);
        fault("hard 1 p=1)", 10);
        fault("hard 1 (p=1", 11);
        fault("hard 1 (p=1;", 11);
        fault("hard 1 ()", 8);
        fault("hard 1 !", 8);
        fault("hard 1 x=1", 7);
        fault("hard 1 =1", 7);
        fault("hard 1 1", 7);
        fault("hard 1 p1", 8);
        fault("har p=1", 3);
        fault("har1 p=1", 3);
        fault("eas 1 p=1", 3);
        fault("ane 1", 3);
        fault("hard 1 P=1", 7);
        fault("easy 1 !!!!!p=1", 11);
        fault("easy 1 (!(!(p=1))))", 11);
        fault("easy 1 (((p=1|(!p=1))))", 15);
        fault("easz 1 p=1", 3);
        fault("anew 1 ", 6);
        fault("anew 123", 7);
        fault("anew 1;;", 7);
        fault("anew 1;anew 1;", 14);
        fault("anew 1;anew 1;anew 1;anew 1;anew 1;anew 1;anew 1;anew 1;anew 1;anew 1;", 69);
        fault("hard 1 " + "p=1&".repeat(23) + "p", 100);
    }

    private static void fault(String text, int place) {
        SungHarvest x = new SungHarvest();
        due.is("11: village of '" + text + "'", Due.village(x, text), -10 - place);
        due.is("11: then the text is empty", x.count(5), 0);
    }

    private static void truths() {
        truth("p=3", true);
        truth("p<3", false);
        truth("p>2", true);
        truth("k=1", true);
        truth("v=8", true);
        truth("n=2", true);
        truth("m=4", true);
        truth("m<5&m>3", true);
        truth("d=2", true);
        truth("d=12", false);
        truth("n=02", true);
        truth("n=2&(n=2)", true);
        truth("n=2&(n=1|n=2)&(n=2|n=1)", true);
        truth("n<99", true);
        truth("!n=2", false);
        truth("!!n=2", true);
        truth("!!!!n=2", true);
        truth("!n=1&!n=3", true);
        truth("!(n=1|n=2)", false);
        truth("n=1|n=2&v=8", true);
        truth("n=2|n=1&v=7", true);
        truth("n=1&v=7|p=3", true);
        truth("(n=2|n=1)&v=7", false);
        truth("n=1|n=1|n=2", true);
        truth("n=2&n=2&n=1", false);
        truth("!n=2|n=2", true);
        truth("((((n=2))))&!(!(n=1))", false);
        truth("p=3" + "|n=1".repeat(22), true);
        truth("p=2" + "|n=1".repeat(22), false);
        for (int memory : new int[] {0, 9, 10, 50, 59, 90, 99}) {
            SungHarvest y = new SungHarvest();
            y.singer(0, 0, 0, memory);
            due.is("11: reads m", Due.village(y, "hard 5 m=" + memory / 10 + ";hard 0 m<99"), 0);
            due.is("11: m is MEMORY by 10, cut", y.of(0, 6), 5);
        }
        SungHarvest x = new SungHarvest();
        x.singer(0, 0, 0, 99);
        due.is("11: ten clauses", Due.village(x, "hard 9 p=0" + ";anew 1".repeat(7) + ";easy 3 n=0;hard 50 n>0"), 0);
        due.is("11: together", x.of(0, 6), 6);
    }

    /** Looks at an E with SINGER 3: a BASS, v 8, two PARTS, MEMORY 49, on DAY 12. */
    private static void truth(String e, boolean holds) {
        SungHarvest x = new SungHarvest();
        x.pass(12);
        for (int n = 0; n < 3; n++) {
            x.singer(0, 0, 0, 0);
        }
        x.singer(1, 8, 192, 49);
        due.is("11: reads " + e, Due.village(x, "hard 90 " + e), 0);
        due.is("11: " + e, x.of(3, 6), 4 + 8 + (holds ? 90 : 0));
    }

    private static void promise12() {
        SungHarvest x = new SungHarvest();
        x.singer(0, 0, 7, 50);
        x.singer(0, 0, 14, 50);
        x.singer(0, 0, 28, 50);
        x.sacks(0, 1);
        x.sacks(4, 99);
        x.pass(2);
        due.is("12: DAY", x.told(0), 2);
        due.is("12: ANEW", x.told(1), 50);
        due.is("12: KEPT", x.told(2), 31);
        due.is("12: SACKS of all KEPT", x.told(3), 1 + 10 + 10 + 10 + 99);
        due.is("12: SAFE", x.told(4), 14);
        due.is("12: nobody AWAY", x.told(5), 0);
        x.away(2, true);
        due.is("12: KEPT by the others", x.told(2), 15);
        due.is("12: SACKS of these", x.told(3), 31);
        due.is("12: SAFE by the others", x.told(4), 6);
        due.is("12: AWAY", x.told(5), 4);
        x.away(2, false);
        x.set(0, 0, 65);
        x.set(1, 0, 2);
        x.set(2, 0, 193);
        due.is("12: SAFE by the first and the third", x.told(4), 65);
        due.is("12: above", x.told(6), -1);
        due.is("12: below", x.told(-1), -1);
    }
}
