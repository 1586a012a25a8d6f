/** Promises 24 to 34: judging, the image, acts, tapes. */
public final class ImageActsTapesTest {
    private static final Due due = new Due();
    private static final long NO = SungHarvest.NO;

    public static void main(String[] args) {
        promise24();
        promises25and26();
        imageKeepsRows();
        imageLeavesOut();
        promises27and28();
        promise29();
        promise30();
        promise31();
        promises32and33();
        promise34();
        due.end("promises 24 to 34");
    }

    private static void promise24() {
        SungHarvest x = new SungHarvest();
        due.is("24: tape below", x.judge(-1, 0), -1);
        due.is("24: tape above", x.judge(6, -1), -1);
        due.is("24: nothing there", x.judge(0, 0), 100);
        for (int sort = 1; sort <= 4; sort++) {
            x.tape(0, sort, 8);
            due.is("24: no bytes", x.judge(0, 0), -12);
            due.is("24: no bytes, place below 0", x.judge(0, -1), -12);
        }
        x.tape(0, 0, 10);
        due.is("24: the first is otherwise", x.judge(0, 0), 0);
        for (int i = 1; i < 9; i++) {
            x.item(0, i, 10);
            due.is("24: the first that is otherwise", x.judge(0, 1), i < 8 ? i : -5);
        }
        due.is("24: the last is otherwise", x.judge(0, 2), 7);
        x.item(0, 9, 10);
        due.is("24: none", x.judge(0, 2), -5);
        due.is("24: the row ends", x.judge(0, 3), 107);
        due.is("24: one is looked at", x.judge(0, 9), 101);
        due.is("24: at the end", x.judge(0, 10), 100);
        due.is("24: behind the end", x.judge(0, 11), 100);
        due.is("24: far behind the end", x.judge(0, Integer.MAX_VALUE), 100);
        due.is("24: place below 0", x.judge(0, -1), 100);
        due.is("24: place far below 0", x.judge(0, Integer.MIN_VALUE), 100);
        x.sacks(3, 99);
        due.is("24: otherwise ahead of the end", x.judge(0, 4), 3);
        x.tape(0, 0, 0);
        due.is("24: a row of none", x.judge(0, 0), 100);
        due.is("24: the last TAPE", x.judge(5, 0), 100);
    }

    private static void promises25and26() {
        SungHarvest x = new SungHarvest();
        due.is("26: there is none", x.undo(), -3);
        Due.village(x, "anew 11");
        x.singer(6, 5, 77, 88);
        x.singer(1, 2, 3, 4);
        x.away(1, true);
        x.row(0, 2, 8);
        x.sacks(4, 44);
        x.see(0, 3, 33);
        x.plan(1, 0);
        x.book(2, 22);
        x.pass(1);
        int memory = x.of(0, 3);
        due.is("25: image", x.image(), 2);
        Due.village(x, "anew 22");
        x.set(0, 0, 0);
        x.set(0, 1, 0);
        x.set(1, 0, 255);
        x.away(1, false);
        x.row(0, 2, 1);
        x.sacks(4, 1);
        x.see(-1, 0, 0);
        x.see(1, 1, 1);
        x.see(1, 2, 2);
        x.plan(-1, 0);
        x.plan(3, 1);
        x.plan(0, 1);
        x.book(-1, 0);
        x.book(4, 44);
        x.book(4, 45);
        x.singer(6, 9, 9, 9);
        x.row(2, 3, 7);
        x.away(2, true);
        x.pass(7);
        for (int time = 0; time < 2; time++) {
            due.is("26: undo", x.undo(), 2);
            due.is("26: SINGERS", x.count(0), 2);
            due.is("26: DAY", x.told(0), 1);
            due.is("26: the VILLAGE that held", x.told(1), 11);
            due.is("26: AWAY", x.told(5), 2);
            due.is("26: HOLDS", x.of(0, 2), 77);
            due.is("26: MEMORY", x.of(0, 3), memory);
            due.is("26: FORGOT", x.of(0, 5), 0);
            due.is("26: the other HOLDS", x.of(1, 2), 3);
            due.is("26: SACKS", x.part(4, 0), 44);
            due.is("26: SEEN", x.count(2), 1);
            due.is("26: the PLAN", x.count(3), 1);
            due.is("26: the BOOK", x.count(4), 1);
            due.is("26: the PLAN's row", x.ends(0), 0);
            due.is("26: the BOOK's row", x.looked(), 0);
            due.is("26: the ROW", x.row(0, 2, 0), 8);
            x.sacks(4, 3);
        }
        due.is("26: a new one comes", x.singer(6, 1, 1, 1), 2);
        due.is("26: not AWAY", x.of(2, 4), 0);
        due.is("26: FORGOT nothing", x.of(2, 5), 0);
        due.is("26: a ROW of its own", x.row(2, 3, 1), 0);
        due.is("26: there are two VILLAGES", x.count(1), 2);
        due.is("26: the next VILLAGE", Due.village(x, "anew 33"), 2);
        due.is("26: it holds", x.told(1), 33);
        due.is("25: taken again", x.image(), 3);
        x.singer(0, 0, 0, 0);
        due.is("26: as the latest", x.undo(), 3);
    }

    /** Rows are changed without a change of how many there are. */
    private static void imageKeepsRows() {
        SungHarvest x = new SungHarvest();
        for (int p = 0; p < 6; p++) {
            x.singer(6, p, 1, 50);
            for (int d = 0; d < 4; d++) {
                x.row(p, d, p + d);
            }
        }
        x.away(3, true);
        x.see(3, 12, 41);
        x.book(2, 22);
        x.plan(1, 5);
        x.image();
        int[] others = {x.of(3, 8), x.looked(), x.ends(0)};
        due.is("25: SEEN", others[0], 41);
        due.is("25: the BOOK", others[1], 0);
        for (int p = 0; p < 6; p++) {
            for (int d = 0; d < 4; d++) {
                x.row(p, d, 9);
            }
        }
        x.see(-1, 0, 0);
        x.see(4, 0, 3);
        x.book(-1, 0);
        x.book(3, 10);
        x.undo();
        due.is("26: SEEN", x.of(3, 8), 41);
        x.away(3, false);
        due.is("26: SEEN of SINGER 3", x.of(4, 7) + x.of(3, 7), 0);
        x.away(3, true);
        due.is("26: the BOOK's SACKS", x.looked(), 0);
        x.sacks(2, 22);
        due.is("26: the BOOK's PART", x.looked(), -5);
        for (int p = 0; p < 6; p++) {
            for (int d = 0; d < 4; d++) {
                due.is("26: ROW of " + p + " on " + d, x.row(p, d, 0), p + d);
            }
        }
    }

    private static void imageLeavesOut() {
        SungHarvest x = new SungHarvest();
        due.is("25: an image of nobody", x.image(), 0);
        x.singer(0, 3, 1, 50);
        Due.village(x, "anew 22");
        x.tape(0, 2, 3);
        x.item(0, 1, 5);
        x.feed('a');
        x.act(0, 1, 4);
        due.is("26: nobody", x.undo(), 0);
        due.is("26: no VILLAGE holds", x.told(1), 50);
        due.is("26: the VILLAGE is there", x.count(1), 1);
        due.is("26: TAPES stay", x.read(0, 1), 5);
        due.is("26: THE TEXT stays", x.count(5), 1);
        due.is("26: THE TRACE stays", x.count(6), 2);
        due.is("26: its first body", x.trace(0), 11);
        due.is("26: its second body", x.trace(1), 10);
    }

    private static void promises27and28() {
        acts(0, 0, 9, 12, "10");
        acts(0, 1, 9, 7, "11 10");
        acts(0, 2, 9, 14, "12 11 10");
        acts(1, 0, 9, 12, "10");
        acts(1, 1, 9, 7 ^ 6, "20 11 10");
        acts(1, 2, 9, (7 ^ 6) * 2, "12 20 11 10");
        acts(2, 0, 9, 30, "30 10");
        acts(2, 1, 9, 25, "11 30 10");
        acts(2, 2, 9, 50, "12 11 30 10");
        acts(3, 0, 9, 12, "10");
        acts(3, 1, 9, 7, "11 10");
        acts(3, 2, 9, 14 - 1, "40 12 11 10 11 10");
        acts(4, 0, 9, -12, "50 10");
        acts(4, 1, 9, -13 - 5 ^ 6, "51 20 11 50 10");
        acts(4, 2, 9, (-13 - 5 ^ 6) * 2, "12 51 20 11 50 10");
        acts(5, 0, 9, 30, "30 10");
        acts(5, 1, 9, 25, "11 30 10");
        acts(5, 2, 9, (18 + 3 - 5) * 2, "60 12 11 30 10");
        acts(6, 0, 9, 12 ^ 5, "71 10");
        acts(6, 1, 9, (12 ^ 5) - 5 + 5, "70 11 71 10 10");
        acts(6, 2, 9, 2 * ((12 ^ 5) - 5 + 5) + ((4 ^ 5) - 5 + 5), "40 12 70 11 71 10 10 70 11 71 10 10");
        acts(2, 0, Integer.MAX_VALUE, Integer.MAX_VALUE * 3 + 3, "30 10");
        acts(0, 0, Integer.MAX_VALUE, Integer.MIN_VALUE + 2, "10");
        SungHarvest x = new SungHarvest();
        due.is("27: no SINGER", x.act(0, 0, 5), 0);
        x.singer(0, 0, 0, 0);
        due.is("27: an act", x.act(0, 2, 5), 10);
        due.is("27: bodies", x.count(6), 3);
        due.is("27: act above", x.act(0, 3, 5), 0);
        due.is("27: no TRACE then", x.count(6), 0);
        due.is("28: no TRACE then", x.trace(0), -1);
        x.act(0, 0, 5);
        due.is("27: act below", x.act(0, -1, 5), 0);
        due.is("27: no TRACE then, either", x.count(6), 0);
        x.act(0, 0, 5);
        due.is("27: SINGER beyond", x.act(1, 0, 5), 0);
        due.is("27: no TRACE by that", x.trace(0), -1);
        due.is("27: SINGER below", x.act(-1, 0, 5), 0);
    }

    /** One of a KIND as SINGER 3 with v 5. */
    private static void acts(int kind, int act, int x, int answer, String trace) {
        SungHarvest s = new SungHarvest();
        for (int n = 0; n < 3; n++) {
            s.singer(0, 0, 0, 0);
        }
        s.singer(kind, 5, 0, 0);
        due.is("27: KIND " + kind + " act " + act, s.act(3, act, x), answer);
        String[] bodies = trace.split(" ");
        due.is("30: bodies", s.count(6), bodies.length);
        for (int i = 0; i < bodies.length; i++) {
            due.is("28: KIND " + kind + " act " + act + " body " + i, s.trace(i), Integer.parseInt(bodies[i]));
        }
        due.is("28: behind the end", s.trace(bodies.length), -1);
        due.is("28: below", s.trace(-1), -1);
        due.is("28: far", s.trace(Integer.MAX_VALUE), -1);
    }

    private static void promise29() {
        boolean[][] under = {
            {true, false, false, false, false, false, false},
            {true, true, false, false, false, false, false},
            {true, false, true, false, false, false, false},
            {true, false, false, true, false, false, false},
            {true, true, false, false, true, false, false},
            {true, false, true, false, false, true, false},
            {true, false, false, true, false, false, true},
        };
        for (int kind = 0; kind < 7; kind++) {
            SungHarvest x = new SungHarvest();
            x.singer(kind, 0, 0, 0);
            for (int k = 0; k < 7; k++) {
                due.is("29: KIND " + kind + " as " + k, x.taken(0, k), under[kind][k] ? kind : -12);
            }
            due.is("29: k above", x.taken(0, 7), -2);
            due.is("29: BAD ahead of NOTHING", x.taken(1, -1), -2);
            due.is("29: no such SINGER", x.taken(1, 0), -11);
            due.is("29: SINGER below", x.taken(-1, 6), -11);
        }
    }

    private static void promise30() {
        SungHarvest x = new SungHarvest();
        x.singer(0, 0, 0, 0);
        x.singer(0, 0, 0, 0);
        Due.village(x, "anew 1");
        x.see(0, 0, 0);
        x.see(0, 0, 0);
        x.see(0, 0, 0);
        for (int n = 0; n < 4; n++) {
            x.plan(0, 0);
        }
        for (int n = 0; n < 5; n++) {
            x.book(0, 0);
        }
        Due.feed(x, "abcdef");
        x.act(0, 2, 0);
        int[] dues = {2, 1, 3, 4, 5, 6, 3};
        for (int what = 0; what < dues.length; what++) {
            due.is("30: count(" + what + ")", x.count(what), dues[what]);
        }
        due.is("30: above", x.count(7), -2);
        due.is("30: below", x.count(-1), -2);
    }

    private static void promise31() {
        SungHarvest x = new SungHarvest();
        due.is("31: tape above", x.tape(6, 9, -1), -1);
        due.is("31: tape below", x.tape(-1, 0, 0), -1);
        due.is("31: sort above", x.tape(0, 5, -1), -2);
        due.is("31: sort below", x.tape(0, -2, 0), -2);
        due.is("31: n above", x.tape(0, 0, 61), -2);
        due.is("31: n below", x.tape(0, 4, -1), -14);
        due.is("31: nothing there yet", x.item(0, 0, 0), -11);
        due.is("31: sixty", x.tape(5, 3, 60), 1);
        due.is("31: the last place", x.item(5, 59, 7), 1);
        due.is("31: a refusal changes nothing", x.tape(5, 3, -1), -14);
        due.is("31: it is there", x.read(5, 59), 7);
        due.is("31: anew", x.tape(5, 3, 60), 1);
        due.is("31: all 0", x.read(5, 59), 0);
        x.item(5, 1, 7);
        x.tape(5, 2, 1);
        due.is("31: shorter", x.read(5, 1), NO);
        x.tape(5, 2, 2);
        due.is("31: longer, all 0", x.read(5, 1), 0);
        due.is("31: none", x.tape(4, 0, 0), 1);
        due.is("31: a row of none has no place", x.item(4, 0, 0), -13);
        due.is("31: nothing", x.tape(4, -1, -5), 1);
        due.is("31: nothing, n does not matter", x.tape(5, -1, 61), 1);
        due.is("31: nothing is there", x.item(4, 0, 0), -11);
        due.is("31: nothing to read", x.read(5, 0), NO);
    }

    private static void promises32and33() {
        SungHarvest x = new SungHarvest();
        due.is("32: tape above", x.item(6, 0, 0), -1);
        due.is("32: tape below", x.item(-1, 0, 0), -1);
        due.is("32: NOTHING ahead of PLACE", x.item(0, -1, 0), -11);
        due.is("33: tape above", x.read(6, 0), NO);
        due.is("33: tape below", x.read(-1, 0), NO);
        due.is("33: nothing there", x.read(0, 0), NO);
        long[] given = {127, 128, -129, 32767, 32768, 65537, 0x7FFFFFFFL, 0x80000000L, 0x100000000L, Long.MAX_VALUE, Long.MIN_VALUE, -1, 0, 256};
        for (int sort = 0; sort < 5; sort++) {
            x.tape(sort, sort, 3);
            for (long v : given) {
                long kept = sort == 0 ? (byte) v : sort == 1 ? (short) v : sort == 2 ? (int) v : sort == 3 ? v : v != 0 ? 1 : 0;
                due.is("32: item", x.item(sort, 1, v), 1);
                due.is("33: sort " + sort + " of " + v, x.read(sort, 1), kept);
            }
            due.is("33: ahead of it", x.read(sort, 0), 0);
            due.is("33: behind it", x.read(sort, 2), 0);
            due.is("32: place below", x.item(sort, -1, 1), -13);
            due.is("32: place above", x.item(sort, 3, 1), -13);
            due.is("33: place below", x.read(sort, -1), NO);
            due.is("33: place above", x.read(sort, 3), NO);
        }
    }

    private static void promise34() {
        SungHarvest x = new SungHarvest();
        due.is("34: tape", x.shift(6, 0, 0, 0, 0), -1);
        due.is("34: other", x.shift(0, 0, 6, 0, 0), -1);
        due.is("34: tape below", x.shift(-1, 0, 0, 0, 0), -1);
        due.is("34: other below", x.shift(0, 0, -1, 0, 0), -1);
        due.is("34: nothing in both", x.shift(0, -1, 1, 0, 0), -11);
        x.tape(0, 2, 5);
        due.is("34: nothing in the other", x.shift(0, 0, 1, 0, 0), -11);
        due.is("34: nothing in the one", x.shift(1, 0, 0, 0, 0), -11);
        x.tape(1, 3, 5);
        due.is("34: unlike", x.shift(0, 0, 1, 0, -1), -12);
        x.tape(1, 2, 3);
        for (int i = 0; i < 5; i++) {
            x.item(0, i, i + 1);
        }
        due.is("34: n below", x.shift(0, 0, 1, 0, -1), -13);
        due.is("34: i below", x.shift(0, -1, 1, 0, 0), -13);
        due.is("34: j below", x.shift(0, 0, 1, -1, 0), -13);
        due.is("34: beyond the one", x.shift(0, 3, 1, 0, 3), -13);
        due.is("34: beyond the other", x.shift(0, 0, 1, 1, 3), -13);
        due.is("34: i behind the end", x.shift(0, 6, 1, 0, 0), -13);
        due.is("34: j behind the end", x.shift(0, 0, 1, 4, 0), -13);
        due.is("34: n far", x.shift(0, 1, 1, 1, Integer.MAX_VALUE), -13);
        due.is("34: i far", x.shift(0, Integer.MAX_VALUE, 1, 0, 1), -13);
        due.is("34: n and i far", x.shift(0, Integer.MAX_VALUE, 0, 0, Integer.MAX_VALUE), -13);
        due.is("34: none, at both ends", x.shift(0, 5, 1, 3, 0), 0);
        due.is("34: nothing came yet", x.read(1, 0), 0);
        due.is("34: three", x.shift(0, 2, 1, 0, 3), 3);
        items(x, 1, "3 4 5");
        due.is("34: up the same", x.shift(0, 0, 0, 1, 4), 4);
        items(x, 0, "1 1 2 3 4");
        due.is("34: down the same", x.shift(0, 2, 0, 0, 3), 3);
        items(x, 0, "2 3 4 3 4");
        due.is("34: all onto itself", x.shift(0, 0, 0, 0, 5), 5);
        items(x, 0, "2 3 4 3 4");
        x.tape(5, 2, 1);
        due.is("34: to the last TAPE", x.shift(0, 1, 5, 0, 1), 1);
        items(x, 5, "3");
        due.is("34: from the last TAPE", x.shift(5, 0, 0, 0, 1), 1);
        items(x, 0, "3 3 4 3 4");
    }

    private static void items(SungHarvest x, int tape, String dues) {
        String[] each = dues.split(" ");
        for (int i = 0; i < each.length; i++) {
            due.is("34: tape " + tape + " item " + i, x.read(tape, i), Long.parseLong(each[i]));
        }
    }
}
