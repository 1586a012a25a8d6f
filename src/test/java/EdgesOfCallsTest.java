/**
 * What promises 1 to 34 refuse: for each call the last number that is taken and the first that is refused on either side,
 * which refusal comes first where several are due, and that nothing has changed by a refusal or a question.
 */
public final class EdgesOfCallsTest {
    private static final int NONE = -1, BAD = -2, STATE = -3, FULL = -4, LACKING = -5, NONE_BELOW = -10001;
    private static final int NOTHING = -11, CAST = -12, PLACE = -13, SIZE = -14;
    private static final long NO = Long.MIN_VALUE;
    private static final int LEAST = Integer.MIN_VALUE, MOST = Integer.MAX_VALUE;
    private static final String NEW = "";
    private static final String RICH = Edges.RICH, CROWDED = Edges.CROWDED;
    private static final Due due = new Due();
    private static final Edges edges = new Edges(due);

    public static void main(String[] args) {
        aNewObject();
        singer();
        of();
        part();
        set();
        away();
        sacks();
        teach();
        row();
        feed();
        village();
        told();
        pass();
        on();
        choir();
        see();
        can();
        odds();
        mean();
        plan();
        ends();
        book();
        looked();
        judge();
        image();
        undo();
        act();
        trace();
        taken();
        count();
        tape();
        item();
        read();
        shift();
        due.end("edges of the calls");
    }

    private static void aNewObject() {
        String noSingers = "1: no SINGERS";
        edges.answers(noSingers, NEW, "count 0", 0);
        edges.answers(noSingers, NEW, "of 0 0", NONE_BELOW);
        edges.answers(noSingers, NEW, "taken 0 0", NOTHING);
        edges.answers(noSingers, NEW, "told 2", 0);
        edges.answers(noSingers, NEW, "told 3", 0);
        edges.answers(noSingers, NEW, "told 4", 0);
        edges.answers(noSingers, NEW, "told 5", 0);
        edges.answers(noSingers, NEW, "pass 60", 60);
        edges.answers(noSingers, NEW, "singer 0 0 0 0", 0);
        String noVillage = "1: no VILLAGE";
        edges.answers(noVillage, NEW, "count 1", 0);
        edges.answers(noVillage, NEW, "told 1", 50);
        edges.answers(noVillage, NEW, "count 5", 0);
        edges.answers(noVillage, NEW, "say anew 0, village", 0);
        for (int what = 2; what <= 6; what++) {
            edges.answers("1: nothing is told by hand, nothing ran", NEW, "count " + what, 0);
        }
    }

    private static void singer() {
        edges.range("2: NONE: kind", RICH, "singer # 9 255 99", 0, 6, 4, NONE);
        edges.range("2: BAD: v", RICH, "singer 6 # 255 99", 0, 9, 4, BAD);
        edges.range("2: BAD: parts", RICH, "singer 6 9 # 99", 0, 255, 4, BAD);
        edges.range("2: BAD: memory", RICH, "singer 6 9 255 #", 0, 99, 4, BAD);
        edges.answers("2: its number, 5 the last", RICH + ", singer 0 0 0 0", "singer 0 0 0 0", 5);
        edges.refuses("2: FULL: 6", CROWDED, "singer 0 0 0 0", FULL);
        edges.refuses("2: FULL: 6", CROWDED, "singer 6 9 255 99", FULL);
        edges.refuses("2: NONE ahead of BAD", RICH, "singer 7 10 0 0", NONE);
        edges.refuses("2: NONE ahead of BAD", RICH, "singer -1 0 256 0", NONE);
        edges.refuses("2: NONE ahead of BAD", RICH, "singer 7 0 0 100", NONE);
        edges.refuses("2: NONE ahead of FULL", CROWDED, "singer 7 0 0 0", NONE);
        edges.refuses("2: BAD ahead of FULL", CROWDED, "singer 0 10 0 0", BAD);
        edges.refuses("2: BAD ahead of FULL", CROWDED, "singer 0 0 -1 0", BAD);
        edges.refuses("2: BAD ahead of FULL", CROWDED, "singer 0 0 0 100", BAD);
        edges.refuses("2: NONE ahead of all", CROWDED, "singer -1 -1 -1 -1", NONE);
        for (int kind = 0; kind <= 6; kind++) {
            String most = "singer " + kind + " 9 255 99";
            edges.answers("2: a SINGER of KIND", most, "of 0 0", kind);
            edges.answers("2: v 9", most, "of 0 1", 9);
            edges.answers("2: who HOLDS PARTS, all", most, "of 0 2", 255);
            edges.answers("2: MEMORY 99", most, "of 0 3", 99);
            edges.answers("2: not AWAY at first", most, "of 0 4", 0);
            edges.answers("2: FORGOT 0 at first", most, "of 0 5", 0);
        }
        String least = "singer 6 0 0 0";
        for (int what = 1; what <= 6; what++) {
            edges.answers("2: v, PARTS, MEMORY 0", least, "of 0 " + what, 0);
        }
        for (int d = 0; d < 4; d++) {
            edges.answers("2: ROW 0 at first", least, "row 0 " + d + " 5", 0);
        }
        String again = RICH + ", away 3 true, row 0 0 9, image, singer 6 0 1 0, row 4 3 9, away 4 true, pass 1, undo, singer 6 0 1 0";
        edges.answers("2: one who comes behind an undo is not AWAY", again, "of 4 4", 0);
        edges.answers("2: nor has another's ROW", again, "row 4 3 0", 0);
        edges.answers("2: nor another's FORGOT", again, "of 4 5", 0);
    }

    private static void of() {
        edges.answers("3: of the first", RICH, "of 0 0", 6);
        edges.answers("3: of the last", RICH, "of 3 0", 5);
        edges.refusesEach("3: -10001: no such SINGER", RICH, "of # 0", NONE_BELOW, -1, 4, 5, 6, LEAST, MOST);
        edges.refusesEach("3: -10001: no such SINGER", CROWDED, "of # 6", NONE_BELOW, -1, 6, LEAST, MOST);
        edges.refusesEach("3: -10001: no such what", RICH, "of 0 #", NONE_BELOW, -1, 9, LEAST, MOST);
        edges.refuses("3: -10001: neither", RICH, "of 4 9", NONE_BELOW);
        edges.refusesEach("3: -10001: nobody is there", NEW, "of 0 #", NONE_BELOW, 0, 1, 2, 3, 4, 5, 6, 7, 8);
        long[] dues = {1, 2, 3, 60, 0, 0, 9, 1, 60};
        for (int what = 0; what <= 8; what++) {
            edges.changesNothing("3: what is asked", RICH, "of 1 " + what, dues[what]);
        }
        edges.changesNothing("3: STRAIN, though it is AWAY", RICH, "of 2 6", 4);
        edges.changesNothing("3: whether it is AWAY", RICH, "of 2 4", 1);
        edges.answers("3: STRAIN below 0", "singer 0 0 0 0, say easy 99 p=0, village", "of 0 6", -99);
        edges.answers("3: MEMORIES: -5", "singer 0 0 0 0, see 0 0 1, see 0 0 2", "of 0 8", LACKING);
        edges.answers("3: MEMORIES: how many, none", "singer 0 0 0 0, see 0 0 1, see 0 0 2", "of 0 7", 0);
    }

    private static void part() {
        edges.range("4: NONE: no such PART", RICH, "part # 1", 0, 7, 1, NONE);
        edges.refusesEach("4: NONE: no such PART", RICH, "part # 0", NONE, -1, 8, LEAST, MOST);
        edges.answers("4: SACKS of the first", RICH, "part 0 0", 0);
        edges.answers("4: SACKS of the last", RICH, "part 7 0", 10);
        edges.answers("4: the first what", RICH, "part 1 0", 99);
        edges.answers("4: the last what", RICH, "part 0 4", 2);
        edges.refusesEach("4: NONE: no such what", RICH, "part 0 #", NONE, -1, 5, LEAST, MOST);
        edges.refuses("4: NONE: neither", RICH, "part 8 5", NONE);
        for (int what = 0; what <= 4; what++) {
            int[] dues = {10, 1, LACKING, LACKING, 1};
            edges.changesNothing("4: what is asked", RICH, "part 7 " + what, dues[what]);
        }
    }

    private static void set() {
        edges.range("5: BAD: HOLDS 0 .. 255", RICH, "set 0 0 #", 0, 255, 77, BAD);
        edges.range("5: BAD: MEMORY 0 .. 99", RICH, "set 0 1 #", 0, 99, 55, BAD);
        edges.answers("5: HOLDS becomes 255", RICH + ", set 0 0 255", "of 0 2", 255);
        edges.answers("5: HOLDS becomes 0", RICH + ", set 0 0 0", "of 0 2", 0);
        edges.answers("5: MEMORY becomes 99", RICH + ", set 0 1 99", "of 0 3", 99);
        edges.answers("5: MEMORY becomes 0", RICH + ", set 0 1 0", "of 0 3", 0);
        edges.answers("5: MEMORY 100 is no HOLDS", RICH + ", set 0 0 100", "of 0 2", 100);
        edges.answers("5: the last SINGER", RICH, "set 3 0 0", 160);
        edges.refusesEach("5: NONE: singer", RICH, "set # 0 1", NONE, -1, 4, LEAST, MOST);
        edges.refusesEach("5: NONE: what", RICH, "set 0 # 1", NONE, -1, 2, LEAST, MOST);
        edges.refuses("5: NONE (singer) ahead of BAD", RICH, "set 4 0 256", NONE);
        edges.refuses("5: NONE (singer) ahead of BAD", RICH, "set -1 1 100", NONE);
        edges.refuses("5: NONE (what) ahead of BAD", RICH, "set 0 2 256", NONE);
        edges.refuses("5: NONE (what) ahead of BAD", RICH, "set 0 -1 -1", NONE);
        edges.refuses("5: NONE: nobody", NEW, "set 0 0 0", NONE);
        edges.answers("5: one who is AWAY, too", RICH, "set 2 1 99", 35);
    }

    private static void away() {
        edges.answers("6: the first", RICH, "away 0 true", 0);
        edges.answers("6: the last", RICH, "away 3 true", 0);
        edges.answers("6: whether it was: it was", RICH, "away 2 false", 1);
        edges.changesNothing("6: AWAY already", RICH, "away 2 true", 1);
        edges.changesNothing("6: not AWAY already", RICH, "away 0 false", 0);
        edges.refusesEach("6: NONE", RICH, "away # true", NONE, -1, 4, LEAST, MOST);
        edges.refusesEach("6: NONE", CROWDED, "away # true", NONE, -1, 6, 32, LEAST, MOST);
        edges.refuses("6: NONE: nobody", NEW, "away 0 true", NONE);
        edges.refuses("6: NONE: nobody", NEW, "away 0 false", NONE);
        edges.answers("6: the sixth", CROWDED + ", away 5 true", "told 5", 32);
    }

    private static void sacks() {
        edges.range("7: BAD: 0 .. 99", RICH, "sacks 2 #", 0, 99, 7, BAD);
        edges.answers("7: they become 0", RICH + ", sacks 1 0", "part 1 0", 0);
        edges.answers("7: they become 99", RICH + ", sacks 7 99", "part 7 0", 99);
        edges.answers("7: the first PART", RICH, "sacks 0 1", 0);
        edges.answers("7: the last PART", RICH, "sacks 7 1", 10);
        edges.refusesEach("7: NONE", RICH, "sacks # 1", NONE, -1, 8, LEAST, MOST);
        edges.refuses("7: NONE ahead of BAD", RICH, "sacks 8 100", NONE);
        edges.refuses("7: NONE ahead of BAD", RICH, "sacks -1 -1", NONE);
    }

    private static void teach() {
        edges.answers("8: the first PART", RICH, "teach 3 1 0", 3);
        edges.answers("8: the last PART", RICH, "teach 1 3 7", 3);
        edges.changesNothing("8: one who HOLDS it already", RICH, "teach 0 1 0", 4);
        edges.answers("8: all eight", "singer 0 0 127 9, singer 0 0 128 9", "teach 0 1 7", 8);
        edges.answers("8: the first one", "singer 0 0 0 9, singer 0 0 128 9", "teach 0 1 7", 1);
        edges.refusesEach("8: NONE: singer", RICH, "teach # 1 0", NONE, -1, 4, LEAST, MOST);
        edges.refusesEach("8: NONE: other", RICH, "teach 0 # 0", NONE, -1, 4, LEAST, MOST);
        edges.refusesEach("8: NONE: part", RICH, "teach 0 1 #", NONE, -1, 8, LEAST, MOST);
        edges.refusesEach("8: NONE: both", RICH, "teach # # 0", NONE, -1, 4);
        edges.refusesEach("8: NONE (part) ahead of BAD", RICH, "teach 1 1 #", NONE, -1, 8);
        edges.refuses("8: NONE (singer) ahead of STATE", RICH, "teach 4 2 0", NONE);
        edges.refuses("8: NONE (other) ahead of STATE", RICH, "teach 2 4 0", NONE);
        edges.refusesEach("8: NONE (part) ahead of STATE", RICH, "teach 0 2 #", NONE, -1, 8);
        edges.refuses("8: BAD: one is both", RICH, "teach 1 1 0", BAD);
        edges.refuses("8: BAD: one is both, not HELD", RICH, "teach 1 1 7", BAD);
        edges.refuses("8: BAD ahead of STATE (AWAY)", RICH, "teach 2 2 1", BAD);
        edges.refuses("8: BAD ahead of STATE (AWAY, not HELD)", RICH, "teach 2 2 0", BAD);
        edges.refuses("8: STATE: the one is AWAY", RICH, "teach 2 1 0", STATE);
        edges.refuses("8: STATE: the one is AWAY, and HOLDS it", RICH, "teach 2 1 1", STATE);
        edges.refuses("8: STATE: the other is AWAY", RICH, "teach 3 2 1", STATE);
        edges.refuses("8: STATE: both are AWAY", RICH + ", away 1 true", "teach 2 1 0", STATE);
        edges.refuses("8: STATE: the other does not HOLD it", RICH, "teach 3 1 2", STATE);
        edges.refuses("8: STATE: only the one HOLDS it", RICH, "teach 3 1 7", STATE);
    }

    private static void row() {
        edges.range("9: BAD: 0 .. 9", RICH, "row 0 0 #", 0, 9, 3, BAD);
        edges.answers("9: it becomes 9", RICH + ", row 0 0 9", "row 0 0 1", 9);
        edges.answers("9: it becomes 0", RICH + ", row 0 1 0", "row 0 1 1", 0);
        edges.answers("9: the first of the ROW", RICH, "row 0 0 5", 3);
        edges.answers("9: the last of the ROW", RICH, "row 0 3 5", 7);
        edges.answers("9: the sixth SINGER", "6*singer 6 0 0 0, row 5 3 9", "row 5 3 0", 9);
        edges.refusesEach("9: NONE: singer", RICH, "row # 0 1", NONE, -1, 4, LEAST, MOST);
        edges.refusesEach("9: NONE: part", RICH, "row 0 # 1", NONE, -1, 4, LEAST, MOST);
        edges.refuses("9: NONE (singer) ahead of BAD", RICH, "row 4 0 10", NONE);
        edges.refuses("9: NONE (part) ahead of BAD", RICH, "row 0 4 10", NONE);
        edges.refusesEach("9: NONE (part) ahead of STATE", RICH, "row 1 # 1", NONE, -1, 4);
        edges.refuses("9: NONE ahead of both", RICH, "row 1 4 10", NONE);
        edges.refusesEach("9: BAD ahead of STATE", RICH, "row 1 0 #", BAD, -1, 10);
        for (int kind = 0; kind <= 5; kind++) {
            edges.refuses("9: STATE: another KIND", "singer " + kind + " 1 3 40", "row 0 0 1", STATE);
        }
        edges.answers("9: a TOLD one who is AWAY", RICH + ", away 0 true", "row 0 3 5", 7);
    }

    private static void feed() {
        edges.range("10: BAD: 0 .. 127", RICH, "feed #", 0, 127, 11, BAD);
        edges.answers("10: how many it has, the first", NEW, "feed 0", 1);
        edges.answers("10: the hundredth", "99*feed 0", "feed 127", 100);
        String hundred = "say hard 10 p<1" + "|p<1".repeat(21) + "|p<01, singer 0 0 0 9";
        edges.refusesEach("10: FULL", hundred, "feed #", FULL, 0, 59, 127);
        edges.answers("10: FULL, THE TEXT is as it was", hundred + ", feed 59", "village", 0);
        edges.refusesEach("10: BAD ahead of FULL", "100*feed 97", "feed #", BAD, -1, 128, LEAST, MOST);
        edges.answers("10: behind THE TEXT's", "say anew 1, feed 55, village", "told 1", 17);
    }

    private static void village() {
        edges.answers("11: its number, 0", "say anew 1", "village", 0);
        edges.answers("11: the sixth", "say anew 1, village, say anew 1, village, say anew 1, village, say anew 1, village, "
            + "say anew 1, village, say anew 9", "village", 5);
        edges.refuses("11: FULL: there are 6", Edges.SIX_VILLAGES, "village", FULL);
        edges.answers("11: FULL, THE TEXT stays", Edges.SIX_VILLAGES + ", village", "count 5", 7);
        edges.answers("11: FULL, the sixth holds", Edges.SIX_VILLAGES + ", village", "told 1", 16);
        edges.answers("11: FULL, though another holds by undo", Edges.SIX_VILLAGES + ", undo", "village", FULL);
        edges.answers("11: which is the fifth", Edges.SIX_VILLAGES + ", undo, village", "told 1", 15);
        edges.refuses("11: FULL ahead of a FAULT", Edges.SIX_VILLAGES + ", feed 0", "village", FULL);
        edges.refuses("11: FULL ahead of a FAULT, no text", "say anew 1, village, say anew 1, village, say anew 1, village, "
            + "say anew 1, village, say anew 1, village, say anew 9, village", "village", FULL);
        String fault = "say anew 7;hard 4 p=0, village, singer 0 0 1 9, say anew 8;x";
        edges.answers("11: -10 less the FAULT", fault, "village", -17);
        edges.answers("11: by a FAULT THE TEXT is empty", fault + ", village", "count 5", 0);
        edges.answers("11: by a FAULT no VILLAGE comes", fault + ", village", "count 1", 1);
        edges.answers("11: by a FAULT the one that held holds: ANEW", fault + ", village", "told 1", 7);
        edges.answers("11: by a FAULT the one that held holds: CLAUSES", fault + ", village", "of 0 6", 6);
        edges.answers("11: by a FAULT without a VILLAGE there is none", "feed 0, village", "told 1", 50);
        edges.answers("11: the number behind a FAULT", fault + ", village, say anew 9", "village", 1);
        edges.answers("11: THE TEXT is empty then", "say anew 1, village", "count 5", 0);
        edges.answers("11: so that the next begins anew", "say anew 1, village, say anew 2, village", "told 1", 2);
        edges.changesNothing("11: no text: -10", "singer 0 0 1 9, pass 2", "village", -10);
    }

    private static void told() {
        edges.refusesEach("12: NONE", RICH, "told #", NONE, -1, 6, LEAST, MOST);
        int[] dues = {2, 12, 239, 0 + 99 + 7 + 41 + 10 + 10 + 10, 1, 4};
        for (int what = 0; what <= 5; what++) {
            edges.changesNothing("12: what is asked", RICH, "told " + what, dues[what]);
        }
    }

    private static void pass() {
        edges.answers("13: 0 DAYS", RICH, "pass 0", 2);
        edges.changesNothing("13: 0 DAYS", RICH, "pass 0", 2);
        edges.answers("13: 60 DAYS", RICH, "pass 60", 62);
        edges.refusesEach("13: BAD", RICH, "pass #", BAD, -1, 61, LEAST, MOST);
        edges.answers("13: 9999 is no STATE", "166*pass 60", "pass 39", 9999);
        edges.refusesEach("13: STATE: above 9999", "166*pass 60, singer 0 0 3 50", "pass #", STATE, 40, 60);
        edges.refusesEach("13: STATE: above 9999", Edges.LAST_DAY, "pass #", STATE, 1, 2, 60);
        edges.changesNothing("13: 0 DAYS on the last", Edges.LAST_DAY, "pass 0", 9999);
        edges.refusesEach("13: BAD ahead of STATE", Edges.LAST_DAY, "pass #", BAD, -1, 61, LEAST, MOST);
    }

    private static void on() {
        edges.changesNothing("14: n 0", RICH, "on 0 0", 239);
        edges.changesNothing("14: n 60", RICH, "on 60 1", 20);
        edges.changesNothing("14: MEMORY of the first", RICH, "on 0 10", 55);
        edges.changesNothing("14: MEMORY of the last", RICH, "on 0 13", 40);
        edges.changesNothing("14: what the first HOLDS", RICH, "on 0 20", 77);
        edges.changesNothing("14: what the last HOLDS", RICH, "on 0 23", 160);
        edges.refusesEach("14: NONE: what", RICH, "on 0 #", NONE, -1, 2, 9, 14, 15, 16, 19, 24, 25, 26, 29, 30, 33, LEAST, MOST);
        edges.refusesEach("14: NONE: what", CROWDED, "on 0 #", NONE, -1, 2, 9, 16, 19, 26, 30, 35);
        edges.refusesEach("14: NONE: nobody is there", NEW, "on 0 #", NONE, 10, 15, 20, 25);
        for (int what : new int[] {0, 1, 10, 13, 20, 23}) {
            edges.refusesEach("14: BAD: n", RICH, "on # " + what, BAD, -1, 61, LEAST, MOST);
        }
        edges.refusesEach("14: NONE ahead of BAD", RICH, "on 61 #", NONE, -1, 2, 9, 14, 19, 24, 30);
        edges.answers("14: the sixth's MEMORY", CROWDED, "on 0 15", 20);
        edges.answers("14: what the sixth HOLDS", CROWDED, "on 0 25", 128);
    }

    private static void choir() {
        edges.changesNothing("15: an empty set", RICH, "choir 0 0", 0);
        edges.changesNothing("15: an empty set twice", RICH, "choir 0 1", 0);
        edges.changesNothing("15: the full set", RICH, "choir 255 0", LACKING);
        edges.answers("15: the full set", CROWDED, "choir 255 0", 16);
        edges.answers("15: the full set twice", CROWDED, "choir 255 1", LACKING);
        edges.refusesEach("15: NONE: what", RICH, "choir 1 #", NONE, -1, 2, LEAST, MOST);
        edges.refusesEach("15: BAD: parts", RICH, "choir # 0", BAD, -1, 256, LEAST, MOST);
        edges.refusesEach("15: BAD: parts", RICH, "choir # 1", BAD, -1, 256, LEAST, MOST);
        edges.refuses("15: NONE ahead of BAD", RICH, "choir 256 2", NONE);
        edges.refuses("15: NONE ahead of BAD", RICH, "choir -1 -1", NONE);
    }

    private static void see() {
        edges.range("16: BAD: n 0 .. 12", RICH, "see 0 # 50", 0, 12, 3, BAD);
        edges.range("16: BAD: memory 0 .. 99", RICH, "see 0 5 #", 0, 99, 3, BAD);
        edges.answers("16: the last SINGER", RICH, "see 3 0 0", 3);
        edges.answers("16: the first row", "singer 0 0 0 0", "see 0 0 0", 1);
        edges.answers("16: the fifth row", RICH + ", 2*see 0 0 0", "see 3 12 99", 5);
        edges.refusesEach("16: NONE", RICH, "see # 0 0", NONE, -2, 4, LEAST, MOST);
        edges.refuses("16: NONE: nobody", NEW, "see 0 0 0", NONE);
        edges.refuses("16: FULL: 5", CROWDED, "see 0 0 88", FULL);
        edges.refuses("16: NONE ahead of BAD (n)", RICH, "see 4 13 0", NONE);
        edges.refuses("16: NONE ahead of BAD (memory)", RICH, "see -2 0 100", NONE);
        edges.refusesEach("16: NONE ahead of FULL", CROWDED, "see # 0 0", NONE, -2, 6);
        edges.refusesEach("16: BAD (n) ahead of FULL", CROWDED, "see 0 # 0", BAD, -1, 13);
        edges.refusesEach("16: BAD (memory) ahead of FULL", CROWDED, "see 0 0 #", BAD, -1, 100);
        edges.answers("16: singer -1: 0", CROWDED, "see -1 0 0", 0);
        edges.answers("16: singer -1: none then", CROWDED + ", see -1 0 0", "count 2", 0);
        edges.answers("16: singer -1: nothing SEEN is looked at", CROWDED + ", set 5 1 77, see -1 0 0", "of 0 7", 100);
        edges.answers("16: singer -1: n and memory do not matter", RICH, "see -1 13 -1", 0);
        edges.answers("16: singer -1: n and memory do not matter", RICH + ", see -1 MIN MAX", "count 2", 0);
        edges.changesNothing("16: singer -1: there were none", "singer 0 0 1 5", "see -1 0 0", 0);
        edges.answers("16: singer -1: nobody is there", NEW, "see -1 0 0", 0);
        edges.answers("16: then the first comes again", CROWDED + ", see -1 0 0", "see 0 0 0", 1);
    }

    private static void can() {
        edges.changesNothing("17: how many", RICH, "can 0 0", 10);
        edges.changesNothing("17: the least", RICH, "can 0 1", 0);
        edges.changesNothing("17: the last SINGER", RICH, "can 3 0", 10);
        edges.changesNothing("17: one who is AWAY", RICH, "can 2 0", 10);
        edges.changesNothing("17: none", RICH + ", see 0 0 1", "can 0 0", 0);
        edges.changesNothing("17: -5", RICH + ", see 0 0 1", "can 0 1", LACKING);
        edges.refusesEach("17: NONE: singer", RICH, "can # 0", NONE, -1, 4, LEAST, MOST);
        edges.refusesEach("17: NONE: what", RICH, "can 0 #", NONE, -1, 2, LEAST, MOST);
        edges.refuses("17: NONE: neither", RICH, "can 4 2", NONE);
        edges.refuses("17: NONE: nobody", NEW, "can 0 0", NONE);
    }

    private static void odds() {
        edges.changesNothing("18: grain 0", RICH, "odds 0 0 0", 1);
        edges.changesNothing("18: grain 7, above the line", RICH, "odds 7 0 0", 2);
        edges.changesNothing("18: grain 7, below the line", RICH, "odds 7 0 1", 3);
        edges.changesNothing("18: n 20", RICH, "odds 1 20 1", 1);
        edges.refusesEach("18: NO: grain", RICH, "odds # 0 0", NO, -1, 8, LEAST, MOST);
        edges.refusesEach("18: NO: n", RICH, "odds 0 # 0", NO, -1, 21, LEAST, MOST);
        edges.refusesEach("18: NO: part", RICH, "odds 0 0 #", NO, -1, 2, LEAST, MOST);
        edges.refuses("18: NO: none is as told", RICH, "odds 8 21 2", NO);
        edges.refuses("18: NO: there are none", NEW, "odds 0 0 0", NO);
        edges.refuses("18: NO: there are none", NEW, "odds 0 0 1", NO);
        String allAway = RICH + ", away 0 true, away 1 true, away 3 true";
        edges.refuses("18: NO: all are AWAY", allAway, "odds 0 0 0", NO);
        edges.refuses("18: NO: all are AWAY", allAway, "odds 0 20 1", NO);
        edges.answers("18: but for one", allAway + ", away 3 false", "odds 7 0 0", 0);
        edges.answers("18: but for one, 0 by 1", allAway + ", away 3 false", "odds 7 0 1", 1);
    }

    private static void mean() {
        edges.changesNothing("19: n 0, above the line", RICH, "mean 0 0", 177);
        edges.changesNothing("19: n 0, below the line", RICH, "mean 0 1", 7);
        edges.answers("19: n 60", "singer 2 0 1 61", "mean 60 0", 10);
        edges.refusesEach("19: NO: n", RICH, "mean # 0", NO, -1, 61, LEAST, MOST);
        edges.refusesEach("19: NO: part", RICH, "mean 0 #", NO, -1, 2, LEAST, MOST);
        edges.refuses("19: NO: neither", RICH, "mean 61 2", NO);
        edges.refuses("19: NO: none is KEPT, nobody is there", NEW, "mean 0 0", NO);
        edges.refuses("19: NO: none is KEPT behind 60", "singer 2 0 1 60", "mean 60 0", NO);
        edges.refuses("19: NO: none is KEPT behind 60", "singer 2 0 1 60", "mean 60 1", NO);
        edges.answers("19: but behind 59", "singer 2 0 1 60", "mean 59 0", 10);
    }

    private static void plan() {
        edges.answers("20: what 0", RICH, "plan 0 0", 5);
        edges.answers("20: what 3", RICH, "plan 3 0", 5);
        edges.refusesEach("20: NONE: what (0 .. 3)", RICH, "plan # 0", NONE, -2, 4, LEAST, MOST);
        for (int what = 1; what <= 3; what++) {
            edges.answers("20: the last SINGER", RICH, "plan " + what + " 3", 5);
            edges.refusesEach("20: NONE: singer", RICH, "plan " + what + " #", NONE, -1, 4, LEAST, MOST);
            edges.refuses("20: NONE: nobody", NEW, "plan " + what + " 0", NONE);
        }
        for (String any : new String[] {"-1", "4", "6", "MIN", "MAX"}) {
            edges.answers("20: singer (but by 0)", RICH, "plan 0 " + any, 5);
            edges.answers("20: such a row is a DAY", "singer 0 0 3 1, plan 0 " + any, "ends 0", 2);
        }
        edges.answers("20: the tenth row", RICH + ", 5*plan 0 0", "plan 1 3", 10);
        edges.refuses("20: FULL: 10", CROWDED, "plan 0 0", FULL);
        edges.refuses("20: FULL: 10", CROWDED, "plan 2 0", FULL);
        edges.refusesEach("20: NONE (what) ahead of FULL", CROWDED, "plan # 0", NONE, -2, 4);
        edges.refusesEach("20: NONE (singer) ahead of FULL", CROWDED, "plan 1 #", NONE, -1, 6);
        edges.answers("20: what -1: 0", CROWDED, "plan -1 0", 0);
        edges.answers("20: what -1: it is empty then", CROWDED + ", plan -1 0", "count 3", 0);
        edges.answers("20: what -1: nothing of it goes", CROWDED + ", plan -1 0", "ends 0", 255);
        edges.answers("20: what -1: singer does not matter", CROWDED + ", plan -1 MAX", "count 3", 0);
        edges.changesNothing("20: what -1: it was empty", "singer 0 0 1 5", "plan -1 0", 0);
        edges.answers("20: then the first comes again", CROWDED + ", plan -1 0", "plan 0 0", 1);
    }

    private static void ends() {
        edges.changesNothing("21: KEPT", RICH, "ends 0", 79);
        edges.changesNothing("21: FORGOT", RICH, "ends 1", 1);
        edges.refusesEach("21: NONE", RICH, "ends #", NONE, -1, 2, LEAST, MOST);
        edges.answers("21: an empty PLAN", "singer 0 0 5 1", "ends 0", 5);
        edges.answers("21: an empty PLAN", "singer 0 0 5 1, pass 1", "ends 1", 1);
        edges.answers("21: nobody", NEW, "ends 0", 0);
        edges.answers("21: nobody", NEW, "ends 1", 0);
    }

    private static void book() {
        edges.range("22: BAD: sacks", RICH, "book 0 #", 0, 99, 4, BAD);
        edges.answers("22: PART 0", RICH, "book 0 5", 4);
        edges.answers("22: PART 7", RICH, "book 7 5", 4);
        edges.refusesEach("22: NONE", RICH, "book # 5", NONE, -2, 8, LEAST, MOST);
        edges.refuses("22: NONE ahead of BAD", RICH, "book 8 100", NONE);
        edges.refuses("22: NONE ahead of BAD", RICH, "book -2 -1", NONE);
        edges.answers("22: the eighth row", RICH + ", 4*book 0 0", "book 0 0", 8);
        edges.refuses("22: FULL: 8", CROWDED, "book 0 0", FULL);
        edges.refusesEach("22: NONE ahead of FULL", CROWDED, "book # 0", NONE, -2, 8);
        edges.refusesEach("22: BAD ahead of FULL", CROWDED, "book 0 #", BAD, -1, 100);
        edges.answers("22: part -1: 0", CROWDED, "book -1 0", 0);
        edges.answers("22: part -1: it is empty then", CROWDED + ", book -1 0", "count 4", 0);
        edges.answers("22: part -1: nothing is otherwise", CROWDED + ", book -1 0", "looked", LACKING);
        edges.answers("22: part -1: sacks do not matter", CROWDED + ", book -1 100", "count 4", 0);
        edges.answers("22: part -1: sacks do not matter", CROWDED + ", book -1 MIN", "count 4", 0);
        edges.changesNothing("22: part -1: it was empty", "singer 0 0 1 5", "book -1 0", 0);
        edges.answers("22: then the first comes again", CROWDED + ", book -1 0", "book 0 0", 1);
    }

    private static void looked() {
        edges.changesNothing("23: -5: an empty BOOK", NEW, "looked", LACKING);
        edges.changesNothing("23: -5: all is so", RICH + ", sacks 3 40, sacks 2 8", "looked", LACKING);
        edges.changesNothing("23: the first of these rows", RICH + ", sacks 1 0", "looked", 0);
        edges.changesNothing("23: a row between", RICH, "looked", 1);
        edges.changesNothing("23: the eighth row", CROWDED, "looked", 7);
        edges.answers("23: a row of 0", "book 3 0", "looked", 0);
        edges.answers("23: a row of 99", "sacks 3 99, book 3 99", "looked", LACKING);
        edges.answers("23: one less", "sacks 3 98, book 3 99", "looked", 0);
    }

    private static void judge() {
        String bytes = "tape 5 0 8, item 5 0 10, item 5 1 10, item 5 2 10, item 5 3 10, item 5 4 10, item 5 5 10, item 5 6 10";
        edges.refusesEach("24: NONE: tape", RICH, "judge # 0", NONE, -1, 6, LEAST, MOST);
        edges.refuses("24: NONE, the place below 0", RICH, "judge 6 -1", NONE);
        for (int tape = 1; tape <= 4; tape++) {
            edges.refusesEach("24: CAST: no row of bytes", RICH, "judge " + tape + " #", CAST, 0, 1, 60, -1, LEAST, MOST);
            edges.refuses("24: CAST: a row of none, but not of bytes", "tape 0 " + tape + " 0", "judge 0 0", CAST);
        }
        edges.changesNothing("24: the TAPE holds nothing", RICH, "judge 5 0", 100);
        edges.answers("24: the TAPE holds nothing, and the place is below 0", RICH, "judge 5 -1", 100);
        edges.answers("24: the TAPE holds nothing no more", RICH + ", tape 0 -1 0", "judge 0 0", 100);
        edges.answers("24: a row of none", "tape 0 0 0", "judge 0 0", 100);
        edges.changesNothing("24: the first PART is otherwise", RICH, "judge 0 1", 0);
        edges.answers("24: the place below 0", RICH, "judge 0 -1", 100);
        edges.answers("24: the place far below 0", RICH, "judge 0 MIN", 100);
        edges.answers("24: the last PART is otherwise", bytes, "judge 5 0", 7);
        edges.answers("24: none, -5", bytes + ", item 5 7 10", "judge 5 0", LACKING);
        edges.answers("24: the row ends ahead of the last PART", bytes + ", item 5 7 10", "judge 5 1", 107);
        edges.answers("24: one is looked at", bytes + ", item 5 7 10", "judge 5 7", 101);
        edges.answers("24: the last in the row is otherwise", bytes, "judge 5 7", 0);
        edges.answers("24: otherwise ahead of the end", bytes, "judge 5 1", 6);
        edges.answers("24: none is looked at", bytes, "judge 5 8", 100);
        edges.answers("24: behind the end", bytes, "judge 5 9", 100);
        edges.answers("24: far behind the end", bytes, "judge 5 MAX", 100);
        edges.answers("24: more than 8 are not looked at", "tape 0 0 9, item 0 0 10, shift 0 0 0 1 1, shift 0 0 0 2 2, "
            + "shift 0 0 0 4 4, item 0 8 3", "judge 0 0", LACKING);
        edges.answers("24: from place 1 on", "tape 0 0 9, item 0 1 10, shift 0 1 0 2 1, shift 0 1 0 3 2, shift 0 1 0 5 4",
            "judge 0 1", LACKING);
        edges.answers("24: a row of 60, its last 8", "tape 0 0 60, item 0 52 10, shift 0 52 0 53 1, shift 0 52 0 54 2, "
            + "shift 0 52 0 56 4", "judge 0 52", LACKING);
        edges.answers("24: SACKS 0", "sacks 0 0, tape 0 0 1", "judge 0 0", 101);
        edges.answers("24: SACKS 99", "sacks 0 99, tape 0 0 1, item 0 0 99", "judge 0 0", 101);
        edges.answers("24: a byte below 0", "tape 0 0 1, item 0 0 -10", "judge 0 0", 0);
        edges.answers("24: its lowest bits", "tape 0 0 1, item 0 0 266", "judge 0 0", 101);
    }

    private static void image() {
        edges.answers("25: nobody", NEW, "image", 0);
        edges.answers("25: how many SINGERS", RICH, "image", 4);
        edges.answers("25: six", CROWDED, "image", 6);
        edges.answers("25: the newer one", RICH + ", image", "undo", 4);
        edges.answers("25: the newer one's DAY", RICH + ", image, pass 3, undo", "told 0", 2);
        edges.answers("25: what comes behind it is not in it", "image, singer 0 0 0 0", "undo", 0);
    }

    private static void undo() {
        edges.refuses("26: STATE: there is none", NEW, "undo", STATE);
        edges.refuses("26: STATE: there is none", CROWDED, "undo", STATE);
        edges.answers("26: of a new object: nobody", "image, " + CROWDED + ", undo", "count 0", 0);
        for (int what = 2; what <= 4; what++) {
            edges.answers("26: of a new object: nothing told by hand", "image, " + CROWDED + ", undo", "count " + what, 0);
        }
        edges.answers("26: six are not four", "6*singer 0 0 0 0, image, undo", "singer 0 0 0 0", FULL);
        edges.answers("26: four are not six", RICH + ", 2*singer 0 0 0 0, undo, singer 0 0 0 0", "singer 0 0 0 0", 5);
        edges.changesNothing("26: a second time", RICH + ", undo", "undo", 4);
        edges.changesNothing("26: at once behind image()", RICH + ", image", "undo", 4);
        edges.answers("26: from the last DAY back", Edges.LAST_DAY + ", image, undo", "pass 1", STATE);
        edges.answers("26: from the last DAY back to the first", "image, " + Edges.LAST_DAY + ", undo", "pass 60", 60);
    }

    private static void act() {
        edges.answers("27: hums", RICH, "act 3 0 4", 15);
        edges.answers("27: tells", RICH, "act 0 2 5", -5);
        for (String no : new String[] {"act -1 0 5", "act 4 0 5", "act MIN 0 5", "act MAX 0 5",
            "act 0 -1 5", "act 0 3 5", "act 0 MIN 5", "act 0 MAX 5", "act 4 3 5"}) {
            edges.answers("27: 0: no such SINGER, act", RICH, no, 0);
            edges.answers("27: and no TRACE then", RICH + ", " + no, "trace 0", NONE);
            edges.answers("27: and no bodies that ran", RICH + ", " + no, "count 6", 0);
            edges.changesNothing("27: where there was no TRACE", CROWDED, no.replace(" 4 ", " 6 "), 0);
        }
        edges.changesNothing("27: nobody is there", NEW, "act 0 0 5", 0);
        edges.changesNothing("27: the same act again", RICH, "act 0 2 5", -5);
        edges.answers("27: a shorter TRACE behind a longer one", RICH + ", act 0 0 5", "count 6", 2);
        edges.answers("27: a shorter TRACE behind a longer one", RICH + ", act 0 0 5", "trace 2", NONE);
    }

    private static void trace() {
        edges.refusesEach("28: NONE: nothing ran yet", NEW, "trace #", NONE, 0, -1, 1, LEAST, MOST);
        edges.changesNothing("28: the first", RICH, "trace 0", 40);
        edges.changesNothing("28: the twelfth, the last that there can be", RICH, "trace 11", 10);
        edges.refusesEach("28: NONE", RICH, "trace #", NONE, -1, 12, 19, 20, 21, LEAST, MOST);
        edges.refusesEach("28: NONE", RICH + ", act 1 0 5", "trace #", NONE, -1, 1, 2);
    }

    private static void taken() {
        edges.changesNothing("29: for its own KIND", RICH, "taken 0 6", 6);
        edges.changesNothing("29: for the topmost KIND", RICH, "taken 3 0", 5);
        edges.refusesEach("29: BAD: k", RICH, "taken 0 #", BAD, -1, 7, LEAST, MOST);
        edges.refusesEach("29: NOTHING: no such SINGER", RICH, "taken # 0", NOTHING, -1, 4, LEAST, MOST);
        edges.refuses("29: NOTHING: nobody", NEW, "taken 0 0", NOTHING);
        edges.refusesEach("29: BAD ahead of NOTHING", RICH, "taken 4 #", BAD, -1, 7);
        edges.refusesEach("29: CAST", RICH, "taken 0 #", CAST, 1, 2, 4, 5);
        edges.refusesEach("29: CAST: one under it", RICH, "taken 1 #", CAST, 2, 3, 4, 5, 6);
    }

    private static void count() {
        int[] dues = {4, 2, 2, 4, 3, 10, 12};
        for (int what = 0; what <= 6; what++) {
            edges.changesNothing("30: how many", RICH, "count " + what, dues[what]);
        }
        edges.refusesEach("30: BAD", RICH, "count #", BAD, -1, 7, LEAST, MOST);
        edges.answers("30: six SINGERS", CROWDED, "count 0", 6);
        edges.answers("30: six VILLAGES", Edges.SIX_VILLAGES, "count 1", 6);
        edges.answers("30: five SEEN", CROWDED, "count 2", 5);
        edges.answers("30: ten of the PLAN", CROWDED, "count 3", 10);
        edges.answers("30: eight of the BOOK", CROWDED, "count 4", 8);
        edges.answers("30: a hundred bytes", "100*feed 0", "count 5", 100);
    }

    private static void tape() {
        edges.range("31: NONE: tape", RICH, "tape # 0 3", 0, 5, 1, NONE);
        edges.refusesEach("31: NONE: tape", RICH, "tape # -1 0", NONE, -1, 6, LEAST, MOST);
        for (int sort = 0; sort <= 4; sort++) {
            String call = "tape 3 " + sort + " ";
            edges.answers("31: n 0", RICH, call + "0", 1);
            edges.answers("31: n 0: no place", RICH + ", " + call + "0", "item 3 0 1", PLACE);
            edges.answers("31: n 0: a row all the same", RICH + ", " + call + "0", "shift 3 0 3 0 0", 0);
            edges.answers("31: n 60", RICH, call + "60", 1);
            edges.answers("31: n 60: the last place", RICH + ", " + call + "60", "item 3 59 1", 1);
            edges.answers("31: n 60: no place more", RICH + ", " + call + "60", "item 3 60 1", PLACE);
            edges.answers("31: all 0", RICH + ", " + call + "60", "read 3 59", 0);
            edges.refusesEach("31: BAD: n above 60", RICH, call + "#", BAD, 61, MOST);
            edges.refusesEach("31: SIZE", RICH, call + "#", SIZE, -1, LEAST);
        }
        edges.refusesEach("31: BAD: sort", RICH, "tape 3 # 5", BAD, -2, 5, LEAST, MOST);
        edges.refusesEach("31: NONE ahead of BAD (sort)", RICH, "tape 6 # 5", NONE, -2, 5);
        edges.refuses("31: NONE ahead of BAD (n)", RICH, "tape -1 0 61", NONE);
        edges.refuses("31: NONE ahead of SIZE", RICH, "tape 6 0 -1", NONE);
        edges.refusesEach("31: BAD (sort) ahead of SIZE", RICH, "tape 3 # -1", BAD, -2, 5);
        edges.refuses("31: BAD by both", RICH, "tape 3 5 61", BAD);
        for (String n : new String[] {"0", "60", "61", "-1", "MIN", "MAX"}) {
            edges.answers("31: sort -1: n does not matter", RICH, "tape 3 -1 " + n, 1);
            edges.answers("31: sort -1: it holds nothing", RICH + ", tape 3 -1 " + n, "item 3 0 1", NOTHING);
            edges.answers("31: sort -1: nothing to read", RICH + ", tape 3 -1 " + n, "read 3 59", NO);
        }
        edges.changesNothing("31: sort -1: it held nothing", RICH, "tape 5 -1 7", 1);
        edges.answers("31: a row again, all 0", RICH + ", tape 3 -1 0, tape 3 3 60", "read 3 59", 0);
    }

    private static void item() {
        edges.refusesEach("32: NONE", RICH, "item # 0 1", NONE, -1, 6, LEAST, MOST);
        edges.refusesEach("32: NONE ahead of PLACE", RICH, "item # -1 1", NONE, -1, 6);
        edges.refusesEach("32: NOTHING", RICH, "item 5 # 1", NOTHING, 0, 1, 59);
        edges.refusesEach("32: NOTHING ahead of PLACE", RICH, "item 5 # 1", NOTHING, -1, 60, LEAST, MOST);
        int[] lengths = {9, 3, 3, 60, 2};
        for (int tape = 0; tape <= 4; tape++) {
            String call = "item " + tape + " ";
            int last = lengths[tape] - 1;
            edges.answers("32: the first place", RICH, call + "0 1", 1);
            edges.answers("32: the first place", RICH + ", " + call + "0 1", "read " + tape + " 0", 1);
            edges.answers("32: the last place", RICH, call + last + " 1", 1);
            edges.answers("32: the last place", RICH + ", " + call + last + " 1", "read " + tape + " " + last, 1);
            edges.refusesEach("32: PLACE", RICH, call + "# 1", PLACE, -1, last + 1, LEAST, MOST);
        }
        lowestBits();
    }

    private static void lowestBits() {
        String[] given = {"0", "1", "-1", "2", "127", "128", "-128", "-129", "255", "256", "32767", "32768", "-32768", "-32769",
            "65535", "65536", "2147483647", "2147483648", "-2147483648", "-2147483649", "4294967295", "4294967296", "LMAX", "LMIN"};
        long[][] dues = {
            {0, 1, -1, 2, 127, -128, -128, 127, -1, 0, -1, 0, 0, -1, -1, 0, -1, 0, 0, -1, -1, 0, -1, 0},
            {0, 1, -1, 2, 127, 128, -128, -129, 255, 256, 32767, -32768, -32768, 32767, -1, 0, -1, 0, 0, -1, -1, 0, -1, 0},
            {0, 1, -1, 2, 127, 128, -128, -129, 255, 256, 32767, 32768, -32768, -32769, 65535, 65536,
                MOST, LEAST, LEAST, MOST, -1, 0, -1, 0},
            {0, 1, -1, 2, 127, 128, -128, -129, 255, 256, 32767, 32768, -32768, -32769, 65535, 65536,
                MOST, 2147483648L, LEAST, -2147483649L, 4294967295L, 4294967296L, Long.MAX_VALUE, Long.MIN_VALUE},
            {0, 1, 1, 1, 1, 1, 1, 1, 1, 1, 1, 1, 1, 1, 1, 1, 1, 1, 1, 1, 1, 1, 1, 1},
        };
        for (int sort = 0; sort <= 4; sort++) {
            for (int n = 0; n < given.length; n++) {
                String ahead = "tape 0 " + sort + " 1, item 0 0 " + given[n];
                edges.answers("32: its lowest bits, sort " + sort + ", " + given[n], ahead, "read 0 0", dues[sort][n]);
            }
        }
    }

    private static void read() {
        edges.changesNothing("33: the first place", RICH, "read 1 0", 300);
        edges.changesNothing("33: the last place", RICH, "read 3 59", -1);
        edges.refusesEach("33: NO: no such TAPE", RICH, "read # 0", NO, -1, 6, LEAST, MOST);
        edges.refusesEach("33: NO: nothing there", RICH, "read 5 #", NO, -1, 0, 1, 59, 60);
        edges.refusesEach("33: NO: no such place", RICH, "read 0 #", NO, -1, 9, LEAST, MOST);
        edges.refusesEach("33: NO: no such place", RICH, "read 3 #", NO, -1, 60, LEAST, MOST);
        edges.refuses("33: NO: a row of none", "tape 0 3 0", "read 0 0", NO);
        edges.answers("33: behind a shorter row", RICH + ", tape 3 3 59", "read 3 59", NO);
    }

    private static void shift() {
        edges.refusesEach("34: NONE: tape", RICH, "shift # 0 1 0 1", NONE, -1, 6, LEAST, MOST);
        edges.refusesEach("34: NONE: other", RICH, "shift 1 0 # 0 1", NONE, -1, 6, LEAST, MOST);
        edges.refuses("34: NONE ahead of NOTHING", RICH, "shift 5 0 6 0 1", NONE);
        edges.refuses("34: NONE ahead of NOTHING", RICH, "shift -1 0 5 0 1", NONE);
        edges.refuses("34: NONE ahead of PLACE", RICH, "shift 6 -1 1 -1 -1", NONE);
        edges.refuses("34: NOTHING: in the one", RICH, "shift 5 0 0 0 1", NOTHING);
        edges.refuses("34: NOTHING: in the other", RICH, "shift 0 0 5 0 1", NOTHING);
        edges.refuses("34: NOTHING: in the same", RICH, "shift 5 0 5 0 0", NOTHING);
        edges.refuses("34: NOTHING ahead of PLACE", RICH, "shift 0 -1 5 0 1", NOTHING);
        edges.refuses("34: NOTHING ahead of PLACE", RICH, "shift 5 0 0 0 -1", NOTHING);
        for (int tape = 0; tape <= 4; tape++) {
            for (int other = 0; other <= 4; other++) {
                if (tape != other) {
                    String call = "shift " + tape + " 0 " + other + " 0 ";
                    edges.refuses("34: CAST: of unlike sorts", RICH, call + "1", CAST);
                    edges.refuses("34: CAST though none come", RICH, call + "0", CAST);
                    edges.refuses("34: CAST ahead of PLACE", RICH, call + "-1", CAST);
                    edges.refuses("34: CAST ahead of PLACE", RICH, call + "61", CAST);
                }
            }
        }
        places();
        asTheyWere();
    }

    private static void places() {
        String ahead = RICH + ", tape 5 3 4, item 5 0 11, item 5 1 12, item 5 2 13, item 5 3 14";
        edges.refusesEach("34: PLACE: n below 0", ahead, "shift 5 0 3 0 #", PLACE, -1, LEAST);
        edges.refusesEach("34: PLACE: i below 0", ahead, "shift 5 # 3 0 1", PLACE, -1, LEAST);
        edges.refusesEach("34: PLACE: j below 0", ahead, "shift 5 0 3 # 1", PLACE, -1, LEAST);
        edges.refusesEach("34: PLACE: i below 0, none come", ahead, "shift 5 # 3 0 0", PLACE, -1, LEAST);
        edges.refusesEach("34: PLACE: j below 0, none come", ahead, "shift 5 0 3 # 0", PLACE, -1, LEAST);
        edges.refusesEach("34: PLACE: n beyond the one's end", ahead, "shift 5 0 3 0 #", PLACE, 5, MOST);
        edges.refusesEach("34: PLACE: n beyond the other's end", ahead, "shift 3 0 5 0 #", PLACE, 5, MOST);
        edges.refusesEach("34: PLACE: i beyond the one's end", ahead, "shift 5 # 3 0 1", PLACE, 4, 5, MOST);
        edges.refusesEach("34: PLACE: j beyond the other's end", ahead, "shift 3 0 5 # 1", PLACE, 4, 5, MOST);
        edges.refusesEach("34: PLACE: i beyond the end, none come", ahead, "shift 5 # 3 0 0", PLACE, 5, MOST);
        edges.refusesEach("34: PLACE: j beyond the end, none come", ahead, "shift 3 0 5 # 0", PLACE, 5, MOST);
        edges.refuses("34: PLACE: i and n together", ahead, "shift 5 1 3 0 4", PLACE);
        edges.refuses("34: PLACE: j and n together", ahead, "shift 3 0 5 1 4", PLACE);
        edges.refuses("34: PLACE: i and n wrap", ahead, "shift 5 2147483647 3 0 2147483647", PLACE);
        edges.refuses("34: PLACE: j and n wrap", ahead, "shift 5 0 3 2147483647 1", PLACE);
        edges.changesNothing("34: none come, n 0", ahead, "shift 5 0 3 0 0", 0);
        edges.changesNothing("34: none come, at both ends", ahead, "shift 5 4 3 60 0", 0);
        edges.answers("34: all come", ahead, "shift 5 0 3 0 4", 4);
        edges.answers("34: to the other's end", ahead, "shift 5 0 3 56 4", 4);
        edges.answers("34: to the other's end", ahead + ", shift 5 0 3 56 4", "read 3 59", 14);
        edges.answers("34: from the one's end", ahead, "shift 3 56 5 0 4", 4);
        edges.answers("34: from the one's end", ahead + ", shift 3 56 5 0 4", "read 5 3", -1);
        edges.answers("34: the last alone", ahead + ", shift 5 3 3 0 1", "read 3 0", 14);
        edges.answers("34: sixty", "tape 0 3 60, tape 1 3 60, item 0 59 7, shift 0 0 1 0 60", "read 1 59", 7);
        edges.answers("34: rows of none", "tape 0 3 0, tape 1 3 0", "shift 0 0 1 0 0", 0);
        edges.refuses("34: rows of none", "tape 0 3 0, tape 1 3 0", "shift 0 0 1 0 1", PLACE);
    }

    private static void asTheyWere() {
        String ahead = "tape 0 2 4, item 0 0 11, item 0 1 12, item 0 2 13, item 0 3 14, ";
        int[][] up = {{11, 11, 12, 13}, {12, 13, 14, 14}, {11, 12, 13, 14}};
        String[] calls = {"shift 0 0 0 1 3", "shift 0 1 0 0 3", "shift 0 0 0 0 4"};
        for (int n = 0; n < calls.length; n++) {
            for (int i = 0; i < 4; i++) {
                edges.answers("34: the same, as they all were before, " + calls[n], ahead + calls[n], "read 0 " + i, up[n][i]);
            }
        }
        edges.changesNothing("34: all onto itself", ahead, "shift 0 0 0 0 4", 4);
    }
}
