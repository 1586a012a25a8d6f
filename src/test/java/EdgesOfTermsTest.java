/** The edges that the terms name (the document's parts 1, 2 and 3), sentence by sentence; the text's are in EdgesOfTextTest. */
public final class EdgesOfTermsTest {
    private static final int LACKING = -5;
    private static final long NO = Long.MIN_VALUE;
    private static final String LAST_DAY = "166*pass 60, pass 39, ";
    private static final Due due = new Due();
    private static final Edges edges = new Edges(due);

    public static void main(String[] args) {
        sacks();
        singers();
        villages();
        anew();
        bass();
        child();
        old();
        deserter();
        hummer();
        told();
        memoryOnADay();
        forgettingOnADay();
        aheadOfADay();
        kept();
        manyDays();
        daysBeyondTheLast();
        on();
        lost();
        heir();
        choirs();
        safe();
        seen();
        memories();
        can();
        odds();
        mean();
        plans();
        books();
        actsWrap();
        traces();
        images();
        tapes();
        due.end("edges of the terms");
    }

    /** "PARTS 0 .. 7 each have SACKS (0 .. 99; 10 at first)". */
    private static void sacks() {
        for (int part = 0; part < 8; part++) {
            edges.answers("SACKS: 10 at first", "", "part " + part + " 0", 10);
            edges.answers("SACKS: 0", "sacks " + part + " 0", "part " + part + " 0", 0);
            edges.answers("SACKS: 99", "sacks " + part + " 99", "part " + part + " 0", 99);
            edges.answers("SACKS of PART " + part + " alone", "sacks " + part + " 99, singer 0 0 255 9", "told 3", 7 * 10 + 99);
        }
        edges.answers("SACKS of all, together", "singer 0 0 255 9", "told 3", 80);
        String most = "sacks 0 99, sacks 1 99, sacks 2 99, sacks 3 99, sacks 4 99, sacks 5 99, sacks 6 99, sacks 7 99, ";
        edges.answers("SACKS of all, the most", most + "singer 0 0 255 9", "told 3", 792);
        edges.answers("SACKS of all, the least", most.replace("99", "0") + "singer 0 0 255 9", "told 3", 0);
    }

    /** "SINGERS 0 .. 5, as they come"; "AWAY, or not (not at first), FORGOT (0 .. 9999; 0 at first). DAY: 0 at first". */
    private static void singers() {
        String six = "";
        for (int p = 0; p < 6; p++) {
            edges.answers("SINGERS as they come", six, "singer " + p + " 0 0 0", p);
            six += "singer " + p + " 0 0 0, ";
        }
        edges.answers("SINGERS 0 .. 5", six, "singer 0 0 0 0", -4);
        for (int p = 0; p < 6; p++) {
            edges.answers("AWAY: not at first", six, "of " + p + " 4", 0);
            edges.answers("FORGOT: 0 at first", six, "of " + p + " 5", 0);
        }
        edges.answers("DAY: 0 at first", "", "told 0", 0);
    }

    /** "The newest VILLAGE holds (6 at most); without one there are no CLAUSES". */
    private static void villages() {
        String one = "singer 0 5 7 50, ";
        edges.answers("without one there are no CLAUSES", one, "of 0 6", 6);
        String all = one;
        for (int n = 0; n < 6; n++) {
            all += "say hard " + (n + 1) + " p=0, village, ";
            edges.answers("the newest VILLAGE holds", all, "of 0 6", 6 + n + 1);
            edges.answers("how many VILLAGES", all, "count 1", n + 1);
        }
        edges.answers("6 at most", all + "say hard 7 p=0", "village", -4);
        edges.answers("6 at most, the sixth holds", all + "say hard 7 p=0, village", "of 0 6", 12);
        edges.answers("none holds again by THE IMAGE", "image, say hard 1 p=0, village, undo, " + one, "of 0 6", 6);
    }

    /** "ANEW (50 without): the last one's n". */
    private static void anew() {
        edges.answers("ANEW without a VILLAGE", "", "told 1", 50);
        edges.answers("ANEW without an anew", "say hard 1 p=0, village", "told 1", 50);
        edges.answers("ANEW without an anew in the newest", "say anew 7, village, say hard 1 p=0, village", "told 1", 50);
        edges.answers("ANEW 0", "say anew 0, village", "told 1", 0);
        edges.answers("ANEW 00", "say anew 00, village", "told 1", 0);
        edges.answers("ANEW 99", "say anew 99, village", "told 1", 99);
        edges.answers("ANEW, the last one's", "say anew 99;anew 1;hard 3 p=0, village", "told 1", 1);
        edges.answers("ANEW, the tenth one's", "say " + "anew 1;".repeat(9) + "anew 2, village", "told 1", 2);
        edges.answers("ANEW without an anew, by a FAULT behind one", "say anew 7;x, village, say hard 1 p=0, village", "told 1", 50);
        edges.answers("ANEW, though THE TEXT had a FAULT behind one", "say anew 3, village, say anew 7;x, village", "told 1", 3);
    }

    private static void bass() {
        edges.answers("BASS: v 0", "singer 1 0 3 50", "of 0 6", 4);
        edges.answers("BASS: v 9", "singer 1 9 3 50", "of 0 6", 13);
        edges.answers("BASS: SUM below 0", "singer 1 9 0 50, say easy 10 p=0, village", "of 0 6", -1);
        edges.answers("SINGER: v does not matter", "singer 0 9 3 50", "of 0 6", 4);
    }

    /** "CHILD: the half (cut toward 0) of SUM". */
    private static void child() {
        int[][] halves = {{0, 0}, {1, 0}, {2, 1}, {3, 1}, {99, 49}};
        for (int[] half : halves) {
            edges.answers("CHILD: the half", "singer 2 9 0 50, say hard " + half[0] + " p=0, village", "of 0 6", half[1]);
            edges.answers("CHILD: the half, cut toward 0", "singer 2 9 0 50, say easy " + half[0] + " p=0, village", "of 0 6", -half[1]);
        }
    }

    /** "OLD: SUM, less three times how many others, not AWAY, HOLD a PART that it HOLDS". */
    private static void old() {
        String six = "singer 3 0 3 50, 5*singer 0 0 3 50";
        edges.answers("OLD: nobody else", "singer 3 0 3 50", "of 0 6", 4);
        edges.answers("OLD: five others, two PARTS of each", six, "of 0 6", 4 - 15);
        edges.answers("OLD: one of them AWAY", six + ", away 5 true", "of 0 6", 4 - 12);
        edges.answers("OLD: all others AWAY", six + ", away 1 true, away 2 true, away 3 true, away 4 true, away 5 true", "of 0 6", 4);
        edges.answers("OLD: it is AWAY itself", six + ", away 0 true", "of 0 6", 4 - 15);
        edges.answers("OLD: another PART is none of it", "singer 3 0 3 50, singer 0 0 252 50", "of 0 6", 4);
        edges.answers("OLD: one PART of several", "singer 3 0 131 50, singer 0 0 192 50", "of 0 6", 6 - 3);
        edges.answers("OLD: who HOLDS nothing", "singer 3 0 0 50, singer 0 0 255 50", "of 0 6", 0);
        edges.answers("OLD: the others HOLD nothing", "singer 3 0 255 50, 5*singer 0 0 0 50", "of 0 6", 16);
        edges.answers("OLD: as the last", "5*singer 0 0 128 50, singer 3 0 128 50", "of 5 6", 2 - 15);
        edges.answers("OLD: v does not matter", "singer 3 9 3 50", "of 0 6", 4);
    }

    /** "DESERTER: as BASS; twice that, if it HOLDS more than 4 PARTS". */
    private static void deserter() {
        edges.answers("DESERTER: nothing", "singer 4 9 0 50", "of 0 6", 9);
        edges.answers("DESERTER: 4 PARTS", "singer 4 9 240 50", "of 0 6", 17);
        edges.answers("DESERTER: 5 PARTS", "singer 4 9 248 50", "of 0 6", 38);
        edges.answers("DESERTER: 8 PARTS", "singer 4 9 255 50", "of 0 6", 50);
        edges.answers("DESERTER: 4 PARTS, below 0", "singer 4 9 15 50, say easy 99 p=0, village", "of 0 6", -82);
        edges.answers("DESERTER: 5 PARTS, below 0", "singer 4 9 31 50, say easy 99 p=0, village", "of 0 6", -160);
    }

    /** "HUMMER: as CHILD, less v, if DAY is odd". */
    private static void hummer() {
        String one = "singer 5 9 3 50";
        for (int day = 0; day < 5; day++) {
            edges.answers("HUMMER on DAY " + day, "pass " + day + ", " + one, "of 0 6", day % 2 == 0 ? 2 : -7);
        }
        edges.answers("HUMMER on DAY 9998", "166*pass 60, pass 38, " + one, "of 0 6", 2);
        edges.answers("HUMMER on DAY 9999", LAST_DAY + one, "of 0 6", -7);
        edges.answers("HUMMER: v 0", "pass 1, singer 5 0 3 50", "of 0 6", 2);
        edges.answers("HUMMER: the half is cut, then less v", "pass 1, singer 5 9 0 50, say easy 3 p=0, village", "of 0 6", -1 - 9);
        edges.answers("HUMMER: the half is cut, then less v", "pass 1, singer 5 9 0 50, say hard 3 p=0, village", "of 0 6", 1 - 9);
    }

    /** "TOLD: as OLD, and its ROW (four numbers 0 .. 9; 0 at first) at DAY modulo 4 more". */
    private static void told() {
        String one = "singer 6 9 3 50, row 0 0 9, row 0 1 1, row 0 2 5";
        int[] rows = {9, 1, 5, 0};
        for (int day = 0; day < 9; day++) {
            edges.answers("TOLD on DAY " + day, "pass " + day + ", " + one, "of 0 6", 4 + rows[day % 4]);
        }
        edges.answers("TOLD on DAY 9999", LAST_DAY + one + ", row 0 3 7", "of 0 6", 11);
        edges.answers("TOLD: ROW 0 at first", "singer 6 9 3 50", "of 0 6", 4);
        edges.answers("TOLD: less three times others, too", one + ", singer 0 0 1 9", "of 0 6", 4 - 3 + 9);
        edges.answers("TOLD: below 0", "singer 6 0 1 50, 5*singer 0 0 1 9", "of 0 6", 2 - 15);
    }

    /** "MEMORY of each SINGER not AWAY is STRAIN less (or more, if that is below 0; 0 at least, 99 at most)". */
    private static void memoryOnADay() {
        int[][] dues = {{3, 1}, {4, 2}, {99, 97}};
        for (int[] is : dues) {
            edges.answers("STRAIN 2 less", "singer 0 0 1 " + is[0] + ", pass 1", "of 0 3", is[1]);
        }
        String easy = ", say easy 99 p=0, village, pass 1";
        int[][] more = {{0, 97}, {1, 98}, {2, 99}, {3, 99}, {99, 99}};
        for (int[] is : more) {
            edges.answers("STRAIN -97: more, 99 at most", "singer 0 0 1 " + is[0] + easy, "of 0 3", is[1]);
            edges.answers("STRAIN -97: nothing is forgotten", "singer 0 0 1 " + is[0] + easy, "of 0 2", 1);
        }
        String hard = ", say hard 99 p=0, village, pass 1";
        edges.answers("STRAIN 99: 0 at least", "singer 0 0 0 98" + hard, "of 0 3", 0);
        edges.answers("STRAIN 99: exactly 0", "singer 0 0 0 99" + hard, "of 0 3", 0);
        edges.answers("STRAIN 0: as it was", "singer 0 0 1 1, say easy 2 p=0, village, pass 1", "of 0 3", 1);
        edges.answers("STRAIN 0: as it was", "singer 0 0 0 99, pass 1", "of 0 3", 99);
        edges.answers("AWAY: as it was", "singer 0 0 1 99, away 0 true, pass 60", "of 0 3", 99);
        edges.answers("AWAY: as it was, though below 0", "singer 0 0 1 9, away 0 true" + easy, "of 0 3", 9);
    }

    /** "Each of these whose MEMORY is 0 then, and who HOLDS something, HOLDS the PART with the least number no more". */
    private static void forgettingOnADay() {
        for (int memory = 0; memory <= 2; memory++) {
            String day = "singer 0 0 1 " + memory + ", pass 1";
            edges.answers("MEMORY 0 then", day, "of 0 2", 0);
            edges.answers("FORGOT is 1 more", day, "of 0 5", 1);
            edges.answers("MEMORY is ANEW", day, "of 0 3", 50);
        }
        edges.answers("MEMORY 1 then", "singer 0 0 1 3, pass 1", "of 0 2", 1);
        edges.answers("MEMORY 1 then", "singer 0 0 1 3, pass 1", "of 0 5", 0);
        edges.answers("MEMORY 0, STRAIN 0", "singer 0 0 1 0, say easy 2 p=0, village, pass 1", "of 0 2", 0);
        edges.answers("MEMORY 0, STRAIN -1", "singer 0 0 1 0, say easy 3 p=0, village, pass 1", "of 0 2", 1);
        edges.answers("who HOLDS nothing: FORGOT stays", "singer 0 0 0 0, pass 60", "of 0 5", 0);
        edges.answers("who HOLDS nothing: MEMORY stays 0", "singer 0 0 0 0, pass 60", "of 0 3", 0);
        int[][] least = {{128, 0}, {192, 128}, {255, 254}, {254, 252}, {129, 128}, {80, 64}};
        for (int[] held : least) {
            edges.answers("the PART with the least number", "singer 0 0 " + held[0] + " 0, pass 1", "of 0 2", held[1]);
        }
        String zero = "say anew 0, village, singer 0 0 255 0, ";
        edges.answers("ANEW 0", zero + "pass 1", "of 0 3", 0);
        edges.answers("one PART a DAY", zero + "pass 1", "of 0 2", 254);
        edges.answers("seven DAYS", zero + "pass 7", "of 0 2", 128);
        edges.answers("eight DAYS", zero + "pass 8", "of 0 2", 0);
        edges.answers("FORGOT behind eight DAYS", zero + "pass 8", "of 0 5", 8);
        edges.answers("FORGOT behind sixty DAYS", zero + "pass 60", "of 0 5", 8);
        edges.answers("ANEW 99", "say anew 99, village, singer 0 0 3 0, pass 1", "of 0 3", 99);
        edges.answers("AWAY: nothing is forgotten", "singer 0 0 255 0, away 0 true, pass 60", "of 0 2", 255);
        edges.answers("AWAY: FORGOT stays", "singer 0 0 255 0, away 0 true, pass 60", "of 0 5", 0);
        edges.answers("no more AWAY", "singer 0 0 255 0, away 0 true, pass 9, away 0 false, pass 1", "of 0 2", 254);
    }

    /** "A DAY goes, by how all is ahead of it". */
    private static void aheadOfADay() {
        edges.answers("OLD ahead of one who forgets", "singer 3 0 1 50, singer 0 0 1 1, pass 1", "of 0 3", 51);
        edges.answers("OLD behind one who forgets", "singer 0 0 1 1, singer 3 0 1 50, pass 1", "of 1 3", 51);
        edges.answers("OLD on the DAY after", "singer 0 0 1 1, singer 3 0 1 50, pass 2", "of 1 3", 49);
        edges.answers("two OLD who forget at once", "singer 3 0 1 0, singer 3 0 1 0, say hard 5 p<2, village, pass 1", "told 2", 0);
        edges.answers("d is DAY ahead of it", "say hard 9 d=9, village, pass 9, singer 0 0 0 50, pass 1", "of 0 3", 41);
        edges.answers("d is 0 on DAY 10", "say hard 9 d=9, village, pass 10, singer 0 0 0 50, pass 1", "of 0 3", 50);
        edges.answers("n is how many ahead of it", "say hard 5 n=1, village, singer 0 0 3 4, pass 1", "of 0 3", 50);
        edges.answers("nobody is there, DAY is 1 more", "pass 1", "told 0", 1);
    }

    /** "KEPT are those PARTS that a SINGER not AWAY HOLDS". */
    private static void kept() {
        edges.answers("KEPT: nobody", "", "told 2", 0);
        edges.answers("KEPT: all", "singer 0 0 255 0", "told 2", 255);
        edges.answers("KEPT: by two", "singer 0 0 15 0, singer 0 0 240 0", "told 2", 255);
        edges.answers("KEPT: one is AWAY", "singer 0 0 15 0, singer 0 0 248 0, away 0 true", "told 2", 248);
        edges.answers("KEPT: all are AWAY", "singer 0 0 15 0, singer 0 0 248 0, away 0 true, away 1 true", "told 2", 0);
        edges.answers("KEPT: all are AWAY, no SACKS", "singer 0 0 15 0, away 0 true", "told 3", 0);
        edges.answers("KEPT: a PART", "singer 0 0 128 0", "part 7 1", 1);
        edges.answers("KEPT: a PART, AWAY", "singer 0 0 128 0, away 0 true", "part 7 1", 0);
        edges.answers("HELD by none, not AWAY", "singer 0 0 128 0, away 0 true", "part 7 4", 0);
        edges.answers("HELD by six", "6*singer 0 0 128 0", "part 7 4", 6);
    }

    private static void manyDays() {
        edges.alike("60 DAYS at once or one by one", Edges.CROWDED + ", pass 60", Edges.CROWDED + ", 60*pass 1");
        edges.alike("two DAYS at once or one by one", Edges.CROWDED + ", pass 2", Edges.CROWDED + ", 2*pass 1");
        edges.alike("0 DAYS between", Edges.CROWDED + ", pass 3", Edges.CROWDED + ", pass 1, pass 0, pass 2");
    }

    /** "All that follows is asked, goes on from how all is (DAYS, FORGOT beyond 9999, too), and changes nothing". */
    private static void daysBeyondTheLast() {
        String ahead = Edges.LAST_DAY;
        int[] hummer = {50, 57, 55, 62};
        int[] told = {70, 61, 54, 53};
        for (int n = 0; n < 4; n++) {
            edges.changesNothing("ON beyond DAY 9999, HUMMER", ahead, "on " + n + " 10", hummer[n]);
            edges.changesNothing("ON beyond DAY 9999, TOLD", ahead, "on " + n + " 11", told[n]);
        }
        // d is 9 on DAY 9999 and 0 on the one behind it.
        String short10 = LAST_DAY + "say hard 50 d=0, village, singer 0 0 1 10";
        edges.changesNothing("ON beyond", short10, "on 1 10", 8);
        edges.changesNothing("ON beyond", short10, "on 2 20", 0);
        edges.changesNothing("ON beyond, sixty", short10, "on 60 0", 0);
        edges.changesNothing("LOST beyond", short10, "part 0 2", 2);
        edges.changesNothing("MEAN beyond", short10, "mean 2 0", NO);
        edges.changesNothing("MEAN beyond, one DAY", short10, "mean 1 0", 10);
        edges.changesNothing("ENDS beyond", short10 + ", 2*plan 0 0", "ends 0", 0);
        edges.changesNothing("ENDS beyond, FORGOT", short10 + ", 2*plan 0 0", "ends 1", 1);
        String two = short10 + ", singer 0 0 1 60";
        edges.changesNothing("ODDS beyond", two, "odds 0 2 0", 1);
        edges.changesNothing("ODDS beyond", two, "odds 0 2 1", 2);
        edges.changesNothing("HEIR beyond", short10 + ", singer 0 0 0 10, singer 0 0 0 60", "part 0 3", 2);
        String seen = LAST_DAY + "say hard 50 d=0, village, singer 0 0 1 60, see 0 2 6";
        edges.changesNothing("MEMORIES beyond", seen, "of 0 7", 1);
        edges.changesNothing("MEMORIES beyond", seen, "of 0 8", 60);
        String firm = LAST_DAY + "say hard 50 d=0, village, singer 1 0 1 99, see 0 2 37";
        edges.changesNothing("CAN beyond", firm, "can 0 0", 1);
        edges.changesNothing("CAN beyond", firm, "can 0 1", 4);
    }

    /** "ON n DAYS (0 .. 60)": what comes is what a pass() of as many DAYS brings. */
    private static void on() {
        for (int n : new int[] {0, 1, 2, 59, 60}) {
            for (String ahead : new String[] {Edges.RICH, Edges.CROWDED}) {
                int singers = ahead.equals(Edges.RICH) ? 4 : 6;
                like("ON: KEPT", ahead, "on " + n + " 0", n, "told 2");
                like("ON: SACKS of all that is KEPT", ahead, "on " + n + " 1", n, "told 3");
                for (int p = 0; p < singers; p++) {
                    like("ON: MEMORY of one", ahead, "on " + n + " " + (10 + p), n, "of " + p + " 3");
                    like("ON: what one HOLDS", ahead, "on " + n + " " + (20 + p), n, "of " + p + " 2");
                }
            }
        }
    }

    private static void like(String sentence, String ahead, String asked, int days, String looked) {
        Run run = new Run();
        run.make(ahead);
        run.make("pass " + days);
        edges.answers(sentence, ahead, asked, run.make(looked).get(0));
    }

    /** "LOST of a PART: the fewest DAYS (0 .. 60) behind which it is not KEPT (-5: not by then)". A CHILD with a PART has STRAIN 1. */
    private static void lost() {
        int[][] dues = {{0, 1}, {1, 1}, {2, 2}, {59, 59}, {60, 60}, {61, LACKING}, {99, LACKING}};
        for (int[] is : dues) {
            edges.changesNothing("LOST by MEMORY " + is[0], "singer 2 0 128 " + is[0], "part 7 2", is[1]);
        }
        edges.answers("LOST: nobody HOLDS it", "singer 2 0 127 9", "part 7 2", 0);
        edges.answers("LOST: nobody is there", "", "part 7 2", 0);
        edges.answers("LOST: one who is AWAY does not keep it", "singer 2 0 128 9, away 0 true", "part 7 2", 0);
        edges.answers("LOST: by the last of two", "singer 2 0 128 59, singer 2 0 128 60", "part 7 2", 60);
        edges.answers("LOST: not by the last of two", "singer 2 0 128 61, singer 2 0 128 1", "part 7 2", LACKING);
        edges.answers("LOST: STRAIN 0", "singer 0 0 128 1, say easy 2 p=0, village", "part 7 2", LACKING);
    }

    /** "HEIR of a PART": greatest, if greater than as it is, -5 being greater than all; of several the first; -5: none. */
    private static void heir() {
        String one = "singer 2 0 1 10";
        edges.changesNothing("HEIR: nobody", "", "part 0 3", LACKING);
        edges.changesNothing("HEIR: only who HOLDS it", one, "part 0 3", LACKING);
        edges.answers("HEIR: not greater", one + ", singer 2 0 0 9", "part 0 3", LACKING);
        edges.answers("HEIR: as it is", one + ", singer 2 0 0 10", "part 0 3", LACKING);
        edges.changesNothing("HEIR: greater by 1", one + ", singer 2 0 0 11", "part 0 3", 1);
        edges.answers("HEIR: AWAY", one + ", singer 2 0 0 11, away 1 true", "part 0 3", LACKING);
        edges.answers("HEIR: 60 is greater", one + ", singer 2 0 0 59, singer 2 0 0 60", "part 0 3", 2);
        edges.answers("HEIR: -5 is greater than 60", one + ", singer 2 0 0 60, singer 2 0 0 61", "part 0 3", 2);
        edges.answers("HEIR: -5 is greater than 60", one + ", singer 2 0 0 61, singer 2 0 0 60", "part 0 3", 1);
        edges.answers("HEIR: of several -5 the first", one + ", singer 2 0 0 61, singer 2 0 0 99", "part 0 3", 1);
        edges.answers("HEIR: of several the first", one + ", singer 2 0 0 9, singer 2 0 0 40, singer 2 0 0 40", "part 0 3", 2);
        edges.answers("HEIR: as it is -5", "singer 2 0 1 61, singer 2 0 0 99", "part 0 3", LACKING);
        edges.answers("HEIR: as it is 60", "singer 2 0 1 60, singer 2 0 0 61", "part 0 3", 1);
        edges.answers("HEIR: as it is 0, LOST then 1", "singer 2 0 0 0", "part 0 3", 0);
        edges.answers("HEIR: who HOLDS it is AWAY", one + ", away 0 true, singer 2 0 0 0", "part 0 3", 1);
        edges.answers("HEIR: HOLDING others, too", one + ", singer 2 0 254 99", "part 0 3", 1);
        edges.answers("HEIR: too many others", "singer 2 0 1 13, singer 2 0 254 99", "part 0 3", LACKING);
        edges.answers("HEIR: the sixth", one + ", 4*singer 2 0 0 10, singer 2 0 0 11", "part 0 3", 5);
    }

    /** "CHOIR ..: the set with the fewest SINGERS, none AWAY (.. the least as bits) .. (-5: none). DOUBLE ..: likewise, by two". */
    private static void choirs() {
        String six = "singer 0 0 1 9, singer 0 0 2 9, singer 0 0 4 9, singer 0 0 8 9, singer 0 0 16 9, singer 0 0 32 9";
        edges.answers("CHOIR: all six", six, "choir 63 0", 63);
        edges.answers("CHOIR: one PART more", six, "choir 127 0", LACKING);
        edges.answers("CHOIR: the sixth", six, "choir 32 0", 32);
        edges.answers("CHOIR: the sixth is AWAY", six + ", away 5 true", "choir 32 0", LACKING);
        edges.answers("CHOIR: nothing, nobody", "", "choir 0 0", 0);
        edges.answers("CHOIR: nothing, all AWAY", "singer 0 0 1 9, away 0 true", "choir 0 0", 0);
        edges.answers("CHOIR: something, nobody", "", "choir 1 0", LACKING);
        edges.answers("CHOIR: one is fewer than two", "singer 0 0 1 9, singer 0 0 2 9, singer 0 0 3 9", "choir 3 0", 4);
        String four = "singer 0 0 1 9, singer 0 0 2 9, singer 0 0 1 9, singer 0 0 2 9";
        edges.answers("CHOIR: the least as bits", four, "choir 3 0", 3);
        edges.answers("CHOIR: the least as bits without the first", four + ", away 0 true", "choir 3 0", 6);
        edges.answers("CHOIR: the least as bits without the second", four + ", away 1 true", "choir 3 0", 9);
        edges.answers("DOUBLE: nothing, nobody", "", "choir 0 1", 0);
        edges.answers("DOUBLE: by one alone", "singer 0 0 1 9", "choir 1 1", LACKING);
        edges.answers("DOUBLE: by two", "singer 0 0 1 9, singer 0 0 1 9", "choir 1 1", 3);
        edges.answers("DOUBLE: the least two of three", "singer 0 0 1 9, singer 0 0 1 9, singer 0 0 1 9", "choir 1 1", 3);
        edges.answers("DOUBLE: one of three is AWAY", "3*singer 0 0 1 9, away 0 true", "choir 1 1", 6);
        edges.answers("DOUBLE: four", four, "choir 3 1", 15);
        edges.answers("DOUBLE: one of four is AWAY", four + ", away 3 true", "choir 3 1", LACKING);
        edges.answers("DOUBLE: all PARTS by two", "singer 0 0 15 9, singer 0 0 255 9, singer 0 0 255 9", "choir 255 1", 6);
        edges.answers("DOUBLE: by all six", "singer 0 0 1 9, singer 0 0 1 9, singer 0 0 2 9, singer 0 0 2 9, "
            + "singer 0 0 4 9, singer 0 0 4 9", "choir 7 1", 63);
    }

    /** "SAFE: those PARTS, as bits, that two SINGERS or more, not AWAY, HOLD". */
    private static void safe() {
        edges.answers("SAFE: nobody", "", "told 4", 0);
        edges.answers("SAFE: one", "singer 0 0 255 9", "told 4", 0);
        edges.answers("SAFE: two", "singer 0 0 255 9, singer 0 0 129 9", "told 4", 129);
        edges.answers("SAFE: three", "3*singer 0 0 129 9", "told 4", 129);
        edges.answers("SAFE: six", "6*singer 0 0 255 9", "told 4", 255);
        edges.answers("SAFE: one of two is AWAY", "2*singer 0 0 129 9, away 0 true", "told 4", 0);
        edges.answers("SAFE: one of three is AWAY", "3*singer 0 0 129 9, away 0 true", "told 4", 129);
    }

    /** "SEEN told by hand: a SINGER, DAYS n (0 .. 12) from now, MEMORY then (0 .. 99; 5 rows at most)". */
    private static void seen() {
        String away = "singer 0 0 1 40, away 0 true, ";
        edges.answers("SEEN: MEMORY 0 behind 12 DAYS", away + "see 0 12 0", "of 0 8", 0);
        edges.answers("SEEN: MEMORY 99 behind 12 DAYS", away + "see 0 12 99", "of 0 8", 99);
        edges.answers("SEEN: MEMORY 99 now", away + "see 0 0 99", "of 0 8", 99);
        edges.answers("SEEN: five rows are so", away + "5*see 0 12 7", "of 0 7", 1);
        edges.answers("SEEN: the fifth is not so", away + "4*see 0 12 7, see 0 12 8", "of 0 7", 0);
        edges.answers("SEEN: the first is not so", away + "see 0 12 8, 4*see 0 12 7", "of 0 7", 0);
        edges.answers("SEEN: a sixth is refused", away + "5*see 0 12 7, see 0 12 8", "of 0 7", 1);
        edges.answers("SEEN: from now, whenever that is", away + "see 0 12 7, pass 60", "of 0 8", 7);
    }

    /** "MEMORIES of one: how many numbers (0 .. 99) there are ..; the least (-5: none)". A CHILD with a PART has STRAIN 1. */
    private static void memories() {
        String one = "singer 2 0 1 40, ";
        edges.answers("MEMORIES: nothing SEEN", one, "of 0 7", 100);
        edges.answers("MEMORIES: nothing SEEN, the least", one, "of 0 8", 0);
        // 62 fades to 50; one from 0 to 12 forgets by then, and has 50 then.
        edges.changesNothing("MEMORIES: behind 12 DAYS", one + "see 0 12 50", "of 0 7", 14);
        edges.changesNothing("MEMORIES: behind 12 DAYS, the least", one + "see 0 12 50", "of 0 8", 0);
        edges.answers("MEMORIES: behind 11 DAYS", one + "see 0 11 50", "of 0 7", 13);
        edges.answers("MEMORIES: 1 behind 12 DAYS", one + "see 0 12 1", "of 0 8", 13);
        edges.answers("MEMORIES: 0 behind 12 DAYS", one + "see 0 12 0", "of 0 7", 0);
        edges.answers("MEMORIES: 0 behind 12 DAYS, the least", one + "see 0 12 0", "of 0 8", LACKING);
        edges.answers("MEMORIES: 87 behind 12 DAYS", one + "see 0 12 87", "of 0 8", 99);
        edges.answers("MEMORIES: 88 behind 12 DAYS", one + "see 0 12 88", "of 0 8", LACKING);
        edges.answers("MEMORIES: 99 now", one + "see 0 0 99", "of 0 7", 1);
        edges.answers("MEMORIES: 0 now", one + "see 0 0 0", "of 0 8", 0);
        edges.answers("MEMORIES: 0 now, how many", one + "see 0 0 0", "of 0 7", 1);
        edges.answers("MEMORIES: another's row is so", one + "singer 0 0 0 5, see 1 12 5", "of 0 7", 100);
        edges.answers("MEMORIES: another's row is not so", one + "singer 0 0 0 5, see 1 12 6", "of 0 7", 0);
        edges.answers("MEMORIES: another's row is not so", one + "singer 0 0 0 5, see 1 12 6", "of 0 8", LACKING);
        String easy = "singer 0 0 1 40, say easy 99 p=0, village, see 0 1 99";
        edges.answers("MEMORIES: 2 to 99 come to 99", easy, "of 0 7", 98);
        edges.answers("MEMORIES: 2 is the least of these", easy, "of 0 8", 2);
    }

    /** "CAN of one: how many numbers v (0 .. 9) likewise; the least (-5: none)". */
    private static void can() {
        String bass = "singer 1 4 1 50, see 0 1 ";
        int[][] dues = {{49, LACKING}, {48, 0}, {47, 1}, {40, 8}, {39, 9}, {38, LACKING}};
        for (int[] is : dues) {
            edges.changesNothing("CAN: " + is[0] + " behind a DAY", bass + is[0], "can 0 1", is[1]);
            edges.changesNothing("CAN: how many, " + is[0], bass + is[0], "can 0 0", is[1] == LACKING ? 0 : 1);
        }
        edges.answers("CAN: nothing SEEN", "singer 1 4 1 50", "can 0 0", 10);
        edges.answers("CAN: nothing SEEN, the least", "singer 1 4 1 50", "can 0 1", 0);
        edges.answers("CAN: v does not matter", "singer 0 4 1 50, see 0 12 26", "can 0 0", 10);
        edges.answers("CAN: behind 12 DAYS", "singer 1 4 1 98, see 0 12 2", "can 0 1", 6);
        edges.answers("CAN: v in a TEST", "singer 0 4 1 50, say hard 7 v>8, village, see 0 1 41", "can 0 1", 9);
        edges.answers("CAN: HUMMER, another v on the odd DAY alone", "singer 5 4 1 50, see 0 1 49", "can 0 0", 10);
        edges.answers("CAN: HUMMER, another v on the odd DAY alone", "singer 5 4 1 50, see 0 2 57", "can 0 1", 9);
    }

    /** "ODDS of a PART and n DAYS (0 .. 20) .. a fraction in lowest terms (NO: all are AWAY, or there are none)". */
    private static void odds() {
        fraction("ODDS behind 19", "singer 2 0 1 20, singer 2 0 0 9", "odds 0 19", 1, 2);
        fraction("ODDS behind 20, LOST then", "singer 2 0 1 20, singer 2 0 0 9", "odds 0 20", 0, 1);
        fraction("ODDS behind 20, KEPT still", "singer 2 0 1 21, singer 2 0 0 9", "odds 0 20", 1, 2);
        fraction("ODDS of one", "singer 2 0 1 21", "odds 0 0", 0, 1);
        fraction("ODDS: nobody HOLDS it", "6*singer 2 0 1 21", "odds 7 0", 0, 1);
        fraction("ODDS: one of six HOLDS it", "singer 2 0 128 21, 5*singer 2 0 1 21", "odds 7 0", 5, 6);
        fraction("ODDS: two of six HOLD it", "2*singer 2 0 128 21, 4*singer 2 0 1 21", "odds 7 0", 1, 1);
        fraction("ODDS: three of six are AWAY", "singer 2 0 128 21, 5*singer 2 0 1 21, away 3 true, away 4 true, away 5 true",
            "odds 7 0", 2, 3);
        fraction("ODDS: AWAY from now on, none shares then", "singer 3 0 1 3, singer 0 0 1 3, singer 0 0 0 3", "odds 0 2", 1, 3);
        fraction("ODDS: 2 by 4", "singer 3 0 1 3, singer 0 0 1 3, 2*singer 0 0 0 3", "odds 0 2", 1, 2);
        edges.answers("ODDS: all are AWAY", "singer 2 0 1 21, away 0 true", "odds 0 0 0", NO);
        edges.answers("ODDS: there are none", "", "odds 0 0 1", NO);
    }

    private static void fraction(String sentence, String ahead, String call, long above, long below) {
        edges.changesNothing(sentence, ahead, call + " 0", above);
        edges.changesNothing(sentence, ahead, call + " 1", below);
    }

    /** "MEAN of n DAYS (0 .. 60) .. a fraction in lowest terms (NO: none is)". */
    private static void mean() {
        fraction("MEAN: 80 by 8", "singer 0 0 255 9", "mean 0", 10, 1);
        fraction("MEAN: 0 by 2", "singer 0 0 3 9, sacks 0 0, sacks 1 0", "mean 0", 0, 1);
        fraction("MEAN: 99 by 1", "singer 0 0 1 9, sacks 0 99", "mean 0", 99, 1);
        fraction("MEAN: 6 by 4", "singer 0 0 15 9, sacks 0 6, sacks 1 0, sacks 2 0, sacks 3 0", "mean 0", 3, 2);
        fraction("MEAN: 1 by 8", "singer 0 0 255 9, sacks 0 1, sacks 1 0, sacks 2 0, sacks 3 0, sacks 4 0, sacks 5 0, "
            + "sacks 6 0, sacks 7 0", "mean 0", 1, 8);
        fraction("MEAN behind 60", "singer 2 0 1 61, singer 2 0 128 60", "mean 60", 10, 1);
        fraction("MEAN behind 59", "singer 2 0 1 61, singer 2 0 128 60, sacks 0 5", "mean 59", 15, 2);
        edges.answers("MEAN: none is KEPT", "singer 2 0 0 61", "mean 0 0", NO);
        edges.answers("MEAN: who HOLDS them is AWAY", "singer 2 0 1 61, away 0 true", "mean 0 1", NO);
    }

    /** "A PLAN told by hand: what goes (0 a DAY, 1 one is AWAY, 2 one is not, 3 MEMORY of one is 99; 10 rows at most)". */
    private static void plans() {
        String zero = "say anew 0, village, singer 0 0 255 0, ";
        edges.answers("PLAN: seven DAYS", zero + "7*plan 0 0", "ends 0", 128);
        edges.answers("PLAN: eight DAYS", zero + "8*plan 0 0", "ends 0", 0);
        edges.answers("PLAN: ten DAYS, FORGOT", zero + "10*plan 0 0", "ends 1", 8);
        edges.answers("PLAN: the tenth row goes", "singer 2 0 1 10, 10*plan 0 0", "ends 0", 0);
        edges.answers("PLAN: an eleventh does not", "singer 2 0 1 11, 11*plan 0 0", "ends 0", 1);
        edges.answers("PLAN: one is AWAY who was", "singer 0 0 1 0, away 0 true, plan 1 0", "ends 0", 0);
        edges.answers("PLAN: one is not who was not", "singer 0 0 1 0, plan 2 0", "ends 0", 1);
        edges.answers("PLAN: one is not who was", "singer 0 0 1 0, away 0 true, plan 2 0", "ends 0", 1);
        edges.answers("PLAN: AWAY on that DAY", "singer 0 0 1 0, plan 1 0, plan 0 0, plan 2 0", "ends 0", 1);
        edges.answers("PLAN: back on that DAY", "singer 0 0 1 0, plan 1 0, plan 2 0, plan 0 0", "ends 1", 1);
        edges.answers("PLAN: MEMORY of one is 99", "singer 0 0 1 0, plan 3 0, 9*plan 0 0", "ends 0", 1);
        edges.answers("PLAN: MEMORY of another is 99", "singer 0 0 1 0, singer 0 0 2 0, plan 3 1, plan 0 0", "ends 0", 2);
        edges.answers("PLAN: MEMORY 99 behind the DAY", "singer 0 0 1 0, plan 0 0, plan 3 0", "ends 0", 0);
        edges.answers("PLAN: FORGOT of one who is AWAY, too", "singer 0 0 1 0, plan 0 0, plan 1 0", "ends 1", 1);
        edges.answers("PLAN: FORGOT of all six", "6*singer 0 0 1 0, plan 0 0", "ends 1", 6);
        edges.answers("PLAN: FORGOT goes on", "6*singer 0 0 3 0, say anew 0, village, pass 1, plan 0 0", "ends 1", 12);
    }

    /** "A BOOK told by hand: PARTS, SACKS (0 .. 99; 8 at most): .. the first of these rows by which it is otherwise now (-5: none)". */
    private static void books() {
        edges.answers("BOOK: eight rows are so", "8*book 7 10", "looked", LACKING);
        edges.answers("BOOK: a ninth is refused", "8*book 7 10, book 7 11", "looked", LACKING);
        edges.answers("BOOK: the eighth is otherwise", "7*book 7 10, book 7 11", "looked", 7);
        edges.answers("BOOK: of several the first", "book 7 10, 7*book 7 11", "looked", 1);
        edges.answers("BOOK: all are otherwise", "8*book 7 10, sacks 7 9", "looked", 0);
        edges.answers("BOOK: otherwise no more", "8*book 7 10, sacks 7 9, sacks 7 10", "looked", LACKING);
        edges.answers("BOOK: of PART 0", "book 0 10, sacks 7 9", "looked", LACKING);
    }

    /** "ACTS of a SINGER with x (wrapping)", body by body. */
    private static void actsWrap() {
        int least = Integer.MIN_VALUE;
        int most = Integer.MAX_VALUE;
        String two = "singer 0 0 0 0, ";
        edges.answers("body 10: x + i", two + "singer 0 0 0 0", "act 1 0 MAX", least);
        edges.answers("body 11: hums(x) - v", "singer 0 9 0 0", "act 0 1 MIN", most - 8);
        edges.answers("body 12: sings(x) * 2", "singer 0 0 0 0", "act 0 2 1073741824", least);
        edges.answers("body 12: sings(x) * 2", "singer 0 0 0 0", "act 0 2 MIN", 0);
        edges.answers("body 20: super.sings(x) ^ 6", "singer 1 9 0 0", "act 0 1 MIN", most - 8 ^ 6);
        edges.answers("body 30: super.hums(x * 3)", "singer 2 0 0 0", "act 0 0 1431655766", 2);
        edges.answers("body 30: super.hums(x * 3)", "singer 2 0 0 0", "act 0 0 MAX", most - 2);
        edges.answers("body 40: super.tells(x) + sings(1)", "5*singer 0 0 0 0, singer 3 0 0 0", "act 5 2 1073741818", least + 4);
        edges.answers("body 50: -super.hums(x)", "singer 4 0 0 0", "act 0 0 MIN", least);
        edges.answers("body 51: super.sings(x + 1)", "singer 4 0 0 0", "act 0 1 MAX", least ^ 6);
        edges.answers("body 60: super.tells(x - i)", two + "singer 5 0 0 0", "act 1 2 MIN", -4);
        edges.answers("body 70: super.sings(x) + super.hums(2)", "singer 6 0 0 0", "act 0 1 MAX", least + 1);
        edges.answers("body 71: super.hums(x) ^ v", two + "singer 6 9 0 0", "act 1 0 MAX", least ^ 9);
        edges.answers("x 0", "singer 0 0 0 0", "act 0 0 0", 0);
        edges.answers("x below 0", "singer 0 0 0 0", "act 0 0 -1", -1);
    }

    /** "THE TRACE: the numbers of the bodies that ran in the latest act(), as they began; the first 20 are kept". */
    private static void traces() {
        int[] longest = {40, 12, 70, 11, 71, 10, 10, 70, 11, 71, 10, 10};
        for (int n = 0; n < longest.length; n++) {
            edges.answers("THE TRACE: the longest that there is", "singer 6 0 0 0, act 0 2 1", "trace " + n, longest[n]);
        }
        edges.answers("THE TRACE: how many", "singer 6 0 0 0, act 0 2 1", "count 6", 12);
        edges.answers("THE TRACE: no more", "singer 6 0 0 0, act 0 2 1", "trace 12", -1);
        edges.answers("THE TRACE: of the latest act", "singer 6 0 0 0, 3*act 0 2 1", "count 6", 12);
        edges.answers("THE TRACE: the shortest", "singer 0 0 0 0, act 0 0 1", "count 6", 1);
        edges.answers("THE TRACE: the shortest", "singer 0 0 0 0, act 0 0 1", "trace 0", 10);
        edges.answers("THE TRACE: the shortest", "singer 0 0 0 0, act 0 0 1", "trace 1", -1);
    }

    /** "THE IMAGE: SACKS, SINGERS with all that is theirs, DAY, SEEN, the PLAN, the BOOK, which VILLAGE holds". */
    private static void images() {
        // What is no part of it is made ahead: the text is eaten, the act is done, the tapes are laid.
        String full = Edges.CROWDED + ", village, row 0 2 6, sacks 3 0, sacks 4 99, away 1 true, away 4 true, pass 9";
        String other = ", set 0 0 0, set 1 1 0, away 0 true, away 1 false, sacks 3 50, sacks 4 50, row 0 2 1, pass 60, "
            + "see -1 0 0, see 0 0 0, plan -1 0, plan 1 0, book -1 0, book 3 3";
        edges.alike("THE IMAGE: full, then otherwise", full + ", image", full + ", image" + other + ", undo");
        edges.alike("THE IMAGE: full, then otherwise, twice", full + ", image", full + ", image" + other + ", undo" + other + ", undo");
        edges.alike("THE IMAGE: of an object with nothing", "image, count 0", "image, " + Edges.CROWDED.replace(", say hard 9 p<6", "")
            + ", sacks 0 1, pass 60, undo");
        String held = "say anew 7;hard 3 p=0, village, singer 0 0 3 9, image, ";
        edges.alike("THE IMAGE: the VILLAGE that held", held + "say anew 8, village, undo", held + "say hard 50 p=0, village, undo");
        edges.answers("THE IMAGE: the VILLAGE that held, ANEW", held + "say anew 8, village, undo", "told 1", 7);
        edges.answers("THE IMAGE: the VILLAGE that held, CLAUSES", held + "say anew 8, village, undo", "of 0 6", 7);
        edges.answers("THE IMAGE: no VILLAGE held", "image, say anew 8, village, undo", "told 1", 50);
    }

    /** "TAPES 0 .. 5 hold nothing (at first), or a row of ..". */
    private static void tapes() {
        for (int tape = 0; tape < 6; tape++) {
            edges.answers("TAPES hold nothing at first", "", "item " + tape + " 0 0", -11);
            edges.answers("TAPES hold nothing at first", "", "read " + tape + " 0", NO);
            edges.answers("TAPES hold nothing at first", "", "judge " + tape + " 0", 100);
            for (int sort = 0; sort <= 4; sort++) {
                edges.answers("TAPES 0 .. 5", "", "tape " + tape + " " + sort + " 60", 1);
                edges.answers("TAPES 0 .. 5", "tape " + tape + " " + sort + " 60, item " + tape + " 59 1", "read " + tape + " 59", 1);
            }
        }
    }
}
