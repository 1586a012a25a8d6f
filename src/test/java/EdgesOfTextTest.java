import java.util.Random;

/** What a VILLAGE's text may be: for what begins so, each of the 128 signs that may come next, and where the FAULT is. */
public final class EdgesOfTextTest {
    private static final String DIGITS = "0123456789";
    private static final String CLAUSE = "hea";
    private static final String FACTOR = "pkvnmd!(";
    private static final String DEEPEST = "pkvnmd";
    private static final Due due = new Due();
    private static final Edges edges = new Edges(due);

    public static void main(String[] args) {
        words();
        numbers();
        tests();
        choices();
        brackets();
        depths();
        clauses();
        hundredBytes();
        signs();
        letters();
        numbersOfTests();
        truths();
        manyTruthsWaiting();
        chanceTruths();
        sums();
        due.end("edges of the text");
    }

    /** Whether a text is a VILLAGE as it is, which signs may come and are not the end, and which may and are. */
    private static void next(String text, boolean whole, String more, String ends) {
        due.is("'" + text + "'", village(text), whole ? 0 : -10 - text.length());
        for (int sign = 0; sign < 128; sign++) {
            boolean is = ends.indexOf(sign) >= 0;
            int fault = more.indexOf(sign) >= 0 ? text.length() + 1 : text.length();
            due.is("'" + text + "' and sign " + sign, village(text + (char) sign), is ? 0 : -10 - fault);
            boolean begins = is || more.indexOf(sign) >= 0;
            if (!begins && text.length() < 90) {
                due.is("'" + text + "', sign " + sign + " and more", village(text + (char) sign + " anew 1"), -10 - text.length());
            }
        }
    }

    private static int village(String text) {
        SungHarvest x = new SungHarvest();
        return Due.village(x, text);
    }

    private static void words() {
        next("", false, CLAUSE, "");
        for (String word : new String[] {"hard", "easy", "anew"}) {
            for (int n = 1; n < 4; n++) {
                next(word.substring(0, n), false, word.substring(n, n + 1), "");
            }
            next(word, false, " ", "");
        }
    }

    /** One blank ahead of each part behind the word; n has 1 or 2 digits. */
    private static void numbers() {
        for (String word : new String[] {"hard", "easy"}) {
            next(word + " ", false, DIGITS, "");
            next(word + " 0", false, DIGITS + " ", "");
            next(word + " 9", false, DIGITS + " ", "");
            next(word + " 00", false, " ", "");
            next(word + " 99", false, " ", "");
            next(word + " 0 ", false, FACTOR, "");
            next(word + " 99 ", false, FACTOR, "");
        }
        next("anew ", false, "", DIGITS);
        next("anew 0", true, ";", DIGITS);
        next("anew 9", true, ";", DIGITS);
        next("anew 00", true, ";", "");
        next("anew 99", true, ";", "");
    }

    /** A letter, < or = or >, a number of 1 or 2 digits. */
    private static void tests() {
        for (char letter : "pkvnmd".toCharArray()) {
            next("hard 1 " + letter, false, "<=>", "");
            for (char sign : "<=>".toCharArray()) {
                next("easy 1 " + letter + sign, false, "", DIGITS);
                next("hard 1 " + letter + sign + "0", true, "&|;", DIGITS);
                next("hard 1 " + letter + sign + "99", true, "&|;", "");
            }
        }
    }

    private static void choices() {
        for (String so : new String[] {"p=1&", "p=1|", "p=12&", "p=12|", "p=1&k=1|", "p=1|k=1&", "(p=1)&", "!p=1|"}) {
            next("hard 1 " + so, false, FACTOR, "");
        }
        next("hard 1 p=1&k<2|v>3", true, "&|;", DIGITS);
        next("hard 1 p=1|k<2&v>33", true, "&|;", "");
    }

    private static void brackets() {
        next("hard 1 (", false, FACTOR, "");
        next("hard 1 (p", false, "<=>", "");
        next("hard 1 (p=", false, DIGITS, "");
        next("hard 1 (p=1", false, DIGITS + "&|", ")");
        next("hard 1 (p=12", false, "&|", ")");
        next("hard 1 (p=1)", true, "&|;", "");
        next("hard 1 ((p=1)", false, "&|", ")");
        next("hard 1 (p=1)&(p=2", false, DIGITS + "&|", ")");
        next("hard 1 (p=1)|(p=2)", true, "&|;", "");
        next("hard 1 !", false, FACTOR, "");
        next("hard 1 !p=1", true, "&|;", DIGITS);
        next("hard 1 !(p=1", false, DIGITS + "&|", ")");
        next("hard 1 (!p=1)", true, "&|;", "");
    }

    /** A ( or ! within 4 others is none. */
    private static void depths() {
        for (String four : new String[] {"((((", "!!!!", "(!(!", "!(!(", "((!!", "!!((", "(((!", "!!!("}) {
            next("hard 1 " + four.substring(0, 3), false, FACTOR, "");
            next("hard 1 " + four, false, DEEPEST, "");
        }
        next("hard 1 ((((p=1", false, DIGITS + "&|)", "");
        next("hard 1 ((((p=1&", false, DEEPEST, "");
        next("hard 1 ((((p=1|", false, DEEPEST, "");
        next("hard 1 ((((p=1)", false, "&|)", "");
        next("hard 1 ((((p=1)&", false, FACTOR, "");
        next("hard 1 ((((p=1)&(", false, DEEPEST, "");
        next("hard 1 ((((p=1))))", true, "&|;", "");
        next("hard 1 ((((p=1))))&", false, FACTOR, "");
        next("hard 1 ((((p=1))))&(((", false, FACTOR, "");
        next("hard 1 ((((p=1))))&((((", false, DEEPEST, "");
        next("hard 1 !!!!p=1", true, "&|;", DIGITS);
        next("hard 1 !!!!p=1&", false, FACTOR, "");
        next("hard 1 !!!!p=1|!!!", false, FACTOR, "");
        next("hard 1 !!!!p=1|!!!!", false, DEEPEST, "");
        next("hard 1 (!!!p=1&", false, FACTOR, "");
        next("hard 1 (!!!p=1&!!!", false, DEEPEST, "");
        next("hard 1 !!!!p=1;hard 1 !!!", false, FACTOR, "");
        next("hard 1 ((((p=1))));easy 1 ((((", false, DEEPEST, "");
        next("hard 1 " + "!p=1&".repeat(9), false, FACTOR, "");
        next("hard 1 " + "(p=1)|".repeat(9), false, FACTOR, "");
    }

    /** CLAUSES, 1 to 10, with ; between. */
    private static void clauses() {
        next("anew 1;", false, CLAUSE, "");
        next("hard 1 p=1;", false, CLAUSE, "");
        next("easy 1 (p=1);", false, CLAUSE, "");
        next("anew 1;".repeat(8) + "anew 1", true, ";", DIGITS);
        next("anew 1;".repeat(9), false, CLAUSE, "");
        next("anew 1;".repeat(9) + "anew 1", true, "", DIGITS);
        next("anew 1;".repeat(9) + "anew 12", true, "", "");
        next("anew 1;".repeat(9) + "hard 1 p=1", true, "&|", DIGITS);
        next("anew 1;".repeat(9) + "hard 1 p=12", true, "&|", "");
        next("anew 1;".repeat(9) + "easy 1 (p=1)", true, "&|", "");
        due.is("eleven", village("anew 1;".repeat(10) + "anew 1"), -10 - 69);
    }

    /** THE TEXT: bytes, 100 at most. */
    private static void hundredBytes() {
        String whole = "hard 10 p<1" + "|p<1".repeat(21) + "|p<01";
        due.is("a text of a hundred bytes", whole.length(), 100);
        due.is("a hundred bytes", village(whole), 0);
        due.is("ninety-nine", village(whole.substring(0, 99)), 0);
        for (int n = 0; n < 99; n++) {
            String text = whole.substring(0, n);
            boolean is = n > 10 && (n - 11) % 4 == 0;
            due.is("the first " + n + " of it", village(text), is ? 0 : -10 - n);
        }
        due.is("the last byte is wrong", village(whole.substring(0, 99) + "x"), -10 - 99);
        due.is("a hundred, and it ends too early", village(whole.substring(0, 99) + "|"), -10 - 100);
        due.is("a hundred, and it ends too early", village("hard 1 " + "p<1|".repeat(23) + "!"), -10 - 100);
        due.is("a hundred, and it ends too early", village("hard 1 " + "p<1|".repeat(23) + "p"), -10 - 100);
        edges.answers("the 101st is refused, and the hundred are a VILLAGE", "say " + whole + "x, singer 0 0 0 9, village", "of 0 6", 10);
        due.is("a hundred that begin wrong", village("x".repeat(100)), -10);
    }

    private static void signs() {
        for (int sign = 0; sign < 128; sign++) {
            boolean begins = CLAUSE.indexOf(sign) >= 0;
            due.is("a text of sign " + sign, village("" + (char) sign), begins ? -11 : -10);
        }
        due.is("an empty text", village(""), -10);
        due.is("a text that ends with a blank", village("anew 1 "), -16);
        due.is("a text that begins with a blank", village(" anew 1"), -10);
        due.is("HARD", village("HARD 1 p=1"), -10);
        due.is("P", village("hard 1 P=1"), -17);
        due.is("two blanks", village("hard  1 p=1"), -15);
        due.is("two blanks", village("hard 1  p=1"), -17);
        due.is("two blanks", village("anew  1"), -15);
        due.is("no blank", village("hard1 p=1"), -14);
        due.is("no blank", village("hard 1p=1"), -16);
        due.is("no blank", village("anew1"), -14);
        due.is("a blank ahead of ;", village("anew 1 ;anew 2"), -16);
        due.is("a blank behind ;", village("anew 1; anew 2"), -17);
        due.is("a number below 0", village("anew -1"), -15);
        due.is("a number below 0", village("hard 1 d>-1"), -19);
        due.is("a hard without its E", village("hard 1;anew 2"), -16);
        due.is("an anew with an E", village("anew 1 p=1"), -16);
    }

    /** Each letter is what it stands for, on both sides of it. */
    private static void letters() {
        for (int p = 0; p < 6; p++) {
            compared("p its number", "6*singer 0 0 0 0", p, 'p', p, 0, 99);
        }
        for (int kind = 0; kind <= 6; kind++) {
            compared("k its KIND", "singer " + kind + " 0 0 0", 0, 'k', kind, 0, kind == 2 || kind == 5 ? 49 : 99);
        }
        for (int v = 0; v <= 9; v++) {
            compared("v its v", "singer 0 " + v + " 0 0", 0, 'v', v, 0, 99);
        }
        for (int n = 0; n <= 8; n++) {
            compared("n how many PARTS it HOLDS", "singer 0 0 " + ((1 << n) - 1) + " 0", 0, 'n', n, 2 * n, 99);
            compared("n how many PARTS it HOLDS", "singer 0 0 " + (255 >> n << n) + " 0", 0, 'n', 8 - n, 2 * (8 - n), 99);
        }
        for (int m : new int[] {0, 1, 9, 10, 11, 19, 20, 49, 50, 89, 90, 98, 99}) {
            compared("m MEMORY by 10 (cut)", "singer 0 0 0 " + m, 0, 'm', m / 10, 0, 99);
        }
        for (int d : new int[] {0, 1, 8, 9, 10, 11, 19, 20, 29, 30, 59, 60}) {
            compared("d DAY modulo 10", "pass " + d + ", singer 0 0 0 0", 0, 'd', d % 10, 0, 99);
        }
        compared("d on DAY 9999", "166*pass 60, pass 39, singer 0 0 0 0", 0, 'd', 9, 0, 99);
        compared("d on DAY 9990", "166*pass 60, pass 30, singer 0 0 0 0", 0, 'd', 0, 0, 99);
    }

    /** STRAIN is more by so much, if it holds (hard 99, of which a CHILD has the half). */
    private static void compared(String sentence, String ahead, int singer, char letter, int is, int sum, int more) {
        for (int n = Math.max(0, is - 1); n <= is + 1; n++) {
            String[] signs = {"<", "=", ">"};
            boolean[] holds = {is < n, is == n, is > n};
            for (int s = 0; s < 3; s++) {
                String text = ", say hard 99 " + letter + signs[s] + n + ", village";
                edges.answers(sentence + ", " + is + signs[s] + n, ahead + text, "of " + singer + " 6", sum + (holds[s] ? more : 0));
            }
        }
    }

    private static void numbersOfTests() {
        String ahead = "singer 0 7 0 0, say hard 99 ";
        String[] hold = {"v>0", "v>00", "v<99", "v<8", "v<08", "v=7", "v=07", "v>6", "v>06", "v<10", "v<70", "n=0", "n=00", "n<1"};
        String[] not = {"v<0", "v<00", "v>99", "v=99", "v=70", "v=77", "v=0", "v>7", "v<7", "v>07", "n<0", "n>0", "n=99", "n>00", "m>9", "d>10"};
        for (String e : hold) {
            edges.answers("a number of 1 or 2 digits: " + e, ahead + e + ", village", "of 0 6", 99);
        }
        for (String e : not) {
            edges.answers("a number of 1 or 2 digits: " + e, ahead + e + ", village", "of 0 6", 0);
        }
    }

    /** All that one, two or three truths can come to; v=1 is true, v=2 is not. */
    private static void truths() {
        for (int bits = 0; bits < 8; bits++) {
            boolean a = (bits & 1) != 0;
            boolean b = (bits & 2) != 0;
            boolean c = (bits & 4) != 0;
            truth("A", a, b, c, a);
            truth("!A", a, b, c, !a);
            truth("!!A", a, b, c, a);
            truth("!!!A", a, b, c, !a);
            truth("!!!!A", a, b, c, a);
            truth("((((A))))", a, b, c, a);
            truth("!(!(A))", a, b, c, a);
            truth("A&B", a, b, c, a && b);
            truth("A|B", a, b, c, a || b);
            truth("!A&B", a, b, c, !a && b);
            truth("!A|B", a, b, c, !a || b);
            truth("!(A&B)", a, b, c, !(a && b));
            truth("!(A|B)", a, b, c, !(a || b));
            truth("A|B&C", a, b, c, a || b && c);
            truth("A&B|C", a, b, c, a && b || c);
            truth("(A|B)&C", a, b, c, (a || b) && c);
            truth("A&(B|C)", a, b, c, a && (b || c));
            truth("A&B&C", a, b, c, a && b && c);
            truth("A|B|C", a, b, c, a || b || c);
            truth("!A|!B&!C", a, b, c, !a || !b && !c);
            truth("!(A|B&!C)", a, b, c, !(a || b && !c));
            truth("(A|(B&(C|!A)))", a, b, c, a || b && (c || !a));
        }
    }

    private static void truth(String e, boolean a, boolean b, boolean c, boolean holds) {
        String text = e.replace("A", a ? "v=1" : "v=2").replace("B", b ? "v=1" : "v=2").replace("C", c ? "v=1" : "v=2");
        edges.answers(e, "singer 0 1 0 0, say hard 5 " + text + ", village", "of 0 6", holds ? 5 : 0);
        edges.answers(e, "singer 0 1 0 0, say easy 5 " + text + ", village", "of 0 6", holds ? -5 : 0);
    }

    /** While the innermost is looked at, up to ten truths wait for it; none of them may change by that. */
    private static void manyTruthsWaiting() {
        for (int bits = 0; bits < 32; bits++) {
            boolean a = (bits & 1) != 0;
            boolean b = (bits & 2) != 0;
            boolean c = (bits & 4) != 0;
            boolean d = (bits & 8) != 0;
            boolean e = (bits & 16) != 0;
            five("A|B&(C|D&E)", bits, a || b && (c || d && e));
            five("A|B&(C|D&!E)", bits, a || b && (c || d && !e));
            five("A&(B|C&(D|E))", bits, a && (b || c && (d || e)));
            five("A|B&(C|D|E)", bits, a || b && (c || d || e));
            five("A|B&(C|D&(E|A&B))", bits, a || b && (c || d && (e || a && b)));
            five("A|B&(C|D&(E|A&(B|C&D)))", bits, a || b && (c || d && (e || a && (b || c && d))));
            five("A|B&(C|D&(E|A&(B|C&(D|E&A))))", bits, a || b && (c || d && (e || a && (b || c && (d || e && a)))));
            five("A|B&!(C|D&!(E|A&B))", bits, a || b && !(c || d && !(e || a && b)));
            five("A&B&(C&D&(E&A))|!A&(B|(C|(D|(E))))", bits, a && b && c && d && e || !a && (b || c || d || e));
        }
    }

    /** Letters A to E stand for the bits' truths. */
    private static void five(String e, int bits, boolean holds) {
        String text = e;
        for (int n = 0; n < 5; n++) {
            text = text.replace("" + (char) ('A' + n), (bits >> n & 1) == 1 ? "v=1" : "v=2");
        }
        SungHarvest x = new SungHarvest();
        x.singer(0, 1, 0, 0);
        due.is(e + " by " + bits, Due.village(x, "hard 5 " + text), 0);
        due.is(e + " by " + bits + ", STRAIN", x.of(0, 6), holds ? 5 : 0);
    }

    /** E as chance makes it, as deep as may be, in two CLAUSES; what it comes to is known as it is made. */
    private static void chanceTruths() {
        Random chance = new Random(7);
        int made = 0;
        for (int n = 0; n < 200000 && made < 8000; n++) {
            StringBuilder text = new StringBuilder("hard 31 ");
            boolean one = choice(chance, text, 0);
            text.append(";easy 7 ");
            boolean other = choice(chance, text, 0);
            if (text.length() > 40 && text.length() <= 100) {
                made++;
                SungHarvest x = new SungHarvest();
                x.singer(0, 1, 0, 0);
                due.is(text.toString(), Due.village(x, text.toString()), 0);
                due.is("STRAIN by " + text, x.of(0, 6), (one ? 31 : 0) - (other ? 7 : 0));
            }
        }
        due.is("chance made as many", made, 8000);
    }

    private static boolean choice(Random chance, StringBuilder text, int depth) {
        boolean holds = together(chance, text, depth);
        while (chance.nextInt(5) < 2) {
            text.append('|');
            holds |= together(chance, text, depth);
        }
        return holds;
    }

    private static boolean together(Random chance, StringBuilder text, int depth) {
        boolean holds = factor(chance, text, depth);
        while (chance.nextInt(5) < 2) {
            text.append('&');
            holds &= factor(chance, text, depth);
        }
        return holds;
    }

    private static boolean factor(Random chance, StringBuilder text, int depth) {
        int which = depth < 4 ? chance.nextInt(5) : 4;
        if (which == 0) {
            text.append('!');
            return !factor(chance, text, depth + 1);
        }
        if (which <= 2) {
            text.append('(');
            boolean holds = choice(chance, text, depth + 1);
            text.append(')');
            return holds;
        }
        boolean holds = chance.nextBoolean();
        text.append(holds ? "v=1" : "v=2");
        return holds;
    }

    /** SUM: twice how many PARTS, and all hard, less all easy, together; it may be below 0. */
    private static void sums() {
        String one = "singer 0 1 7 50, say ";
        sum(one + "hard 0 v=1", 6);
        sum(one + "hard 99 v=1", 105);
        sum(one + "easy 0 v=1", 6);
        sum(one + "easy 6 v=1", 0);
        sum(one + "easy 7 v=1", -1);
        sum(one + "easy 99 v=1", -93);
        sum(one + "anew 99", 6);
        sum(one + "hard 1 v=2;easy 2 v=2", 6);
        sum(one + "hard 99 v=1" + ";hard 9 v=1".repeat(7), 6 + 99 + 63);
        sum(one + "easy 99 v>0;easy 99 v>0;easy 99 v>0;easy 99 v>0;easy 99 v>0;easy 99 v>0;easy 99 v>0;easy 99 v>0", 6 - 8 * 99);
        sum(one + "easy 99 v=1;hard 98 v=1;anew 3;easy 5 v=2;hard 1 v=1", 6);
        sum(one + "hard 1 v>0;hard 1 v>0;hard 1 v>0;hard 1 v>0;hard 1 v>0;hard 1 v>0;hard 1 v>0;hard 1 v>0;anew 1", 14);
    }

    private static void sum(String ahead, int due) {
        edges.answers("SUM by '" + ahead + "'", ahead + ", village", "of 0 6", due);
    }
}
