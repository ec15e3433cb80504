/** Promises 4 and 5: teach and errorAt, error by error. A ^ stands ahead of the token of the error due. */
public final class LanguageTest {
    private static final String CAVES = "cave a mouth 1 deep 1; cave b mouth 1 deep 1; ";
    private static final String PIPES = CAVES + "pipe p in a length 1; pipe q in b length 1; ";

    public static void main(String[] args) {
        tokens();
        lines();
        tests();
        depth();
        tokenLimit();
        toldTwice();
        notTold();
        tooMany();
        outOfRange();
        firstError();
        replacing();
        Check.end();
    }

    private static void fits(String list) {
        error(0, list);
    }

    private static void error(int due, String marked) {
        Check.error(due, marked);
    }

    private static void error1InTest(String marked) {
        error(1, PIPES + "shut a when " + marked);
    }

    private static void fitsAsTest(String test) {
        fits(PIPES + "shut a when " + test + "; clean p when " + test + ";");
    }

    private static void tokens() {
        fits("");
        fits(" \n \n");
        fits("\ncave\na\nmouth\n1 deep\n1\n;\n");
        fits("cave a mouth 1deep 1;cave a1b2c3d4e5 mouth 000001deep 000009;");
        fits("cave abcdefghij mouth 1 deep 1; pipe zzzzzzzzz9 in abcdefghij length 40reed;");
        error(1, "cave ^abcdefghijk mouth 1 deep 1;");
        error(1, "cave ^a2345678901 mouth 1 deep 1;");
        error(1, "cave a mouth ^0000001 deep 1;");
        error(5, "cave a mouth ^123456 deep 1;");
        error(1, "cave ^A mouth 1 deep 1;");
        error(1, "cave a^B mouth 1 deep 1;");
        error(1, "cave a^_ mouth 1 deep 1;");
        error(1, "cave a^\tmouth 1 deep 1;");
        error(1, "cave a^\rmouth 1 deep 1;");
        error(1, "^\0");
        error(1, "^\u0080");
        error(1, "^\u00ff");
        error(1, "cave a mouth ^x1 deep 1;");
        error(1, "cave a ^mouth1 deep 1;");
        error(1, "^cavea mouth 1 deep 1;");
        error(1, "cave ^1a mouth 1 deep 1;");
        error(1, "cave a mouth ^-1 deep 1;");
        error(1, "cave a mouth ^1234567");
        fitsAsTest("1<=2and 2>=1and 1<2and 2>1and 1=1");
        error1InTest("1 < ^= 2;");
        error1InTest("1 > ^= 2;");
        error1InTest("1 =^< 2;");
        error1InTest("1 =^= 2;");
        error1InTest("1 <=^= 2;");
        error1InTest("1 <^> 2;");
        error1InTest("1 ^! 2;");
    }

    private static void lines() {
        for (String word : ("mouth deep in length reed high every from to of when hour tide pressure silt loud listeners "
                + "sounds not and or min max name ; 1 ( [").split(" ")) {
            error(1, "^" + word);
            error(1, CAVES + "^" + word + " ;");
        }
        for (String word : ("cave mouth deep pipe in length reed swell high every from silence to chord of shut clean when "
                + "hour tide pressure silt loud listeners sounds not and or min max").split(" ")) {
            error(1, "cave ^" + word + " mouth 1 deep 1;");
            fits("cave " + word + "x mouth 1 deep 1;");
        }
        error(1, "cave^");
        error(1, "cave a  \n^");
        error(1, "cave a mouth 1 deep 1^");
        error(1, "cave a mouth 1 deep 1   ^");
        error(1, "cave a mouth 1 deep 1 ^cave b mouth 1 deep 1;");
        error(1, "cave a mouth 1 deep 1;^;");
        error(1, "cave a ^deep 1 mouth 1;");
        error(1, CAVES + "pipe p ^of a length 1;");
        error(1, CAVES + "pipe p in ^1 length 1;");
        error(1, CAVES + "pipe p in a ^reed;");
        error(1, CAVES + "pipe p in a length 1 reed ^reed;");
        error(1, "swell ^every 1 high 1 from 0;");
        error(1, "swell high 1 every 1^;");
        error(1, "silence from 1^;");
        error(1, "silence from 1 to ^-1;");
        error(1, PIPES + "chord ^of p q;");
        error(1, PIPES + "chord c of^;");
        error(1, PIPES + "chord c of p^;");
        error(1, PIPES + "chord c of p q ^1;");
        error(1, PIPES + "chord c of p^, q;");
        fits(PIPES + "chord c of p q; chord d of q p;");
        error(1, PIPES + "shut a^;");
        error(1, PIPES + "shut ^when 1 = 1;");
        error(1, PIPES + "clean^;");
        error(1, PIPES + "clean p ^if 1 = 1;");
        error(1, PIPES + "clean p when^;");
        fits(PIPES + "clean p; clean p when 1 = 1; clean q;");
    }

    private static void tests() {
        fitsAsTest("sounds p");
        fitsAsTest("sounds p and sounds q or not sounds p");
        fitsAsTest("[sounds p]");
        fitsAsTest("[[hour = 1 or tide = 2] and not [listeners > 3]]");
        fitsAsTest("pressure a + silt p - loud q * 2 / 3 >= -hour");
        fitsAsTest("min(1, max(2 + 3, (4))) <= - - (5)");
        fitsAsTest("1 - -1 = 2");
        error1InTest("^;");
        error1InTest("1^;");
        error1InTest("1 + 1^;");
        error1InTest("1 < 2 ^< 3;");
        error1InTest("sounds p ^= 1;");
        error1InTest("sounds ^1;");
        error1InTest("^p = 1;");
        error1InTest("pressure ^(a) = 1;");
        error1InTest("(1 ^= 1);");
        error1InTest("(^[1 = 1]);");
        error1InTest("[1^] = 1;");
        error1InTest("[1 = 1^);");
        error1InTest("[1 = 1^;");
        error1InTest("(1^] = 1;");
        error1InTest("[1 = 1] ^+ 1 = 1;");
        error1InTest("1 + ^not 1 = 1;");
        error1InTest("1 = ^sounds p;");
        error1InTest("1 + ^* 2 = 1;");
        error1InTest("^+1 = 1;");
        error1InTest("1 = 1 and^;");
        error1InTest("1 = 1 and ^or 1 = 1;");
        error1InTest("not^;");
        error1InTest("1 = 1 ^not 1 = 1;");
        error1InTest("min ^1 = 1;");
        error1InTest("min(1^) = 1;");
        error1InTest("min(1, 2^, 3) = 1;");
        error1InTest("max(1, ^) = 1;");
        error1InTest("(^) = 1;");
        error1InTest("1 = 1^, 2;");
        error1InTest("hour ^tide = 1;");
        error1InTest("1 = 1 ^when 1 = 1;");
    }

    private static String nested(int times, String open, String inside, String close) {
        return open.repeat(times) + inside + close.repeat(times);
    }

    private static void depth() {
        fitsAsTest(nested(8, "(", "1", ")") + " = 1");
        error1InTest(nested(8, "(", "^(1)", ")") + " = 1;");
        fitsAsTest(nested(8, "[", "1 = 1", "]"));
        error1InTest(nested(8, "[", "^[1 = 1]", "]") + ";");
        fitsAsTest("--------1 = --------1");
        error1InTest("--------^-1 = 1;");
        error1InTest("--------1 = --------^-1;");
        fitsAsTest("not ".repeat(8) + "1 = 1");
        error1InTest("not ".repeat(8) + "^not 1 = 1;");
        fitsAsTest("not [-(min(-(-1), 2)) = -(max(1, -(-2)))]");
        error1InTest("not [-(min(-(-^-1), 2)) = 1];");
        error1InTest("not [-(min(-(-1), -(-^(1)))) = 1];");
        error1InTest("not [not [-(-min(^-1, 2)) = 1]];");
        fitsAsTest(nested(8, "min(1, ", "1", ")") + " = " + nested(8, "max(", "1", ", 2)"));
        error1InTest(nested(8, "min(1, ", "min^(1, 1)", ")") + " = 1;");
        fitsAsTest(nested(7, "(", "min(1, 2)", ")") + " = 1");
        error1InTest(nested(8, "(", "min^(1, 2)", ")") + " = 1;");
        // What closes brings the depth back, and so does the end of what is turned.
        fitsAsTest("-1" + "-1".repeat(12) + " = (1)" + "+(1)".repeat(12));
        fitsAsTest("-1" + "*-1".repeat(12) + " < 1 and -((((((-1)))))) = -((((((-1))))))");
        fitsAsTest("not 1=1" + " and not 1=1".repeat(10) + " or not 1=1".repeat(10));
        fitsAsTest("[1=1]" + " and [1=1]".repeat(10) + " or [1=1]".repeat(5));
        // A minus between two values is none in front of one.
        fitsAsTest(nested(8, "(", "1 - 1", ")") + " = 1");
        error1InTest(nested(8, "(", "1 - ^-1", ")") + " = 1;");
        // What a not turns is its single alone, with both its sums.
        String seven = nested(7, "(", "1", ")");
        fitsAsTest("not " + seven + " = " + seven + " and (" + seven + ") = 1");
        error1InTest("not " + seven + " = " + nested(7, "(", "^(1)", ")") + ";");
    }

    private static void tokenLimit() {
        // 11 tokens, and 2 more for each + 1
        String start = "cave a mouth 1 deep 1; shut a when 1";
        fits(start + "+1".repeat(193) + "=1;");
        fits(start + "+1".repeat(193) + "=1;   \n\n  ");
        error(1, start + "+1".repeat(194) + "=^1;");
        error(1, start + "+1".repeat(194) + "+^1=1;");
        error(1, start.replace("when 1", "when -1") + "+1".repeat(193) + "=1^;");
        error(1, start + "+1".repeat(193) + "=1; \n ^cave");
        error(1, start + "+1".repeat(193) + "=1;^!");
        error(1, start + "+1".repeat(193) + "=1;^abcdefghijklm");
        error(1, start + "+1".repeat(100) + "^;" + "+1".repeat(200));
        error(1, start.replace("shut a", "shut none") + "+1".repeat(194) + "=^1;");
    }

    private static void toldTwice() {
        error(2, CAVES + "cave ^a mouth 1 deep 1;");
        error(2, PIPES + "pipe ^q in a length 1;");
        error(2, PIPES + "chord c of p q; chord ^c of p q;");
        fits(CAVES + "pipe a in a length 1; pipe b in b length 1; chord a of a b; chord b of b a;");
        fits("cave ab mouth 1 deep 1; cave a mouth 1 deep 1; cave abc mouth 1 deep 1; cave b mouth 1 deep 1;");
        fits("cave x9 mouth 1 deep 1; cave xa mouth 1 deep 1; cave x mouth 1 deep 1; cave x0 mouth 1 deep 1;");
        fits("cave a0 mouth 1 deep 1; cave a00 mouth 1 deep 1; cave a mouth 1 deep 1;");
        error(2, "cave abcdefghij mouth 1 deep 1; cave abcdefghi mouth 1 deep 1; cave ^abcdefghij mouth 1 deep 1;");
    }

    private static void notTold() {
        error(3, "pipe p in ^a length 1; cave a mouth 1 deep 1;");
        error(3, PIPES + "pipe r in ^p length 1;");
        error(3, PIPES + "chord c of ^a p;");
        error(3, PIPES + "chord c of p ^r; pipe r in a length 1;");
        error(3, PIPES + "chord c of p q ^c;");
        error(3, PIPES + "shut ^p when 1 = 1;");
        error(3, PIPES + "clean ^a;");
        error(3, PIPES + "clean ^a when 1 = 1;");
        error(3, PIPES + "shut a when sounds ^a;");
        error(3, PIPES + "shut a when not [sounds p or sounds ^r];");
        error(3, PIPES + "shut a when silt ^b = 1;");
        error(3, PIPES + "shut a when 1 = loud ^b;");
        error(3, PIPES + "shut a when pressure ^p = 1;");
        error(3, PIPES + "clean p when min(pressure a, -(pressure ^c)) = 1;");
        error(3, PIPES + "clean p when silt ^r = 1; pipe r in a length 1;");
    }

    private static void tooMany() {
        String five = "";
        for (int i = 0; i < 5; i++) {
            five += "cave c" + i + " mouth 1 deep 1; ";
        }
        fits(five);
        error(4, five + "cave ^x mouth 1 deep 1;");
        error(2, five + "cave ^c3 mouth 1 deep 1;");
        String twelve = five;
        for (int i = 0; i < 12; i++) {
            twelve += "pipe p" + i + " in c4 length 2; ";
        }
        fits(twelve);
        error(4, twelve + "pipe ^x in none length 0;");
        error(2, twelve + "pipe ^p11 in none length 0;");
        String chords = twelve;
        for (int i = 0; i < 6; i++) {
            chords += "chord h" + i + " of p0 p1 p2 p3 p4 p11; ";
        }
        fits(chords);
        error(4, chords + "chord ^x of none none;");
        error(2, chords + "chord ^h0 of none none;");
        error(4, twelve + "chord x of p0 p1 p2 p3 p4 p5 ^p6;");
        error(4, twelve + "chord x of p0 p1 p2 p3 p4 p5 ^p5;");
        error(3, twelve + "chord x of p0 p1 p2 p3 p4 p5 ^none;");
        String swells = "swell high 1 every 1 from 0; ".repeat(5);
        fits(swells);
        error(4, swells + "^swell high 0 every 1 from 0;");
        String silences = "silence from 1 to 2; ".repeat(3);
        fits(silences);
        error(4, silences + "^silence from 99 to 2;");
        String orders = PIPES + "clean p; shut a when 1 = 1; ".repeat(8);
        fits(orders);
        error(4, orders + "^shut none when 1 = 1;");
        error(4, orders + "^clean none;");
        error(4, orders + "cave c mouth 1 deep 1; ^clean none;");
        error(4, PIPES + "clean p; ".repeat(16) + "^shut a when 1 = 1;");
        error(4, PIPES + "shut a when 1 = 1; ".repeat(16) + "^clean p;");
    }

    private static void outOfRange() {
        String[] ranges = {"cave x mouth # deep 1; 1 9", "cave x mouth 9 deep # ; 1 9", "swell high # every 1 from 0; 1 30",
            "swell high 1 every # from 0; 1 24", "swell high 1 every 1 from # ; 0 99", "silence from # to 0; 0 23",
            "silence from 0 to # ; 0 23", CAVES + "pipe x in a length # ; 1 40", CAVES + "pipe x in a length # reed; 1 40"};
        for (String range : ranges) {
            int end = range.lastIndexOf(';') + 1;
            String[] bounds = range.substring(end).trim().split(" ");
            int least = Integer.parseInt(bounds[0]);
            int most = Integer.parseInt(bounds[1]);
            String line = range.substring(0, end);
            fits(line.replace("#", "" + least));
            fits(line.replace("#", "" + most));
            error(5, line.replace("#", "^" + (most + 1)));
            error(5, line.replace("#", "^999999"));
            if (least > 0) {
                error(5, line.replace("#", "^" + (least - 1)));
            }
        }
        error(5, PIPES + "chord c of p ^p;");
        error(5, PIPES + "chord c of p q ^p q;");
        fits(PIPES + "shut a when 0 < 999999;");
    }

    private static void firstError() {
        error(2, CAVES + "cave ^a mouth 0 deep 0; pipe p in none length 0;");
        error(5, CAVES + "cave c mouth ^0 deep 1; cave a mouth 1 deep 1;");
        error(3, CAVES + "pipe p in ^none length 0;");
        error(1, CAVES + "cave a mouth 0 deep 0; pipe p in none length 0^");
        error(1, CAVES + "shut none when 1 = 1; cave^;");
        // What stands in a line with an error is looked at no longer, but its tokens still are.
        error(5, "cave x mouth ^10 deep 1; pipe p in x length 1; pipe p in y length 1;");
    }

    private static void replacing() {
        DriftOrgan organ = Check.organ(PIPES + "chord c of p q; swell high 9 every 1 from 0; silence from 23 to 0; "
                + "clean p; shut b when 1 = 2;");
        organ.setTide(7);
        organ.pass(30);
        Check.holds("there are listeners", organ.count(10) > 0);
        Check.holds("there are complaints", organ.count(11) > 0);
        long before = organ.digest();
        Check.same("teach of an error", Check.teach(organ, "cave x mouth 0 deep 1;"), 5);
        Check.same("its place", organ.errorAt(), 13);
        Check.same("all stays", organ.digest(), before);
        String much = "cave x mouth 3 deep 1; pipe y in x length 9; swell high 1 every 1 from 1; silence from 1 to 2; "
                + "pipe z in x length 3; chord c of y z; clean y; ";
        Check.same("teach of an error behind much", Check.teach(organ, much + ";"), 1);
        Check.same("all stays again", organ.digest(), before);
        Check.same("place behind much", organ.errorAt(), much.length());
        organ.pass(1);
        Check.same("errorAt stays till the next teach", organ.errorAt(), much.length());
        Check.same("teach", Check.teach(organ, "cave x mouth 2 deep 3; pipe y in x length 9;"), 0);
        Check.same("errorAt of none", organ.errorAt(), -1);
        int[] counts = {31, 7, 1, 1, 0, 0, 0, 0, 0, 0, 0, 0, 0, 0};
        for (int what = 0; what < counts.length; what++) {
            Check.same("taught anew: count(" + what + ")", organ.count(what), counts[what]);
        }
        for (int what = 0; what < 7; what++) {
            Check.same("taught anew: pipe(0, " + what + ")", organ.pipe(0, what), new int[] {0, 9, 0, 0, 4, 0, 0}[what]);
        }
        for (int what = 0; what < 5; what++) {
            Check.same("taught anew: cave(0, " + what + ")", organ.cave(0, what), new int[] {2, 3, 0, 1, 0}[what]);
        }
        Check.same("teach of nothing", organ.teach(), 0);
        Check.same("no caves", organ.count(2), 0);
        Check.same("no pipes", organ.count(3), 0);
        Check.same("the old list once more", Check.teach(organ, PIPES + "chord c of p q;"), 0);
        String silting = "cave a mouth 1 deep 8; pipe p in a length 40; pipe q in a length 9 reed; chord c of p q;";
        Check.same("a list that gets silt", Check.teach(organ, silting), 0);
        organ.setTide(4);
        organ.pass(3);
        Check.same("silt", organ.count(12), 9);
        Check.same("that list again", Check.teach(organ, silting), 0);
        Check.same("silt begins anew", organ.count(12), 0);
        Check.same("need begins anew", organ.pipe(1, 4), 4);
        Check.same("hours of a chord begin anew", organ.chord(0, 3), 0);
        Check.same("hours of a pipe begin anew", organ.pipe(0, 6), 0);
    }
}
