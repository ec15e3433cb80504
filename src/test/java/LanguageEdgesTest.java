/**
 * The sentences of '1. The language' up to the errors that name an edge, each by itself. A ^ in a list stands ahead
 * of the token of the error due.
 */
public final class LanguageEdgesTest {
    private static final String CAVE = "cave a mouth 1 deep 1; ";
    private static final String PIPES = CAVE + "pipe p in a length 2; pipe q in a length 2; ";
    private static final String LETTERS = "abcdefghijklmnopqrstuvwxyz";
    private static final String DIGITS = "0123456789";
    private static final String BLANKS = " \n";
    private static final String[] KEYWORDS = ("cave mouth deep pipe in length reed swell high every from silence to chord "
            + "of shut clean when hour tide pressure silt loud listeners sounds not and or min max").split(" ");

    public static void main(String[] args) {
        Check.sentence("The tape is a row of at most 2000 bytes", LanguageEdgesTest::longestTape);
        Check.sentence("The tape is at first empty", LanguageEdgesTest::emptyAtFirst);
        Check.sentence("and it is empty behind teach", LanguageEdgesTest::emptyBehindTeach);
        Check.sentence("Blanks (32) and line ends (10)", LanguageEdgesTest::blanks);
        Check.sentence("can stand between tokens, at the beginning and at the end", LanguageEdgesTest::blanksAround);
        Check.sentence("have to stand between two tokens that would otherwise be read as one",
                LanguageEdgesTest::blanksNeeded);
        Check.sentence("The longest possible token is always read", LanguageEdgesTest::longestToken);
        Check.sentence("A word: a letter a to z", LanguageEdgesTest::firstOfAWord);
        Check.sentence("followed by letters a to z and digits", LanguageEdgesTest::restOfAWord);
        Check.sentence("A word: at most 10 bytes", LanguageEdgesTest::longestWord);
        Check.sentence("A number: 1 to 6 digits", LanguageEdgesTest::longestNumber);
        Check.sentence("a number's bytes are digits", LanguageEdgesTest::bytesOfANumber);
        Check.sentence("Symbols: ( ) [ ] ; , + - * / < > = <= >=", LanguageEdgesTest::symbols);
        Check.sentence("The keywords are", LanguageEdgesTest::keywords);
        Check.sentence("All other words are names", LanguageEdgesTest::allOtherWords);
        Check.sentence("{ x } any number of times, also none: lines of a list", LanguageEdgesTest::numbersOfLines);
        Check.sentence("{ x } any number of times, also none: names of a chord", LanguageEdgesTest::numbersOfNames);
        Check.sentence("{ x } any number of times, also none: tests and sums", LanguageEdgesTest::lengthsOfChains);
        Check.sentence("[ x ] means x or nothing", LanguageEdgesTest::oneOrNone);
        Check.sentence("Depth is 0 at the beginning", LanguageEdgesTest::depthOfEachOrder);
        Check.sentence("1 greater between a ( and its )", LanguageEdgesTest::depthOfBrackets);
        Check.sentence("1 greater between the ( of min and max and its )", LanguageEdgesTest::depthOfMinAndMax);
        Check.sentence("1 greater between a [ and its ]", LanguageEdgesTest::depthOfTests);
        Check.sentence("1 greater behind a - in front for what it turns", LanguageEdgesTest::depthOfMinus);
        Check.sentence("1 greater behind a not for what it turns", LanguageEdgesTest::depthOfNot);
        Check.sentence("It may be at most 8: of all kinds together", LanguageEdgesTest::depthOfAllKinds);
        Check.sentence("numbered from 0 in the order in which they are told, each by themselves",
                LanguageEdgesTest::numbering);
        Check.end();
    }

    /** A list of 2000 bytes, a cave and then blanks up to these last ones. */
    private static String upTo2000(String last) {
        return CAVE + " ".repeat(2000 - CAVE.length() - last.replace("^", "").length()) + last;
    }

    private static void longestTape() {
        DriftOrgan organ = new DriftOrgan();
        Check.same("a list of 2000 bytes", Check.feed(organ, upTo2000("cave b mouth 2 deep 3;")), 2000);
        Check.same("its last line is read", organ.teach(), 0);
        Check.same("deep of the last line", organ.cave(1, 1), 3);
        for (int i = 1; i <= 100; i++) {
            Check.same("feed " + i, organ.feed(0, 0, 0, 0, 0), 20 * i);
        }
        Check.refuses(organ, "feed 101", IllegalStateException.class, () -> organ.feed(0, 0, 0, 0, 0));
        Check.same("bytes of the tape", organ.count(13), 2000);
        Check.error(1, upTo2000("^!"));
        Check.error(1, upTo2000("^;"));
        Check.error(1, upTo2000("^c"));
        Check.error(1, upTo2000("cave^"));
        Check.error(1, upTo2000("cave abcdefghij^"));
        Check.error(1, upTo2000("cave ^abcdefghijk"));
        Check.error(1, upTo2000("cave b mouth 000001^"));
        Check.error(1, upTo2000("cave b mouth ^0000001"));
        Check.error(1, upTo2000("shut a when 1 + 2 <=^"));
        Check.error(1, upTo2000("shut a when 1 + 2 <^"));
        Check.error(5, upTo2000("cave b mouth ^10 deep 1;"));
    }

    private static void emptyAtFirst() {
        DriftOrgan organ = new DriftOrgan();
        Check.same("bytes", organ.count(13), 0);
        Check.same("trim(0)", organ.trim(0), 0);
        Check.refuses(organ, "trim(1)", IllegalArgumentException.class, () -> organ.trim(1));
        Check.same("teach", organ.teach(), 0);
        Check.same("errorAt", organ.errorAt(), -1);
    }

    private static void emptyBehindTeach() {
        String[] lists = {"", CAVE, CAVE + CAVE, "cave a mouth 0 deep 1;", "cave", CAVE + "!"};
        for (String list : lists) {
            DriftOrgan organ = new DriftOrgan();
            Check.teach(organ, list);
            Check.same("bytes behind teach of " + list, organ.count(13), 0);
            Check.refuses(organ, "trim(1)", IllegalArgumentException.class, () -> organ.trim(1));
            Check.same("teach of nothing, behind " + list, organ.teach(), 0);
            Check.same("caves of nothing, behind " + list, organ.count(2), 0);
            Check.same("feed behind it", organ.feed(0x20202020, 0, 0, 0, 0), 20);
            Check.same("teach of zeros", organ.teach(), 1);
            Check.same("the first zero", organ.errorAt(), 4);
        }
    }

    /** Each of the 256 bytes stands in between; the list fits with those that are named alone. */
    private static void fitsOnlyWith(String fitting, String ahead, String behind) {
        for (char sign = 0; sign < 256; sign++) {
            DriftOrgan organ = new DriftOrgan();
            boolean fits = Check.teach(organ, ahead + sign + behind) == 0;
            Check.holds(ahead + "(byte " + (int) sign + ")" + behind + (fits ? " fits" : " does not fit") + ", which",
                    fits == fitting.indexOf(sign) >= 0);
        }
    }

    private static void blanks() {
        fitsOnlyWith(BLANKS, "cave", "a mouth 1 deep 1;");
        fitsOnlyWith(BLANKS, "", CAVE);
        fitsOnlyWith(BLANKS, CAVE, "");
        fitsOnlyWith(BLANKS, CAVE, "cave b mouth 1 deep 1;");
        Check.error(1, "cave^\ta mouth 1 deep 1;");
        Check.error(1, "cave^\u000ba mouth 1 deep 1;");
        Check.error(1, "cave^\ra mouth 1 deep 1;");
        Check.error(1, "cave^\u001fa mouth 1 deep 1;");
        Check.error(1, "cave^!a mouth 1 deep 1;");
        Check.error(1, "cave^\u00a0a mouth 1 deep 1;");
    }

    private static void blanksAround() {
        Check.fits("cave a mouth 1 deep 1;");
        Check.fits(" cave a mouth 1 deep 1;");
        Check.fits("cave a mouth 1 deep 1; ");
        Check.fits("\ncave a mouth 1 deep 1;\n");
        Check.fits("  \n \n\n cave\n \na \n\n mouth  1\n\ndeep\n1\n; \n \n");
        Check.fits(" ");
        Check.fits("\n");
        Check.fits(" ".repeat(2000));
        Check.fits("\n".repeat(2000));
        Check.fits(PIPES + "shut a when [ ( 1 ) = - 1 ] and min ( 1 , 2 ) <= 3 ;");
    }

    private static void blanksNeeded() {
        Check.error(1, "^cavea mouth 1 deep 1;");
        Check.error(1, "cave amouth ^1 deep 1;");
        Check.error(1, "cave a ^mouth1 deep 1;");
        Check.error(1, "cave a mouth 1 ^deep1;");
        Check.error(1, PIPES + "chord c of pq^;");
        Check.error(1, PIPES + "shut a when 1 < ^= 2;");
        Check.error(1, PIPES + "shut a when 1 > ^= 2;");
        Check.error(1, PIPES + "shut a when ^not1 = 1;");
        Check.error(1, PIPES + "shut a when hour = 1 ^or2 = 2;");
        // Where two tokens can't be read as one none has to.
        Check.fits("cave a mouth 1deep 2;pipe p in a length 3reed;pipe q in a length 4;swell high 1every 2from 3;"
                + "silence from 1to 2;chord c of p q;shut a when 1<2and 3>=2or[1=1]and not[2=3]or hour<-tide;"
                + "clean p when-1<(2)and min(1,2)+max(2,3)*4/5-6=1and sounds q;clean q;");
    }

    private static void longestToken() {
        Check.fits(PIPES + "shut a when 1<=2; shut a when 1>=2;");
        Check.error(1, PIPES + "shut a when 1<=^= 2;");
        Check.error(1, PIPES + "shut a when 1>=^= 2;");
        Check.error(1, PIPES + "shut a when 1<^< 2;");
        Check.error(1, PIPES + "shut a when 1=^> 2;");
        Check.fits("cave inlength mouth 1 deep 1;");
        Check.fits("cave a mouth 000009 deep 1;");
        // Not 00000 and 9, and not 123456 and 7.
        Check.error(1, "cave a mouth ^1234567 deep 1;");
        Check.error(5, "cave a mouth ^12 deep 1;");
        Check.same("12 is not 1 and 2", Check.organ(PIPES.replace("length 2", "length 12")).pipe(0, 1), 12);
    }

    private static void firstOfAWord() {
        fitsOnlyWith(LETTERS, "cave ", " mouth 1 deep 1;");
        Check.error(1, "cave ^` mouth 1 deep 1;");
        Check.error(1, "cave ^{ mouth 1 deep 1;");
        Check.error(1, "cave ^A mouth 1 deep 1;");
        Check.error(1, "cave ^Z mouth 1 deep 1;");
        Check.error(1, "cave ^0a mouth 1 deep 1;");
        Check.error(1, "cave ^9a mouth 1 deep 1;");
    }

    private static void restOfAWord() {
        fitsOnlyWith(LETTERS + DIGITS + BLANKS, "cave a", " mouth 1 deep 1;");
        fitsOnlyWith(LETTERS + DIGITS, "cave a", "b mouth 1 deep 1;");
        fitsOnlyWith(LETTERS + DIGITS + BLANKS, "cave abcdefghi", " mouth 1 deep 1;");
        Check.error(1, "cave a^` mouth 1 deep 1;");
        Check.error(1, "cave a^{ mouth 1 deep 1;");
        Check.error(1, "cave a^/ mouth 1 deep 1;");
        Check.error(1, "cave a^: mouth 1 deep 1;");
        Check.error(1, "cave a^\u00e1 mouth 1 deep 1;");
    }

    private static void longestWord() {
        Check.fits("cave abcdefghi mouth 1 deep 1;");
        Check.fits("cave abcdefghij mouth 1 deep 1;");
        Check.error(1, "cave ^abcdefghijk mouth 1 deep 1;");
        Check.error(1, "cave ^abcdefghijkl mouth 1 deep 1;");
        Check.fits("cave a234567890 mouth 1 deep 1;");
        Check.error(1, "cave ^a2345678901 mouth 1 deep 1;");
        Check.error(1, "cave ^" + "z".repeat(1995));
        Check.error(1, "^cavecavecave a mouth 1 deep 1;");
        Check.error(1, CAVE + "pipe p in ^abcdefghijk length 1;");
        // All ten bytes tell names apart, and names of ten bytes are found again.
        DriftOrgan organ = Check.organ("cave zzzzzzzzzy mouth 1 deep 1; cave zzzzzzzzzz mouth 2 deep 1; "
                + "cave zzzzzzzzz mouth 3 deep 1; cave yzzzzzzzzz mouth 4 deep 1; cave zzzzzzzzz9 mouth 5 deep 1; "
                + "pipe p in zzzzzzzzzz length 1; pipe q in yzzzzzzzzz length 1; pipe r in zzzzzzzzz9 length 1;");
        Check.same("the cave of p", organ.pipe(0, 0), 1);
        Check.same("the cave of q", organ.pipe(1, 0), 3);
        Check.same("the cave of r", organ.pipe(2, 0), 4);
    }

    private static void longestNumber() {
        Check.fits("cave a mouth 9 deep 1;");
        Check.fits("cave a mouth 000009 deep 1;");
        Check.error(1, "cave a mouth ^0000009 deep 1;");
        Check.error(1, "cave a mouth ^deep 1;");
        Check.error(5, "cave a mouth ^999999 deep 1;");
        Check.error(1, "cave a mouth ^1000000 deep 1;");
        Check.error(1, "cave a mouth ^" + "9".repeat(1987));
        // 2 to the 32nd power and 1: not to be read as 1.
        Check.error(1, "cave a mouth ^4294967297 deep 1;");
        Check.fits(PIPES + "shut a when 999999 > 000000;");
        Check.error(1, PIPES + "shut a when ^1000000 > 0;");
        Check.error(1, PIPES + "shut a when 0 < ^0000001;");
        Check.same("999999 is read whole", Check.organ(CAVE + "shut a when 999999 = 1000 * 1000 - 1;").cave(0, 4), 1);
        Check.same("000010 is 10", Check.organ(CAVE + "shut a when 000010 = 10;").cave(0, 4), 1);
    }

    private static void bytesOfANumber() {
        fitsOnlyWith("123456789", "cave a mouth ", " deep 1;");
        fitsOnlyWith(BLANKS, "cave a mouth 1", "deep 1;");
        fitsOnlyWith(BLANKS + DIGITS, CAVE + "pipe p in a length 1", " reed;");
        fitsOnlyWith(BLANKS + DIGITS, CAVE + "shut a when 2 = 12345", ";");
        Check.error(1, "cave a mouth 1^/deep 1;");
        Check.error(1, "cave a mouth 1^:deep 1;");
        Check.error(1, "cave a mouth 1^xdeep 1;");
        Check.error(1, "cave a mouth ^-1 deep 1;");
        Check.error(1, "cave a mouth 1^.5 deep 1;");
    }

    private static void symbols() {
        fitsOnlyWith(";", "cave a mouth 1 deep 1", "");
        fitsOnlyWith("+-*/", CAVE + "shut a when 1 ", " 2 = 3;");
        fitsOnlyWith("<>=", CAVE + "shut a when 1 ", " 2;");
        fitsOnlyWith("<>" + BLANKS + DIGITS, CAVE + "shut a when 1", "= 2;");
        fitsOnlyWith("(", CAVE + "shut a when ", "1) = 2;");
        fitsOnlyWith(")", CAVE + "shut a when (1", " = 2;");
        fitsOnlyWith("(", CAVE + "shut a when min", "1,2) = 2;");
        fitsOnlyWith(",", CAVE + "shut a when min(1", "2) = 2;");
        fitsOnlyWith(")", CAVE + "shut a when max(1,2", " = 2;");
        fitsOnlyWith("[", CAVE + "shut a when ", "1 = 2];");
        fitsOnlyWith("]", CAVE + "shut a when [1 = 2", ";");
        fitsOnlyWith("-" + BLANKS + DIGITS, CAVE + "shut a when ", "1 = 2;");
        Check.error(1, CAVE + "shut a when 1 ^: 2;");
        Check.error(1, CAVE + "shut a when 1 ^? 2;");
        Check.error(1, CAVE + "shut a when ^'1 = 1;");
        Check.error(1, CAVE + "shut a when 1 ^. 2 = 1;");
    }

    private static void keywords() {
        Check.same("keywords", KEYWORDS.length, 30);
        for (String word : KEYWORDS) {
            Check.error(1, "cave ^" + word + " mouth 1 deep 1;");
            Check.error(1, PIPES + "pipe ^" + word + " in a length 1;");
            Check.error(1, PIPES + "clean ^" + word + ";");
        }
    }

    private static boolean isKeyword(String word) {
        for (String keyword : KEYWORDS) {
            if (keyword.equals(word)) {
                return true;
            }
        }
        return false;
    }

    private static void allOtherWords() {
        for (String word : KEYWORDS) {
            String[] others = {word.substring(0, word.length() - 1), word.substring(1), word + "s", word + "0", "x" + word};
            for (String other : others) {
                if (!isKeyword(other)) {
                    Check.fits("cave " + other + " mouth 1 deep 1; pipe p in " + other + " length 1;");
                    Check.error(1, "^" + other + " a mouth 1 deep 1;");
                }
            }
        }
        Check.fits("cave list mouth 1 deep 1; pipe line in list length 1; pipe test in list length 1; "
                + "chord both of line test; chord sum of test line;");
    }

    private static void numbersOfLines() {
        Check.fits("");
        Check.fits("silence from 1 to 2;");
        Check.fits("silence from 1 to 2; silence from 1 to 2;");
        Check.error(1, "^;");
        Check.error(1, "silence from 1 to 2;^;");
        Check.error(1, "silence from 1 to 2^");
        Check.error(1, "silence from 1 to 2 ^silence from 1 to 2;");
    }

    private static void numbersOfNames() {
        Check.error(1, Lists.pipes(6) + "chord c of^;");
        Check.error(1, Lists.pipes(6) + "chord c of p0^;");
        for (int pipes = 2; pipes <= 6; pipes++) {
            DriftOrgan organ = Check.organ(Lists.pipes(6) + Lists.chord("c", pipes));
            Check.same("pipes of the chord", organ.chord(0, 0), pipes);
        }
    }

    private static void lengthsOfChains() {
        for (int more : new int[] {0, 1, 2, 90}) {
            Check.fits(CAVE + "shut a when 1=1" + " or 1=1".repeat(more) + ";");
            Check.fits(CAVE + "shut a when 1=1" + " and 1=1".repeat(more) + ";");
            Check.fits(CAVE + "shut a when 1" + "+1".repeat(more) + "=1" + "-1".repeat(more) + ";");
            Check.fits(CAVE + "shut a when 1" + "*1".repeat(more) + "=1" + "/1".repeat(more) + ";");
        }
        Check.error(1, CAVE + "shut a when 1=1 or^;");
        Check.error(1, CAVE + "shut a when 1=1 and^;");
        Check.error(1, CAVE + "shut a when 1=1+^;");
        Check.error(1, CAVE + "shut a when 1=1*^;");
        Check.error(1, CAVE + "shut a when 1=1^=1;");
        Check.error(1, CAVE + "shut a when 1^;");
        Check.error(1, CAVE + "shut a when^;");
    }

    private static void oneOrNone() {
        DriftOrgan organ = Check.organ(CAVE + "pipe p in a length 2; pipe q in a length 2 reed;");
        Check.same("no reed", organ.pipe(0, 2), 0);
        Check.same("a reed", organ.pipe(1, 2), 1);
        Check.error(1, CAVE + "pipe p in a length 2 reed ^reed;");
        Check.fits(PIPES + "clean p; clean p when 1 = 1;");
        Check.error(1, PIPES + "clean p when 1 = 1 ^when 1 = 1;");
        Check.error(1, PIPES + "clean p when^;");
        Check.error(1, PIPES + "shut a^;");
    }

    private static void fitsAsTest(String test) {
        Check.fits(PIPES + "shut a when " + test + "; clean p when " + test + ";");
    }

    private static void error1InTest(String marked) {
        Check.error(1, PIPES + "shut a when " + marked + ";");
        Check.error(1, PIPES + "clean p; clean p when " + marked + ";");
    }

    private static String nested(int times, String open, String inside, String close) {
        return open.repeat(times) + inside + close.repeat(times);
    }

    private static void depthOfEachOrder() {
        String eight = nested(8, "(", "1", ")");
        Check.fits(PIPES + ("shut a when " + eight + " = 1; clean p when 1 = " + eight + ";").repeat(4));
        Check.error(1, PIPES + "shut a when " + eight + " = 1; clean p when " + nested(8, "(", "^(1)", ")") + " = 1;");
    }

    private static void depthOfBrackets() {
        for (int times = 1; times <= 8; times++) {
            fitsAsTest(nested(times, "(", "1", ")") + " = " + nested(times, "(", "1", ")"));
        }
        error1InTest(nested(8, "(", "^(1)", ")") + " = 1");
        error1InTest("1 = " + nested(8, "(", "^(1)", ")"));
        error1InTest(nested(8, "(", "^((1))", ")") + " = 1");
        // Behind a ) it is what it was.
        fitsAsTest(nested(7, "(", "(1) + (1) * (1)", ")") + " = 1");
        error1InTest(nested(7, "(", "(1) + (^(1))", ")") + " = 1");
        fitsAsTest("(1)" + "+(1)".repeat(20) + " = 1");
    }

    private static void depthOfMinAndMax() {
        for (String word : new String[] {"min", "max"}) {
            fitsAsTest(nested(8, word + "(", "1", ", 2)") + " = 1");
            fitsAsTest(nested(8, word + "(2, ", "1", ")") + " = 1");
            error1InTest(nested(8, word + "(", word + "^(1, 1)", ", 2)") + " = 1");
            error1InTest(nested(8, word + "(2, ", word + "^(1, 1)", ")") + " = 1");
            // Both of its sums are as deep, and what stands behind its ) is not.
            fitsAsTest(nested(7, "(", word + "(1, 1) + (" + "1)", ")") + " = 1");
            error1InTest(nested(7, "(", word + "(^(1), 1)", ")") + " = 1");
            error1InTest(nested(7, "(", word + "(1, ^(1))", ")") + " = 1");
        }
    }

    private static void depthOfTests() {
        for (int times = 1; times <= 8; times++) {
            fitsAsTest(nested(times, "[", "1 = 1", "]"));
        }
        error1InTest(nested(8, "[", "^[1 = 1]", "]"));
        error1InTest(nested(8, "[", "^(1) = 1", "]"));
        error1InTest(nested(8, "[", "1 = ^-1", "]"));
        error1InTest(nested(8, "[", "^not 1 = 1", "]"));
        fitsAsTest(nested(7, "[", "[1 = 1] and [1 = 1] or [1 = 1]", "]"));
        error1InTest(nested(7, "[", "[1 = 1] and [1 = 1 or ^[1 = 1]]", "]"));
    }

    private static void depthOfMinus() {
        for (int times = 1; times <= 8; times++) {
            fitsAsTest("-".repeat(times) + "1 = " + "-".repeat(times) + "1");
        }
        error1InTest("--------^-1 = 1");
        error1InTest("1 = --------^-1");
        error1InTest("--------^(1) = 1");
        // What it turns is a value; behind that it is what it was.
        fitsAsTest("--------1 * --------1 + --------1 - --------1 = 1");
        fitsAsTest(nested(4, "-(", "1", ")") + " = 1");
        error1InTest(nested(4, "-(", "^-1", ")") + " = 1");
        error1InTest("-" + nested(7, "(", "^-1", ")") + " = 1");
        // A minus between two values is none in front of one.
        fitsAsTest(nested(8, "(", "1 - 1 - 1", ")") + " = 1");
        error1InTest(nested(8, "(", "1 - ^-1", ")") + " = 1");
    }

    private static void depthOfNot() {
        for (int times = 1; times <= 8; times++) {
            fitsAsTest("not ".repeat(times) + "1 = 1");
            fitsAsTest("not ".repeat(times) + "sounds p");
        }
        error1InTest("not ".repeat(8) + "^not 1 = 1");
        error1InTest("not ".repeat(8) + "^[1 = 1]");
        error1InTest("not ".repeat(8) + "^-1 = 1");
        error1InTest("not ".repeat(8) + "1 = ^(1)");
        // What it turns is the single behind it, with both its sums; behind that it is what it was.
        fitsAsTest("not ".repeat(8) + "1 = 1 and " + "not ".repeat(8) + "1 = 1 or " + "not ".repeat(8) + "1 = 1");
        fitsAsTest("not 1 = 1 and " + nested(8, "(", "1", ")") + " = 1");
        error1InTest("not 1 = " + nested(7, "(", "^(1)", ")"));
    }

    private static void depthOfAllKinds() {
        fitsAsTest("not [not [-(min(-1, -2)) = -(max(-1, -2))]]");
        error1InTest("not [not [-(min(-^-1, -2)) = 1]]");
        error1InTest("not [not [-(min(-1, -^(2))) = 1]]");
        error1InTest("not [not [1 = -(max(-1, -^(2)))]]");
        fitsAsTest("[not [not [-(-1) = -(-1)]]]");
        error1InTest("[not [not [-(-^(1)) = 1]]]");
        error1InTest("[not [not [-(-min^(1, 2)) = 1]]]");
        fitsAsTest("not [not [not [not [1 = 1]]]]");
        for (String ninth : new String[] {"^not 1 = 1", "^[1 = 1]", "^(1) = 1", "^-1 = 1", "1 = ^-1", "min^(1, 1) = 1"}) {
            error1InTest("not [not [not [not [" + ninth + "]]]]");
            fitsAsTest("[not [not [not [" + ninth.replace("^", "") + "]]]]");
        }
    }

    private static void numbering() {
        DriftOrgan organ = Check.organ("cave z mouth 1 deep 7; swell high 1 every 1 from 0; "
                + "pipe y in z length 30; cave x mouth 2 deep 8; clean y when 1 = 2; pipe w in x length 20; "
                + "chord v of w y; pipe u in z length 10; silence from 1 to 2; cave t mouth 3 deep 9; shut t when 1 = 1; "
                + "chord s of u w; chord r of y w u; clean w;");
        for (int cave = 0; cave < 3; cave++) {
            Check.same("mouth of the cave " + cave, organ.cave(cave, 0), cave + 1);
            Check.same("deep of the cave " + cave, organ.cave(cave, 1), cave + 7);
            Check.same("the cave " + cave + " would be shut", organ.cave(cave, 4), cave == 2 ? 1 : 0);
            Check.same("length of the pipe " + cave, organ.pipe(cave, 1), 30 - 10 * cave);
        }
        int[][] notes = {{1, 0}, {2, 1}, {0, 1, 2}};
        for (int chord = 0; chord < 3; chord++) {
            for (int place = 0; place < notes[chord].length; place++) {
                Check.same("note(" + chord + ", " + place + ")", organ.note(chord, place), notes[chord][place]);
            }
        }
        Check.same("orders", organ.count(7), 3);
        Check.refuses(organ, "cave(3, 0)", IndexOutOfBoundsException.class, () -> organ.cave(3, 0));
        Check.refuses(organ, "pipe(3, 0)", IndexOutOfBoundsException.class, () -> organ.pipe(3, 0));
        Check.refuses(organ, "chord(3, 0)", IndexOutOfBoundsException.class, () -> organ.chord(3, 0));
    }
}
