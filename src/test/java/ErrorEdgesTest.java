import java.util.ArrayList;
import java.util.Arrays;
import java.util.List;

/**
 * The sentences on errors of a list, each edge by itself. A ^ in a list stands ahead of the token of the error due.
 */
public final class ErrorEdgesTest {
    private static final String CAVE = "cave a mouth 1 deep 1; ";
    private static final String PIPES = CAVE + "pipe p in a length 2; pipe q in a length 2; ";
    // 11 tokens, and 2 more for each +1
    private static final String CHAIN = "cave a mouth 1 deep 1; shut a when 1";

    public static void main(String[] args) {
        error1();
        whichErrorComesFirst();
        error2And3();
        error4();
        error5();
        Check.end();
    }

    private static void error1() {
        Check.sentence("Error 1: the first token with which the tokens so far are not the beginning of a list",
                ErrorEdgesTest::firstTokenThatDoesNotFit);
        Check.sentence("Error 1: of each token in each place", ErrorEdgesTest::eachTokenInEachPlace);
        Check.sentence("a byte with which no token begins", ErrorEdgesTest::bytesWithoutToken);
        Check.sentence("a word or number that is too long", ErrorEdgesTest::tooLong);
        Check.sentence("the end of the tape (at its length)", ErrorEdgesTest::endOfTheTape);
        Check.sentence("the (, [, - or not behind which the depth would be 9", ErrorEdgesTest::ninthDepth);
        Check.sentence("the token that would be the 401st", ErrorEdgesTest::token401);
        Check.sentence("(the end of the tape not counted)", ErrorEdgesTest::endBehind400Tokens);
        Check.sentence("The position is that of its first byte", ErrorEdgesTest::firstByte);
    }

    private static void whichErrorComesFirst() {
        Check.sentence("Only if there is no error 1", ErrorEdgesTest::error1BeforeAll);
        Check.sentence("from left to right, and the first error is told", ErrorEdgesTest::leftToRight);
        Check.sentence("of errors at one token the one with the smallest number", ErrorEdgesTest::smallestNumber);
    }

    private static void error2And3() {
        Check.sentence("Error 2: of one of the same sort told ahead: cave", ErrorEdgesTest::caveTwice);
        Check.sentence("Error 2: of one of the same sort told ahead: pipe", ErrorEdgesTest::pipeTwice);
        Check.sentence("Error 2: of one of the same sort told ahead: chord", ErrorEdgesTest::chordTwice);
        Check.sentence("Error 2: of the same sort", ErrorEdgesTest::nameOfAnotherSort);
        Check.sentence("Error 3: behind in, of a cave", () -> caveWanted("pipe r in ", " length 1;"));
        Check.sentence("Error 3: behind shut, of a cave", () -> caveWanted("shut ", " when 1 = 1;"));
        Check.sentence("Error 3: behind pressure, of a cave", () -> {
            caveWanted("shut c0 when pressure ", " = 1;");
            caveWanted("clean p0 when 1 < 2 or 1 = 2 * -pressure ", ";");
        });
        Check.sentence("Error 3: behind of (all of them), of a pipe", ErrorEdgesTest::pipesOfAChord);
        Check.sentence("Error 3: behind clean, of a pipe", () -> {
            pipeWanted("clean ", ";");
            pipeWanted("clean ", " when 1 = 1;");
        });
        Check.sentence("Error 3: behind sounds, of a pipe", () -> pipeWanted("shut c0 when not sounds ", ";"));
        Check.sentence("Error 3: behind silt, of a pipe", () -> pipeWanted("shut c0 when silt ", " = 1;"));
        Check.sentence("Error 3: behind loud, of a pipe", () -> pipeWanted("clean p0 when 1 < loud ", ";"));
        Check.sentence("Error 3: told ahead", ErrorEdgesTest::toldBehind);
    }

    private static void error4() {
        Check.sentence("Error 4: the name of the 6th cave", ErrorEdgesTest::sixthCave);
        Check.sentence("Error 4: of the 13th pipe", ErrorEdgesTest::pipe13);
        Check.sentence("Error 4: of the 7th chord", ErrorEdgesTest::seventhChord);
        Check.sentence("Error 4: the name of the 7th pipe of a chord", ErrorEdgesTest::seventhPipeOfAChord);
        Check.sentence("Error 4: the swell of the 6th swell", ErrorEdgesTest::sixthSwell);
        Check.sentence("Error 4: the silence of the 4th silence", ErrorEdgesTest::fourthSilence);
        Check.sentence("Error 4: the shut or clean of the 17th order (of both together)", ErrorEdgesTest::order17);
    }

    private static void error5() {
        Check.sentence("mouth 1 to 9", () -> range("cave x mouth # deep 1;", 1, 9));
        Check.sentence("deep 1 to 9", () -> range("cave x mouth 1 deep #;", 1, 9));
        Check.sentence("length 1 to 40", () -> {
            range(CAVE + "pipe x in a length #;", 1, 40);
            range(CAVE + "pipe x in a length # reed;", 1, 40);
        });
        Check.sentence("high 1 to 30", () -> range("swell high # every 1 from 0;", 1, 30));
        Check.sentence("every 1 to 24", () -> range("swell high 1 every # from 0;", 1, 24));
        Check.sentence("from of a swell 0 to 99", () -> range("swell high 1 every 1 from #;", 0, 99));
        Check.sentence("from of a silence 0 to 23", () -> range("silence from # to 5;", 0, 23));
        Check.sentence("to of a silence 0 to 23", () -> range("silence from 5 to #;", 0, 23));
        Check.sentence("numbers of sums have no range", ErrorEdgesTest::numbersOfSums);
        Check.sentence("or a pipe is one of the same chord told ahead (at its name)", ErrorEdgesTest::pipeOfTheSameChord);
    }

    private static void firstTokenThatDoesNotFit() {
        Check.fits("cave a mouth 1 deep 1;");
        Check.error(1, "^mouth a mouth 1 deep 1;");
        Check.error(1, "cave ^mouth mouth 1 deep 1;");
        Check.error(1, "cave a ^deep 1 deep 1;");
        Check.error(1, "cave a mouth ^a deep 1;");
        Check.error(1, "cave a mouth 1 ^mouth 1;");
        Check.error(1, "cave a mouth 1 deep ^;");
        Check.error(1, "cave a mouth 1 deep 1^, ;");
        Check.error(1, "cave a mouth 1 deep 1; ^a");
        // What stands behind it does not matter, and what stands ahead is fine.
        Check.error(1, "cave a ^cave ! abcdefghijklm 1234567");
        Check.error(1, PIPES + "chord c of p ^hour q;");
        Check.error(1, PIPES + "shut a when 1 + 2 ^and 1 = 1;");
        Check.error(1, PIPES + "shut a when [1 = 1 ^) and 1 = 1;");
    }

    // With a blank between all tokens.
    private static final String[] LINES = {"cave x mouth 1 deep 1 ;", "pipe x in a length 1 ;", "pipe x in a length 1 reed ;",
        "swell high 1 every 1 from 1 ;", "silence from 1 to 2 ;", "chord x of p q ;", "chord x of p q r ;",
        "shut a when sounds p ;", "shut a when 1 < 2 or not [ silt p >= - loud q and tide > 3 ] ;", "clean p ;",
        "clean p when min ( hour , 1 ) = max ( listeners + 1 , 2 ) * pressure a ;",
        "clean p when - ( 1 / 2 - 3 ) <= ( 4 ) ;", "shut a when [ [ [ [ [ [ [ [ 1 = 2 ] ] ] ] ] ] ] ] ;",
        "shut a when not not not not not not not sounds p ;", "clean p when [ [ [ [ ( - ( - 1 ) ) = 1 ] ] ] ] ;"};

    private static void eachTokenInEachPlace() {
        List<String> others = new ArrayList<>(Grammar.KEYWORDS);
        others.addAll(List.of("x9", "7", "(", ")", "[", "]", ";", ",", "+", "-", "*", "/", "<", ">", "=", "<=", ">=", "", "p ;"));
        for (String line : LINES) {
            String[] tokens = line.split(" ");
            for (int place = 0; place < tokens.length; place++) {
                for (String other : others) {
                    String[] changed = tokens.clone();
                    changed[place] = other;
                    error1AsInTheGrammar(String.join(" ", changed));
                }
            }
        }
    }

    private static void error1AsInTheGrammar(String line) {
        List<String> tokens = new ArrayList<>(Arrays.asList((PIPES + line).replace(";", " ;").trim().split(" +")));
        List<String> sorts = new ArrayList<>();
        for (String token : tokens) {
            boolean name = token.matches("[a-z][a-z0-9]*") && !Grammar.KEYWORDS.contains(token);
            sorts.add(name ? "name" : token.matches("[0-9]+") ? "number" : token);
        }
        int wrong = Grammar.firstWrong(sorts);
        String list = String.join(" ", tokens);
        DriftOrgan organ = new DriftOrgan();
        int error = Check.teach(organ, list);
        if (wrong < 0) {
            Check.holds(list + " has no error 1, as " + error + " tells,", error != 1);
        } else {
            Check.same("teach of " + list, error, 1);
            int place = wrong == 0 ? 0 : String.join(" ", tokens.subList(0, wrong)).length() + (wrong < tokens.size() ? 1 : 0);
            Check.same("errorAt of " + list, organ.errorAt(), place);
        }
    }

    private static void bytesWithoutToken() {
        for (char sign = 0; sign < 256; sign++) {
            boolean begins = sign == ' ' || sign == '\n' || sign >= 'a' && sign <= 'z' || sign >= '0' && sign <= '9'
                    || "()[];,+-*/<>=".indexOf(sign) >= 0;
            if (!begins) {
                for (String ahead : new String[] {"", CAVE, "cave", PIPES + "shut a when 1 = 1", PIPES + "clean p "}) {
                    DriftOrgan organ = new DriftOrgan();
                    Check.same("teach, byte " + (int) sign, Check.teach(organ, ahead + sign + " mouth 1 deep 1;"), 1);
                    Check.same("errorAt, byte " + (int) sign, organ.errorAt(), ahead.length());
                }
            }
        }
    }

    private static void tooLong() {
        Check.fits("cave abcdefghij mouth 000001 deep 1;");
        Check.error(1, "cave ^abcdefghijk mouth 000001 deep 1;");
        Check.error(1, "cave abcdefghij mouth ^0000001 deep 1;");
        Check.error(1, "^listeners12 = 1;");
        Check.error(1, PIPES + "shut a when ^listeners12 = 1;");
        Check.error(1, PIPES + "shut a when sounds ^pppppppppppp;");
        Check.error(1, PIPES + "shut a when 1 = ^0000000;");
    }

    private static void endOfTheTape() {
        String list = "cave a mouth 1 deep 1;";
        int[] ends = {4, 5, 6, 7, 12, 13, 14, 15, 19, 20, 21};
        for (int end : ends) {
            Check.error(1, list.substring(0, end) + "^");
        }
        Check.fits(list);
        Check.fits("");
        Check.fits("   ");
        Check.error(1, "cave a mouth 1 deep 1 \n \n^");
        Check.error(1, "cave^");
        Check.error(1, "cave" + " ".repeat(1996) + "^");
        Check.error(1, PIPES + "shut a when^");
        Check.error(1, PIPES + "shut a when [1 = 1^");
        Check.error(1, PIPES + "clean p when --------^");
        Check.error(1, PIPES + "clean^");
        Check.error(1, PIPES + "chord c of p q^");
        Check.error(1, PIPES + "chord c of p^");
    }

    private static void ninthDepth() {
        String[] eights = {"((((((((#", "[[[[[[[[#", "--------#", "not ".repeat(8) + "#", "min(max(min(max(min(max(min(max(#"};
        for (String eight : eights) {
            Check.error(1, PIPES + "shut a when " + eight.replace("#", "^(1"));
            Check.error(1, PIPES + "shut a when " + eight.replace("#", "^-1"));
            Check.error(1, PIPES + "clean p when " + eight.replace("#", "min^(1"));
            Check.error(1, PIPES + "clean p when " + eight.replace("#", "max^(1"));
            // With a value in that place all of it is still the beginning of a list.
            Check.error(1, PIPES + "shut a when " + eight.replace("#", "1^"));
        }
        Check.error(1, PIPES + "shut a when [[[[[[[[^[1");
        Check.error(1, PIPES + "shut a when [[[[[[[[^not 1");
        Check.error(1, PIPES + "shut a when not not not not not not not not ^not 1");
        Check.error(1, PIPES + "shut a when not not not not not not not not ^[1");
    }

    private static void token401() {
        Check.fits(CHAIN + "+1".repeat(193) + "=1;");
        Check.error(1, CHAIN + "+1".repeat(193) + "=1;^cave b mouth 1 deep 1;");
        Check.error(1, CHAIN + "+1".repeat(193) + "=1;\n\n  ^;");
        Check.error(1, CHAIN + "+1".repeat(193) + "=1; ^!");
        Check.error(1, CHAIN + "+1".repeat(193) + "=1; ^abcdefghijk");
        Check.error(1, CHAIN + "+1".repeat(193) + "=1; ^1234567");
        Check.error(1, CHAIN.replace("when 1", "when -1") + "+1".repeat(193) + "=1^;");
        Check.error(1, CHAIN + "+1".repeat(194) + "=^1;");
        Check.error(1, CHAIN + "+1".repeat(194) + "+^1=1;");
        Check.error(1, CHAIN + "+1".repeat(194) + "+^1;");
        // An error 1 ahead of it comes before it: the 400th token here, and the 1st.
        Check.error(1, CHAIN + "+1".repeat(193) + "=1^=1;");
        Check.error(1, "^" + CHAIN.replace("cave", "cav") + "+1".repeat(200) + "=1;");
        // 401 tokens, of which the first lines alone would be a list.
        Check.error(1, "swell high 1 every 1 from 1; ".repeat(5) + CHAIN + "+1".repeat(174) + "=^1;");
    }

    private static void endBehind400Tokens() {
        String list = CHAIN + "+1".repeat(193) + "=1;";
        Check.fits(list);
        Check.fits(list + "\n");
        Check.fits(list + " ".repeat(2000 - list.length()));
        Check.error(1, CHAIN.replace("when 1", "when (1") + "+1".repeat(194) + "^");
        Check.error(1, CHAIN.replace("when 1", "when (1") + "+1".repeat(194) + "  ^");
        Check.error(1, CHAIN.replace("when 1", "when -1") + "+1".repeat(193) + "=1^!");
    }

    private static void firstByte() {
        Check.error(1, "   ^mouth");
        Check.error(1, "cave a mouth 1 deep 1;\n\n^listeners");
        Check.error(1, "cave a mouth ^abcdefghij 1 deep 1;");
        Check.error(1, "cave ^123456 mouth 1 deep 1;");
        Check.error(1, PIPES + "shut a when 1 + ^<= 2;");
        Check.error(1, PIPES + "shut a when ^>= 2;");
        Check.error(2, PIPES + "cave   ^a mouth 1 deep 1;");
        Check.error(3, PIPES + "pipe r in\n^abcdefghij length 1;");
        Check.error(4, "silence from 1 to 2; ".repeat(3) + "  ^silence from 1 to 2;");
        Check.error(5, "cave a mouth  ^000010 deep 1;");
    }

    private static final String FULL = PIPES + "silence from 1 to 2; ".repeat(3);
    private static final String[] FAULTS = {"cave ^a mouth 1 deep 1; ", "pipe r in ^none length 1; ",
        "^silence from 1 to 2; ", "swell high ^31 every 1 from 0; "};

    private static String plain(String marked) {
        return marked.replace("^", "");
    }

    private static void error1BeforeAll() {
        for (int i = 0; i < FAULTS.length; i++) {
            Check.error(i + 2, FULL + FAULTS[i]);
            Check.error(1, FULL + plain(FAULTS[i]) + "^;");
            Check.error(1, FULL + plain(FAULTS[i]) + "^!");
            Check.error(1, FULL + plain(FAULTS[i]) + "cave^");
            Check.error(1, FULL + plain(FAULTS[i]).replace("; ", "^"));
            Check.error(1, FULL + plain(FAULTS[i]) + "shut a when --------^-1 = 1;");
            Check.error(1, FULL + plain(FAULTS[i]) + "cave ^abcdefghijk mouth 1 deep 1;");
        }
        Check.error(3, CHAIN.replace("shut a", "shut ^b") + "+1".repeat(193) + "=1;");
        Check.error(1, CHAIN.replace("shut a", "shut b") + "+1".repeat(194) + "=^1;");
        // The 6th cave and all names behind it are no reason to stop the reading.
        Check.error(1, Lists.caves(5) + "cave x mouth 99 deep 99; pipe y in z length 99; chord v of w w; ^x");
    }

    private static void leftToRight() {
        for (int i = 0; i < FAULTS.length; i++) {
            for (int j = 0; j < FAULTS.length; j++) {
                Check.error(i + 2, FULL + FAULTS[i] + plain(FAULTS[j]));
            }
        }
        Check.error(2, FULL + "pipe ^p in none length 0;");
        Check.error(3, FULL + "pipe r in ^none length 0;");
        Check.error(5, FULL + "pipe r in a length ^0;");
        Check.error(4, FULL + "^silence from 24 to 24;");
        Check.error(5, PIPES + "silence from ^24 to 24;");
        Check.error(5, PIPES + "silence from 23 to ^24;");
        Check.error(5, PIPES + "swell high ^0 every 0 from 100;");
        Check.error(5, PIPES + "swell high 1 every ^0 from 100;");
        Check.error(5, PIPES + "swell high 1 every 1 from ^100;");
        Check.error(3, PIPES + "chord c of p ^none p;");
        Check.error(5, PIPES + "chord c of p ^p none;");
        Check.error(3, PIPES + "shut ^none when sounds none;");
        Check.error(3, PIPES + "shut a when sounds ^none or silt none = 1;");
        Check.error(4, PIPES + "clean p; ".repeat(16) + "^clean none when sounds none;");
        Check.error(4, PIPES + "clean p; ".repeat(16) + "^shut none when sounds none;");
        Check.error(4, Lists.caves(5) + "cave ^x mouth 0 deep 0;");
        Check.error(2, PIPES + "chord c of p q; chord ^c of p p;");
    }

    private static void smallestNumber() {
        Check.error(2, Lists.caves(5) + "cave ^c0 mouth 1 deep 1;");
        Check.error(4, Lists.caves(5) + "cave ^c5 mouth 1 deep 1;");
        Check.error(2, Lists.pipes(12) + "pipe ^p11 in c0 length 1;");
        Check.error(4, Lists.pipes(12) + "pipe ^p12 in c0 length 1;");
        Check.error(2, Lists.pipes(2) + Lists.chords(6) + "chord ^h5 of p0 p1;");
        Check.error(4, Lists.pipes(2) + Lists.chords(6) + "chord ^h6 of p0 p1;");
        String chord = Lists.pipes(7) + "chord c of p0 p1 p2 p3 p4 p5 ";
        Check.error(3, chord + "^none;");
        Check.error(3, chord + "^c0;");
        Check.error(4, chord + "^p5;");
        Check.error(4, chord + "^p0;");
        Check.error(4, chord + "^p6;");
    }

    private static void caveTwice() {
        Check.fits(Lists.caves(4) + "cave x mouth 1 deep 1;");
        for (int told = 0; told < 4; told++) {
            Check.error(2, Lists.caves(4) + "cave ^c" + told + " mouth 1 deep 1;");
        }
    }

    private static void pipeTwice() {
        Check.fits(Lists.pipes(11) + "pipe x in c0 length 1;");
        for (int told = 0; told < 11; told++) {
            Check.error(2, Lists.pipes(11) + "pipe ^p" + told + " in c0 length 1;");
        }
    }

    private static void chordTwice() {
        Check.fits(Lists.pipes(2) + Lists.chords(5) + "chord x of p1 p0;");
        for (int told = 0; told < 5; told++) {
            Check.error(2, Lists.pipes(2) + Lists.chords(5) + "chord ^h" + told + " of p1 p0;");
        }
    }

    private static void nameOfAnotherSort() {
        Check.fits(CAVE + "pipe a in a length 1; pipe b in a length 1; chord a of a b; chord b of b a; "
                + "cave b mouth 1 deep 1; shut a when sounds a and pressure b = silt b; clean b;");
        for (char last : "abcdefghijklmnopqrstuvwxyz0123456789".toCharArray()) {
            for (char other : "abcdefghijklmnopqrstuvwxyz0123456789".toCharArray()) {
                Check.error(last == other ? 2 : 0, "cave x" + last + " mouth 1 deep 1; cave " + (last == other ? "^" : "")
                        + "x" + other + " mouth 1 deep 1;");
            }
        }
        Check.fits("cave az mouth 1 deep 1; cave b0 mouth 1 deep 1; cave am mouth 1 deep 1; cave g0 mouth 1 deep 1; "
                + "cave ba mouth 1 deep 1;");
        // Not told before is a name that begins or ends like one.
        Check.fits("cave ab mouth 1 deep 1; cave a mouth 1 deep 1; cave b mouth 1 deep 1; cave abc mouth 1 deep 1; "
                + "cave a0 mouth 1 deep 1;");
    }

    /** Five caves are told, c0 to c4, and one pipe, p0. */
    private static void caveWanted(String ahead, String behind) {
        String told = Lists.caves(5) + "pipe p0 in c0 length 1; ";
        for (int cave = 0; cave < 5; cave++) {
            Check.fits(told + ahead + "c" + cave + behind);
        }
        Check.error(3, told + ahead + "^c5" + behind);
        Check.error(3, told + ahead + "^p0" + behind);
        Check.error(3, told + ahead + "^c" + behind);
        Check.error(3, told + ahead + "^c00" + behind);
    }

    /** Eleven pipes are told, p0 to p10, and one cave, c0. */
    private static void pipeWanted(String ahead, String behind) {
        String told = Lists.pipes(11);
        for (int pipe = 0; pipe < 11; pipe++) {
            Check.fits(told + ahead + "p" + pipe + behind);
        }
        Check.error(3, told + ahead + "^p11" + behind);
        Check.error(3, told + ahead + "^c0" + behind);
        Check.error(3, told + ahead + "^p" + behind);
        Check.error(3, told + ahead + "^p01" + behind);
    }

    private static void pipesOfAChord() {
        for (int place = 0; place < 6; place++) {
            StringBuilder ahead = new StringBuilder("chord h of");
            StringBuilder behind = new StringBuilder();
            for (int i = 0; i < place; i++) {
                ahead.append(" p").append(i);
            }
            for (int i = place + 1; i < 6; i++) {
                behind.append(" p").append(i);
            }
            Check.fits(Lists.pipes(7) + ahead + " p6" + behind + ";");
            Check.error(3, Lists.pipes(7) + ahead + " ^p7" + behind + ";");
            Check.error(3, Lists.pipes(7) + ahead + " ^c0" + behind + ";");
            Check.error(3, Lists.pipes(7) + ahead + " ^h" + behind + ";");
        }
    }

    private static void toldBehind() {
        Check.error(3, "pipe p in ^a length 1; cave a mouth 1 deep 1;");
        Check.error(3, PIPES + "chord c of p ^r; pipe r in a length 1;");
        Check.error(3, PIPES + "shut ^b when 1 = 1; cave b mouth 1 deep 1;");
        Check.error(3, PIPES + "shut a when pressure ^b = 1; cave b mouth 1 deep 1;");
        Check.error(3, PIPES + "clean ^r; pipe r in a length 1;");
        Check.error(3, PIPES + "clean p when sounds ^r; pipe r in a length 1;");
        Check.error(3, PIPES + "clean p when silt ^r = 1; pipe r in a length 1;");
        Check.error(3, PIPES + "clean p when loud ^r = 1; pipe r in a length 1;");
        Check.error(3, CAVE + "pipe p in ^p length 1;");
        // What an earlier list told is told no longer.
        DriftOrgan organ = Check.organ(PIPES);
        Check.same("teach of the pipes of before", Check.teach(organ, "clean p;"), 3);
        Check.same("errorAt", organ.errorAt(), 6);
    }

    private static void sixthCave() {
        DriftOrgan organ = Check.organ(Lists.caves(4) + "cave x mouth 7 deep 8;");
        Check.same("caves", organ.count(2), 5);
        Check.same("mouth of the fifth", organ.cave(4, 0), 7);
        Check.error(4, Lists.caves(5) + "cave ^c5 mouth 1 deep 1;");
        Check.error(4, Lists.caves(5) + "cave ^c5 mouth 1 deep 1; cave c6 mouth 1 deep 1;");
    }

    private static void pipe13() {
        DriftOrgan organ = Check.organ(Lists.pipes(11) + "pipe x in c0 length 39 reed;");
        Check.same("pipes", organ.count(3), 12);
        Check.same("length of the twelfth", organ.pipe(11, 1), 39);
        Check.error(4, Lists.pipes(12) + "pipe ^p12 in c0 length 1;");
        Check.error(4, Lists.pipes(12) + "pipe ^p12 in none length 0;");
    }

    private static void seventhChord() {
        DriftOrgan organ = Check.organ(Lists.pipes(6) + Lists.chords(5) + Lists.chord("x", 6));
        Check.same("chords", organ.count(4), 6);
        Check.same("pipes of the sixth", organ.chord(5, 0), 6);
        Check.error(4, Lists.pipes(6) + Lists.chords(6) + "chord ^h6 of p0 p1;");
        Check.error(4, Lists.pipes(6) + Lists.chords(6) + "chord ^h6 of none none;");
    }

    private static void seventhPipeOfAChord() {
        DriftOrgan organ = Check.organ(Lists.pipes(12) + "chord c of p6 p7 p8 p9 p10 p11; chord d of p5 p4 p3 p2 p1 p0;");
        for (int place = 0; place < 6; place++) {
            Check.same("note(0, " + place + ")", organ.note(0, place), 6 + place);
            Check.same("note(1, " + place + ")", organ.note(1, place), 5 - place);
        }
        Check.error(4, Lists.pipes(12) + "chord c of p0 p1 p2 p3 p4 p5 ^p6;");
        Check.error(4, Lists.pipes(12) + "chord c of p0 p1 p2 p3 p4 p5 ^p6 p7 none;");
        // Each chord has its own six.
        Check.error(4, Lists.pipes(12) + Lists.chord("c", 6) + "chord d of p0 p1 p2 p3 p4 p5 ^p6;");
    }

    private static void sixthSwell() {
        String swell = "swell high 2 every 1 from 0; ";
        DriftOrgan organ = Check.organ(swell.repeat(4) + "swell high 30 every 1 from 1;");
        Check.same("swells", organ.count(5), 5);
        Check.same("height without the fifth", organ.height(0), 16);
        Check.same("height with the fifth", organ.height(1), 46);
        Check.error(4, swell.repeat(5) + "^swell high 2 every 1 from 0;");
        Check.error(4, swell.repeat(5) + "^swell high 0 every 0 from 100; " + swell);
    }

    private static void fourthSilence() {
        String silence = "silence from 1 to 2; ";
        DriftOrgan organ = Check.organ(silence.repeat(2) + "silence from 5 to 6;");
        Check.same("silences", organ.count(6), 3);
        Check.holds("the third is heeded", organ.isSilent(5));
        Check.error(4, silence.repeat(3) + "^silence from 1 to 2;");
        Check.error(4, silence.repeat(3) + "^silence from 24 to 2; " + silence);
    }

    private static void order17() {
        for (int shuts = 0; shuts <= 16; shuts++) {
            String orders = PIPES + "shut a when 1 = 2; ".repeat(shuts) + "clean p when 1 = 2; ".repeat(16 - shuts);
            Check.same("orders, of shut " + shuts, Check.organ(orders).count(7), 16);
            Check.error(4, orders + "^shut a when 1 = 1;");
            Check.error(4, orders + "^clean p;");
            Check.error(4, orders + "^clean p when 1 = 1; shut a when 1 = 1;");
        }
        String fifteen = PIPES + "clean q when 1 = 2; shut a when 1 = 2; clean q when 1 = 2; ".repeat(5);
        Check.same("the 16th order shuts", Check.organ(fifteen + "shut a when 1 = 1;").cave(0, 4), 1);
        DriftOrgan organ = Check.organ(fifteen.replace("length 2", "length 40") + "clean p;");
        organ.pass(1);
        Check.same("the 16th order cleans", organ.pipe(0, 3), 0);
        Check.same("others are silted", organ.pipe(1, 3), 1);
    }

    /** A number in the place of the #. */
    private static void range(String list, int least, int most) {
        for (int number = least; number <= most; number++) {
            Check.fits(list.replace("#", "" + number));
        }
        if (least > 0) {
            Check.error(5, list.replace("#", "^" + (least - 1)));
        }
        Check.error(5, list.replace("#", "^" + (most + 1)));
        Check.error(5, list.replace("#", "^999999"));
        Check.error(1, list.replace("#", "^-1"));
    }

    private static void numbersOfSums() {
        Check.fits(PIPES + "shut a when hour = 0 or tide > 999999 or silt p > 100;");
        Check.fits(PIPES + "clean p when min(0, 999999) < listeners and 999999 * 999999 = 0;");
    }

    private static void pipeOfTheSameChord() {
        Check.error(5, Lists.pipes(6) + "chord c of p0 ^p0;");
        Check.error(5, Lists.pipes(6) + "chord c of p0 p1 ^p0;");
        Check.error(5, Lists.pipes(6) + "chord c of p0 p1 ^p1 p2;");
        for (int told = 0; told < 5; told++) {
            Check.error(5, Lists.pipes(6) + "chord c of p0 p1 p2 p3 p4 ^p" + told + ";");
        }
        Check.fits(Lists.pipes(6) + "chord c of p0 p1 p2 p3 p4 p5;");
        Check.fits(Lists.pipes(6) + "chord c of p0 p1; chord d of p0 p1; chord e of p1 p0 p2;");
        Check.error(5, Lists.pipes(6) + "chord c of p0 p1; chord d of p1 ^p1;");
    }
}
