/** The sentences of '2. The organ' that name an edge, each by itself. */
public final class OrganEdgesTest {
    // In the first hour the pressure is the tide.
    private static final String CAVE = "cave a mouth 1 deep 2; ";

    public static void main(String[] args) {
        whatThereIs();
        silenceAndHeight();
        caves();
        pipes();
        ordersAndChords();
        Check.end();
    }

    private static void whatThereIs() {
        Check.sentence("A cave has pressure, 0 (at first) or more", OrganEdgesTest::leastPressure);
        Check.sentence("A pipe has silt, 0 (at first) to 20", OrganEdgesTest::rangeOfSilt);
        Check.sentence("so loud as it is, 0 (at first) or more", OrganEdgesTest::leastLoud);
        Check.sentence("it sounds, if it is loud by 1 or more", OrganEdgesTest::loudEnough);
        Check.sentence("a tide, 0 (low) to 9 (high; 4, at first)", OrganEdgesTest::rangeOfTides);
        Check.sentence("listeners and complaints (0, at first)", OrganEdgesTest::nobodyAtFirst);
        Check.sentence("half (cut) of its length, and its silt, added", OrganEdgesTest::needOfAPipe);
        Check.sentence("for a reed twice its silt", OrganEdgesTest::needOfAReed);
    }

    private static void silenceAndHeight() {
        Check.sentence("from from on up to ahead of to", OrganEdgesTest::silenceWithinADay);
        Check.sentence("if from is greater than to, from from on or ahead of to", OrganEdgesTest::silenceOverMidnight);
        Check.sentence("if both are the same, always", OrganEdgesTest::silenceAlways);
        Check.sentence("for some line of silence", OrganEdgesTest::someSilence);
        Check.sentence("all swells whose from is not greater than the hour", OrganEdgesTest::firstHourOfASwell);
        Check.sentence("for which the hour less from can be divided by every", OrganEdgesTest::hoursOfASwell);
        Check.sentence("the high of each, added", OrganEdgesTest::swellsAtOnce);
        Check.sentence("and twice the tide", OrganEdgesTest::tideInTheHeight);
    }

    private static void caves() {
        Check.sentence("a cave is shut, if there is silence in this hour", OrganEdgesTest::shutBySilence);
        Check.sentence("or the test of some order of shut for it holds", OrganEdgesTest::shutBySomeOrder);
        Check.sentence("as it comes to its turn", OrganEdgesTest::shutInItsTurn);
        Check.sentence("its pressure is 0 then", OrganEdgesTest::pressureOfAShutCave);
        Check.sentence("half (cut) of what it was", OrganEdgesTest::halfOfWhatItWas);
        Check.sentence("height * mouth / deep (cut), added", OrganEdgesTest::pressureByHeight);
    }

    private static void pipes() {
        Check.sentence("as loud as the pressure of its cave, less its need, and 1 more; at least 0",
                OrganEdgesTest::howLoud);
        Check.sentence("does not sound, but whose cave has a pressure of 1 or more", OrganEdgesTest::leastSiltingPressure);
        Check.sentence("one that does not sound has more silt", OrganEdgesTest::soundingKeepsSilt);
        Check.sentence("1 more silt (at most 20)", OrganEdgesTest::mostSiltOfAPipe);
        Check.sentence("a reed 2 (at most 20)", OrganEdgesTest::mostSiltOfAReed);
        Check.sentence("one that is loud by 6 or more 1 less, a reed as well", OrganEdgesTest::loudBySix);
        Check.sentence("1 less (at least 0)", OrganEdgesTest::leastSilt);
    }

    private static void ordersAndChords() {
        Check.sentence("in the order in which they are told: if the test holds now", OrganEdgesTest::cleanedInOrder);
        Check.sentence("(or there is none), the silt of the pipe is 0", OrganEdgesTest::cleanedWithoutTest);
        Check.sentence("a chord sounds, if all its pipes do", OrganEdgesTest::allPipesOfAChord);
        Check.sentence("(by how much they are loud since step 2)", OrganEdgesTest::chordBehindCleaning);
        Check.sentence("if the hour of the day is 6 to 21; otherwise as many complaints more", OrganEdgesTest::dayAndNight);
        Check.sentence("as many listeners more as its pipes", OrganEdgesTest::listenersOfAChord);
        Check.sentence("The hour is 1 greater", OrganEdgesTest::nextHour);
        Check.sentence("hour is the hour of the day, in tests", OrganEdgesTest::hourInTests);
        Check.sentence("sounds holds, if the pipe sounds", OrganEdgesTest::soundsInTests);
        Check.sentence("and binds more than or, not more than and", OrganEdgesTest::binding);
        Check.sentence("< > = <= >= in tests", OrganEdgesTest::comparing);
    }

    /** An organ in which the hour is that one, with a list that was just taught, at the tide. */
    private static DriftOrgan at(int hour, int tide, String list) {
        DriftOrgan organ = new DriftOrgan();
        for (int left = hour; left > 0; left -= 120) {
            organ.pass(Math.min(left, 120));
        }
        organ.setTide(tide);
        Check.same("teach of " + list, Check.teach(organ, list), 0);
        return organ;
    }

    private static void leastPressure() {
        DriftOrgan organ = at(0, 9, Lists.caves(5));
        for (int cave = 0; cave < 5; cave++) {
            Check.same("pressure at first", organ.cave(cave, 2), 0);
        }
        organ.pass(1);
        Check.same("pressure behind an hour", organ.cave(4, 2), 18);
        organ.setTide(0);
        for (int due : new int[] {9, 4, 2, 1, 0, 0, 0}) {
            organ.pass(1);
            Check.same("pressure at low tide", organ.cave(4, 2), due);
        }
    }

    private static void rangeOfSilt() {
        DriftOrgan organ = at(0, 1, CAVE + "pipe p in a length 40; pipe q in a length 40 reed;");
        Check.same("silt of a pipe at first", organ.pipe(0, 3), 0);
        Check.same("silt of a reed at first", organ.pipe(1, 3), 0);
        for (int hour = 1; hour <= 25; hour++) {
            organ.pass(1);
            Check.same("silt of a pipe behind " + hour, organ.pipe(0, 3), Math.min(20, hour));
            Check.same("silt of a reed behind " + hour, organ.pipe(1, 3), Math.min(20, 2 * hour));
            Check.same("all silt behind " + hour, organ.count(12), Math.min(20, hour) + Math.min(20, 2 * hour));
        }
    }

    private static void leastLoud() {
        DriftOrgan organ = at(0, 0, CAVE + "pipe p in a length 1; pipe q in a length 40;");
        Check.same("loud at first", organ.pipe(0, 5), 0);
        organ.pass(1);
        Check.same("loud without pressure and need", organ.pipe(0, 5), 1);
        Check.same("loud far below the need", organ.pipe(1, 5), 0);
    }

    private static void loudEnough() {
        String list = CAVE + "pipe p in a length 8; pipe q in a length 1; chord c of p q; cave b mouth 1 deep 1; "
                + "shut b when sounds p;";
        for (int tide = 0; tide <= 9; tide++) {
            DriftOrgan organ = at(6, tide, list);
            organ.pass(1);
            int due = tide >= 4 ? 1 : 0;
            String by = " by the pressure " + tide;
            Check.same("loud" + by, organ.pipe(0, 5), Math.max(0, tide - 3));
            Check.same("hours in which it sounded" + by, organ.pipe(0, 6), due);
            Check.same("until" + by, organ.until(0) == 0 ? 1 : 0, due);
            Check.same("pipes that sound" + by, organ.count(8), 1 + due);
            Check.same("chord" + by, organ.chord(0, 1), due);
            Check.same("shut by sounds" + by, organ.cave(1, 4), due);
            Check.same("mean" + by, organ.mean(), due == 1 ? (tide - 3 + tide + 1) / 2.0 : tide + 1);
        }
    }

    private static void rangeOfTides() {
        DriftOrgan organ = new DriftOrgan();
        Check.same("tide at first", organ.count(1), 4);
        Check.same("height at first", organ.height(0), 8);
        Check.same("setTide(0)", organ.setTide(0), 4);
        Check.same("height at low tide", organ.height(0), 0);
        Check.same("setTide(9)", organ.setTide(9), 0);
        Check.same("height at high tide", organ.height(0), 18);
        Twins.refuse(Twins::lively, IllegalArgumentException.class, "setTide(-1)", o -> o.setTide(-1));
        Twins.refuse(Twins::lively, IllegalArgumentException.class, "setTide(10)", o -> o.setTide(10));
    }

    private static void nobodyAtFirst() {
        DriftOrgan organ = new DriftOrgan();
        Check.same("listeners", organ.count(10), 0);
        Check.same("complaints", organ.count(11), 0);
        DriftOrgan taught = at(0, 4, Lists.pipes(2) + "cave b mouth 1 deep 1; shut b when listeners = 0;" + Lists.chords(1));
        Check.same("listeners in tests at first", taught.cave(1, 4), 1);
        taught.pass(24);
        Check.same("listeners in tests later", taught.cave(1, 4), 0);
        Check.same("listeners behind a day", taught.count(10), 32);
        Check.same("complaints behind a day", taught.count(11), 16);
    }

    private static void needOfAPipe() {
        for (int length = 1; length <= 40; length++) {
            DriftOrgan organ = at(0, 1, CAVE + "pipe p in a length " + length + "; pipe q in a length 40; ");
            Check.same("need of the length " + length, organ.pipe(0, 4), length / 2);
            organ.pass(30);
            // A length of 1, 2 or 3 has a need of 1 or less, and sounds; the others are silted to the full.
            Check.same("need with silt of the length " + length, organ.pipe(0, 4), length / 2 + (length < 4 ? 0 : 20));
            Check.same("need with silt of the length 40", organ.pipe(1, 4), 40);
        }
        DriftOrgan silting = at(0, 1, CAVE + "pipe p in a length 39;");
        for (int silt = 1; silt <= 20; silt++) {
            silting.pass(1);
            Check.same("need with silt " + silt, silting.pipe(0, 4), 19 + silt);
        }
    }

    private static void needOfAReed() {
        for (int length = 1; length <= 40; length++) {
            DriftOrgan organ = at(0, 1, CAVE + "pipe p in a length " + length + " reed;");
            Check.same("need of a reed of the length " + length, organ.pipe(0, 4), length / 2);
            organ.pass(30);
            Check.same("need with silt of a reed of the length " + length, organ.pipe(0, 4),
                    length / 2 + (length < 4 ? 0 : 40));
        }
        DriftOrgan silting = at(0, 1, CAVE + "pipe p in a length 40 reed;");
        silting.pass(1);
        Check.same("need of a reed with silt 2", silting.pipe(0, 4), 24);
    }

    /** The hours of the day with silence, from 0 on; and in them, and in no other ones, a cave is shut. */
    private static void silent(String list, String due) {
        DriftOrgan organ = at(0, 1, CAVE + list);
        for (int hour = 0; hour < 49; hour++) {
            int silence = due.charAt(hour % 24) - '0';
            Check.same("isSilent(" + hour + ") by " + list, organ.isSilent(hour) ? 1 : 0, silence);
            Check.same("would be shut in " + hour + " by " + list, organ.cave(0, 4), silence);
            organ.pass(1);
            Check.same("pressure behind " + hour + " by " + list, organ.cave(0, 2), 1 - silence);
        }
    }

    private static void silenceWithinADay() {
        silent("silence from 5 to 8;", "000001110000000000000000");
        silent("silence from 0 to 1;", "100000000000000000000000");
        silent("silence from 0 to 23;", "111111111111111111111110");
        silent("silence from 22 to 23;", "000000000000000000000010");
        silent("silence from 1 to 23;", "011111111111111111111110");
    }

    private static void silenceOverMidnight() {
        silent("silence from 20 to 3;", "111000000000000000001111");
        silent("silence from 23 to 0;", "000000000000000000000001");
        silent("silence from 1 to 0;", "011111111111111111111111");
        silent("silence from 23 to 22;", "111111111111111111111101");
        silent("silence from 23 to 1;", "100000000000000000000001");
        silent("silence from 12 to 11;", "111111111110111111111111");
    }

    private static void silenceAlways() {
        for (int hour : new int[] {0, 1, 12, 22, 23}) {
            silent("silence from " + hour + " to " + hour + ";", "1".repeat(24));
        }
    }

    private static void someSilence() {
        silent("", "0".repeat(24));
        silent("silence from 1 to 2; silence from 1 to 2;", "010000000000000000000000");
        silent("silence from 1 to 2; silence from 2 to 3; silence from 22 to 0;", "011000000000000000000011");
        silent("silence from 1 to 2; silence from 9 to 9;", "1".repeat(24));
        silent("silence from 23 to 2; silence from 1 to 4; silence from 3 to 5;", "111110000000000000000001");
    }

    private static void height(DriftOrgan organ, int hour, int due) {
        Check.same("height(" + hour + ")", organ.height(hour), due);
    }

    private static void firstHourOfASwell() {
        for (int from : new int[] {0, 1, 2, 24, 98, 99}) {
            DriftOrgan organ = at(0, 0, "swell high 7 every 1 from " + from + ";");
            if (from > 0) {
                height(organ, from - 1, 0);
                height(organ, 0, 0);
            }
            height(organ, from, 7);
            height(organ, from + 1, 7);
            height(organ, 9999, 7);
        }
        DriftOrgan pressed = at(2, 0, "cave a mouth 1 deep 1; swell high 7 every 24 from 3;");
        pressed.pass(1);
        Check.same("pressure of the hour ahead of from", pressed.cave(0, 2), 0);
        pressed.pass(1);
        Check.same("pressure of the hour from", pressed.cave(0, 2), 7);
    }

    private static void hoursOfASwell() {
        for (int every : new int[] {1, 2, 3, 23, 24}) {
            DriftOrgan organ = at(0, 0, "swell high 30 every " + every + " from 5;");
            for (int hour = 0; hour < 80; hour++) {
                height(organ, hour, hour >= 5 && (hour - 5) % every == 0 ? 30 : 0);
            }
        }
        // Every hour of the past is one less than from by what every could divide.
        DriftOrgan late = at(0, 0, "swell high 30 every 24 from 99;");
        for (int hour : new int[] {3, 27, 51, 75, 98, 100, 122, 124}) {
            height(late, hour, 0);
        }
        height(late, 99, 30);
        height(late, 123, 30);
        height(late, 9987, 30);
    }

    private static void swellsAtOnce() {
        DriftOrgan most = at(0, 9, "swell high 30 every 1 from 0; ".repeat(5));
        height(most, 0, 168);
        DriftOrgan organ = at(0, 0, "swell high 1 every 2 from 0; swell high 2 every 3 from 0; swell high 4 every 4 from 0; "
                + "swell high 8 every 5 from 0; swell high 16 every 6 from 0;");
        int[] due = {31, 0, 1, 2, 5, 8, 19, 0, 5, 2, 9, 0, 23};
        for (int hour = 0; hour < due.length; hour++) {
            height(organ, hour, due[hour]);
        }
        height(organ, 60, 31);
        height(new DriftOrgan(), 0, 8);
    }

    private static void tideInTheHeight() {
        for (int tide = 0; tide <= 9; tide++) {
            height(at(0, tide, ""), 0, 2 * tide);
            height(at(0, tide, "swell high 1 every 1 from 0;"), 9999, 2 * tide + 1);
        }
    }

    private static void shutBySilence() {
        DriftOrgan organ = at(5, 1, CAVE + "cave b mouth 1 deep 2; silence from 6 to 7; shut a when 1 = 2;");
        int[][] due = {{1, 0, 1}, {0, 1, 2}, {1, 0, 3}};
        for (int[] row : due) {
            organ.pass(1);
            Check.same("pressure of a behind the hour " + (row[2] + 4), organ.cave(0, 2), row[0]);
            Check.same("pressure of b behind the hour " + (row[2] + 4), organ.cave(1, 2), row[0]);
            Check.same("b would be shut", organ.cave(1, 4), row[2] == 1 ? 1 : 0);
        }
    }

    private static void shutBySomeOrder() {
        String no = "shut a when 1 = 2; ";
        String yes = "shut a when 1 = 1; ";
        String other = "cave b mouth 1 deep 2; shut b when 1 = 1; ";
        String[] lists = {"", no, yes, other, no + no + yes, yes + no + no, no + yes + no, no + other + no, other + yes,
            no.repeat(15) + yes, "pipe p in a length 9; clean p when 1 = 1;"};
        for (String list : lists) {
            DriftOrgan organ = at(0, 1, CAVE + list);
            int shut = list.contains(yes) ? 1 : 0;
            Check.same("would be shut by " + list, organ.cave(0, 4), shut);
            organ.pass(1);
            Check.same("pressure by " + list, organ.cave(0, 2), 1 - shut);
            if (list.contains(other)) {
                Check.same("pressure of b by " + list, organ.cave(1, 2), 0);
            }
        }
    }

    private static void shutInItsTurn() {
        // Each but c0 is shut by the pressure that the one before has in this very hour.
        StringBuilder list = new StringBuilder(Lists.caves(5));
        for (int cave = 1; cave < 5; cave++) {
            list.append("shut c").append(cave).append(" when pressure c").append(cave - 1).append(" > 0; ");
        }
        DriftOrgan ahead = at(0, 1, list.toString());
        for (int cave = 0; cave < 5; cave++) {
            Check.same("would be shut by what is now: " + cave, ahead.cave(cave, 4), 0);
        }
        ahead.pass(1);
        for (int cave = 0; cave < 5; cave++) {
            Check.same("pressure of the cave " + cave, ahead.cave(cave, 2), cave % 2 == 0 ? 2 : 0);
        }
        // By the pressure of one behind it is that of the hour before, and so is its own.
        DriftOrgan behind = at(0, 1, Lists.caves(2) + "shut c0 when pressure c1 > 0;");
        behind.pass(1);
        Check.same("c0 in the first hour", behind.cave(0, 2), 2);
        behind.pass(1);
        Check.same("c0 in the second hour", behind.cave(0, 2), 0);
        DriftOrgan own = at(0, 1, Lists.caves(1) + "shut c0 when pressure c0 > 0;");
        for (int hour = 0; hour < 4; hour++) {
            own.pass(1);
            Check.same("by its own pressure", own.cave(0, 2), hour % 2 == 0 ? 2 : 0);
        }
    }

    private static void pressureOfAShutCave() {
        DriftOrgan organ = at(0, 9, "cave a mouth 9 deep 1; swell high 30 every 1 from 0; shut a when hour = 2;");
        organ.pass(2);
        Check.same("pressure ahead", organ.cave(0, 2), 648);
        organ.pass(1);
        Check.same("pressure of the shut cave", organ.cave(0, 2), 0);
        organ.pass(1);
        Check.same("none of it is left", organ.cave(0, 2), 432);
    }

    private static void halfOfWhatItWas() {
        for (int was = 0; was <= 9; was++) {
            DriftOrgan organ = at(0, was, CAVE);
            organ.pass(1);
            Check.same("pressure", organ.cave(0, 2), was);
            organ.setTide(0);
            organ.pass(1);
            Check.same("half of " + was, organ.cave(0, 2), was / 2);
        }
    }

    private static void pressureByHeight() {
        for (int mouth = 1; mouth <= 9; mouth++) {
            for (int deep = 1; deep <= 9; deep++) {
                DriftOrgan organ = at(0, 9, "cave a mouth " + mouth + " deep " + deep + "; swell high 1 every 2 from 0;");
                organ.pass(1);
                Check.same("pressure by 19 * " + mouth + " / " + deep, organ.cave(0, 2), 19 * mouth / deep);
            }
        }
        // Each part is cut by itself: 3 is halved to 1, and 3 * 1 / 2 is 1 as well.
        DriftOrgan parts = at(0, 0, "cave a mouth 1 deep 2; swell high 6 every 24 from 0; swell high 3 every 24 from 1;");
        parts.pass(1);
        Check.same("pressure at first", parts.cave(0, 2), 3);
        parts.pass(1);
        Check.same("pressure of parts", parts.cave(0, 2), 2);
        DriftOrgan most = at(0, 9, "cave a mouth 9 deep 1;" + "swell high 30 every 1 from 0; ".repeat(5));
        most.pass(60);
        Check.same("the greatest pressure", most.cave(0, 2), 3023);
        DriftOrgan none = at(0, 0, "cave a mouth 9 deep 1;");
        none.pass(1);
        Check.same("pressure without height", none.cave(0, 2), 0);
    }

    private static void howLoud() {
        for (int tide = 0; tide <= 9; tide++) {
            for (int need = 0; need <= 11; need++) {
                DriftOrgan organ = at(0, tide, CAVE + "pipe p in a length " + (2 * need + 1) + ";");
                organ.pass(1);
                Check.same("loud by pressure " + tide + " and need " + need, organ.pipe(0, 5),
                        tide < need ? 0 : tide - need + 1);
            }
        }
        DriftOrgan silted = at(0, 1, CAVE + "pipe p in a length 4; pipe q in a length 4 reed;");
        silted.pass(2);
        silted.setTide(4);
        silted.pass(1);
        Check.same("loud with silt 2, need 4", silted.pipe(0, 5), 1);
        Check.same("a reed with silt 4, need 10", silted.pipe(1, 5), 0);
    }

    private static void leastSiltingPressure() {
        for (int tide = 0; tide <= 2; tide++) {
            DriftOrgan organ = at(0, tide, CAVE + "pipe p in a length 40; pipe q in a length 40 reed;");
            organ.pass(1);
            Check.same("silt of a pipe by pressure " + tide, organ.pipe(0, 3), tide == 0 ? 0 : 1);
            Check.same("silt of a reed by pressure " + tide, organ.pipe(1, 3), tide == 0 ? 0 : 2);
        }
        DriftOrgan shut = at(0, 9, "cave a mouth 1 deep 1; cave b mouth 1 deep 9; pipe p in a length 40; "
                + "pipe q in b length 40; shut a when 1 = 1;");
        shut.pass(1);
        Check.same("silt in a shut cave", shut.pipe(0, 3), 0);
        Check.same("silt by the pressure of its own cave", shut.pipe(1, 3), 1);
    }

    private static void soundingKeepsSilt() {
        // The need is 5 with a silt of 1 and 8 with one of 2 (a reed: 6, 10).
        for (int tide = 0; tide <= 9; tide++) {
            DriftOrgan organ = at(0, 1, CAVE + "pipe p in a length 8; pipe q in a length 8 reed;");
            organ.pass(1);
            organ.setTide(tide);
            organ.pass(1);
            String by = " by the pressure " + tide;
            Check.same("silt of a pipe" + by, organ.pipe(0, 3), tide >= 1 && tide < 5 ? 2 : 1);
            Check.same("silt of a reed" + by, organ.pipe(1, 3), tide >= 1 && tide < 8 ? 4 : 2);
        }
    }

    private static void mostSiltOfAPipe() {
        DriftOrgan organ = at(0, 1, CAVE + "pipe p in a length 40;");
        organ.pass(18);
        for (int due : new int[] {19, 20, 20, 20}) {
            organ.pass(1);
            Check.same("silt", organ.pipe(0, 3), due);
        }
    }

    private static void mostSiltOfAReed() {
        // In the hour 10 three swells make a pressure of 46, so that the reed with need 41 is loud by 6.
        DriftOrgan organ = at(0, 1, CAVE + "pipe p in a length 40 reed; " + "swell high 30 every 24 from 10; ".repeat(3));
        organ.pass(8);
        Check.same("silt 16", organ.pipe(0, 3), 16);
        organ.pass(1);
        Check.same("silt 18", organ.pipe(0, 3), 18);
        organ.pass(1);
        Check.same("silt 20", organ.pipe(0, 3), 20);
        organ.cut(0, 38);
        organ.pass(1);
        Check.same("loud by 6", organ.pipe(0, 5), 6);
        Check.same("silt 19", organ.pipe(0, 3), 19);
        organ.pass(1);
        Check.same("silt 19 and 2", organ.pipe(0, 3), 20);
        organ.pass(1);
        Check.same("silt 20 and 2", organ.pipe(0, 3), 20);
    }

    private static void loudBySix() {
        // Silt 3 behind the hour 2 (a reed, cleaned behind the hour 1, has 2): needs 3 + 1 and 4 + 1 by length 2.
        for (int pressure = 4; pressure <= 12; pressure++) {
            DriftOrgan organ = at(0, 1, "cave a mouth 1 deep 2; pipe p in a length 40; pipe q in a length 40 reed; "
                    + "swell high 2 every 24 from 3; swell high 2 every 24 from 3; swell high 2 every 24 from 3;");
            organ.pass(2);
            organ.clean(1);
            organ.pass(1);
            organ.cut(0, 38);
            organ.cut(1, 38);
            Check.same("need of the pipe", organ.pipe(0, 4), 4);
            Check.same("need of the reed", organ.pipe(1, 4), 5);
            organ.setTide(pressure - 3);
            organ.pass(1);
            String by = " by the pressure " + pressure;
            Check.same("pressure", organ.cave(0, 2), pressure);
            Check.same("silt of a pipe" + by, organ.pipe(0, 3), pressure - 4 + 1 >= 6 ? 2 : 3);
            Check.same("silt of a reed" + by, organ.pipe(1, 3),
                    pressure == 4 ? 4 : pressure - 5 + 1 >= 6 ? 1 : 2);
        }
    }

    private static void leastSilt() {
        DriftOrgan organ = at(0, 1, CAVE + "pipe p in a length 40; pipe q in a length 40 reed;");
        organ.pass(1);
        organ.cut(0, 39);
        organ.cut(1, 39);
        organ.setTide(9);
        for (int[] due : new int[][] {{0, 1}, {0, 0}, {0, 0}}) {
            organ.pass(1);
            Check.same("silt of a loud pipe", organ.pipe(0, 3), due[0]);
            Check.same("silt of a loud reed", organ.pipe(1, 3), due[1]);
        }
    }

    private static void cleanedInOrder() {
        String pipes = CAVE + "pipe p in a length 40; pipe q in a length 40; ";
        String[] lists = {"clean p when silt q = 1; clean q when silt p = 0;", "clean q when silt p = 0; clean p when silt q = 1;",
            "clean p when silt p = 0;", "clean p when silt p = 1;", "clean p when hour = 0;", "clean p when hour = 1;",
            "clean q; clean p when silt q = 0;", "clean p when silt q = 0; clean q;"};
        int[][] due = {{0, 0}, {0, 1}, {1, 1}, {0, 1}, {0, 1}, {1, 1}, {0, 0}, {1, 0}};
        for (int i = 0; i < lists.length; i++) {
            DriftOrgan organ = at(0, 1, pipes + lists[i]);
            organ.pass(1);
            Check.same("silt of p by " + lists[i], organ.pipe(0, 3), due[i][0]);
            Check.same("silt of q by " + lists[i], organ.pipe(1, 3), due[i][1]);
        }
        // Listeners of this hour come behind the orders of it.
        String heard = pipes + "pipe r in a length 1; pipe s in a length 1; chord c of r s; clean p when listeners = 2;";
        DriftOrgan organ = at(6, 1, heard);
        organ.pass(1);
        Check.same("silt as the listeners come", organ.pipe(0, 3), 1);
        organ.pass(1);
        Check.same("silt as they are there", organ.pipe(0, 3), 0);
    }

    private static void cleanedWithoutTest() {
        DriftOrgan organ = at(0, 1, CAVE + "pipe p in a length 40; pipe q in a length 40 reed; clean q;");
        for (int hour = 1; hour <= 22; hour++) {
            organ.pass(1);
            Check.same("silt of what is not cleaned", organ.pipe(0, 3), Math.min(20, hour));
            Check.same("silt of what is cleaned", organ.pipe(1, 3), 0);
        }
    }

    private static void allPipesOfAChord() {
        for (int size = 2; size <= 6; size++) {
            for (int mute = -1; mute < size; mute++) {
                StringBuilder list = new StringBuilder(CAVE);
                for (int pipe = 0; pipe < 6; pipe++) {
                    list.append("pipe p").append(pipe).append(" in a length ").append(pipe == mute ? 4 : 2).append("; ");
                }
                DriftOrgan organ = at(6, 1, list + Lists.chord("c", size));
                int due = mute < 0 ? 1 : 0;
                Check.same("listeners of " + size + ", mute " + mute, organ.pass(1), due * size);
                Check.same("it sounds", organ.chord(0, 1), due);
                Check.same("hours", organ.chord(0, 3), due);
                Check.same("chords that sound", organ.count(9), due);
            }
        }
        // The pipes that are none of it do not matter.
        DriftOrgan organ = at(6, 1, CAVE + "pipe m in a length 4; pipe p in a length 2; pipe q in a length 2; chord c of p q;");
        Check.same("listeners", organ.pass(1), 2);
    }

    private static void chordBehindCleaning() {
        // In the hour 7 the silt of 1 makes p mute, and though it is cleaned then it sounds only in the next hour.
        DriftOrgan organ = at(6, 1, CAVE + "pipe p in a length 4; pipe q in a length 2; chord c of p q; "
                + "clean p when hour = 7;");
        Check.same("mute by its length", organ.pass(1), 0);
        organ.setTide(2);
        Check.same("mute by its silt", organ.pass(1), 0);
        Check.same("no silt", organ.pipe(0, 3), 0);
        Check.same("and still not loud", organ.chord(0, 1), 0);
        Check.same("it sounds then", organ.pass(1), 2);
    }

    private static void dayAndNight() {
        for (int hour = 0; hour < 48; hour++) {
            DriftOrgan organ = at(hour, 1, Lists.pipes(2) + Lists.chords(1));
            int listeners = hour % 24 >= 6 && hour % 24 <= 21 ? 2 : 0;
            Check.same("listeners in the hour " + hour, organ.pass(1), listeners);
            Check.same("all listeners in the hour " + hour, organ.count(10), listeners);
            Check.same("complaints in the hour " + hour, organ.count(11), 2 - listeners);
        }
    }

    private static void listenersOfAChord() {
        for (int size = 2; size <= 6; size++) {
            DriftOrgan organ = at(6, 1, Lists.pipes(6) + Lists.chord("c", size));
            Check.same("listeners of " + size, organ.pass(1), size);
            DriftOrgan twice = at(5, 1, Lists.pipes(6) + Lists.chord("c", size) + Lists.chord("d", 2));
            twice.pass(1);
            Check.same("complaints of " + size + " and 2", twice.count(11), size + 2);
            Check.same("listeners of " + size + " and 2", twice.pass(1), size + 2);
        }
        DriftOrgan none = at(6, 1, Lists.pipes(6));
        Check.same("listeners without chords", none.pass(1), 0);
    }

    private static void nextHour() {
        DriftOrgan organ = new DriftOrgan();
        for (int hour = 0; hour < 50; hour++) {
            Check.same("hour", organ.count(0), hour);
            organ.pass(1);
        }
        organ.pass(120);
        Check.same("hour", organ.count(0), 170);
    }

    private static void hourInTests() {
        for (int hour = 0; hour < 49; hour++) {
            DriftOrgan organ = at(hour, 1, CAVE + "shut a when hour = " + hour % 24 + ";");
            Check.same("would be shut in the hour " + hour, organ.cave(0, 4), 1);
            organ.pass(1);
            Check.same("was shut in the hour " + hour, organ.cave(0, 2), 0);
            Check.same("would be shut behind it", organ.cave(0, 4), 0);
        }
    }

    private static void soundsInTests() {
        for (int tide = 3; tide <= 5; tide++) {
            DriftOrgan organ = at(0, tide, CAVE + "pipe p in a length 8; pipe q in a length 40; clean q when sounds p;");
            organ.pass(1);
            Check.same("silt by sounds, pressure " + tide, organ.pipe(1, 3), tide >= 4 ? 0 : 1);
        }
    }

    private static void holds(String test, boolean due) {
        holds("", test, due);
    }

    private static void holds(String told, String test, boolean due) {
        Check.same(test, at(0, 4, CAVE + told + "shut a when " + test + ";").cave(0, 4), due ? 1 : 0);
    }

    private static void binding() {
        for (int i = 0; i < 16; i++) {
            boolean a = (i & 1) != 0;
            boolean b = (i & 2) != 0;
            boolean c = (i & 4) != 0;
            boolean d = (i & 8) != 0;
            String[] x = {"1 = " + (i & 1), "2 = " + (i & 2), "4 = " + (i & 4), "8 = " + (i & 8)};
            holds(x[0] + " or " + x[1] + " and " + x[2] + " or " + x[3], a || b && c || d);
            holds(x[0] + " and " + x[1] + " or " + x[2] + " and " + x[3], a && b || c && d);
            holds("not " + x[0] + " and " + x[1] + " or not " + x[2], !a && b || !c);
            holds("not [" + x[0] + " and " + x[1] + "] and not [" + x[2] + " or " + x[3] + "]", !(a && b) && !(c || d));
            holds("[" + x[0] + " or " + x[1] + "] and [" + x[2] + " or " + x[3] + "]", (a || b) && (c || d));
        }
    }

    private static void comparing() {
        for (int left = -1; left <= 1; left++) {
            holds(left + " < 0", left < 0);
            holds(left + " > 0", left > 0);
            holds(left + " = 0", left == 0);
            holds(left + " <= 0", left <= 0);
            holds(left + " >= 0", left >= 0);
        }
        // What holds and what does not is the same to not, and and or, by whatever sign.
        String[] held = {"1 < 2", "2 > 1", "1 = 1", "1 <= 1", "1 >= 1", "not 1 = 2", "[1 < 2]", "not sounds p"};
        String[] not = {"2 < 1", "1 > 2", "1 = 2", "2 <= 1", "1 >= 2", "not 1 = 1", "[2 < 1]", "sounds p"};
        for (int i = 0; i < held.length; i++) {
            holdsNot(held[i], true);
            holdsNot(not[i], false);
            for (int j = 0; j < held.length; j++) {
                holds("pipe p in a length 1; ", held[i] + " and " + held[j], true);
                holds("pipe p in a length 1; ", held[i] + " and " + not[j], false);
                holds("pipe p in a length 1; ", not[i] + " and " + held[j], false);
                holds("pipe p in a length 1; ", held[i] + " or " + not[j], true);
                holds("pipe p in a length 1; ", not[i] + " or " + held[j], true);
                holds("pipe p in a length 1; ", not[i] + " or " + not[j], false);
            }
        }
        DriftOrgan sounding = at(0, 4, CAVE + "cave b mouth 1 deep 1; pipe p in a length 1; "
                + "shut b when sounds p and 1 < 2 and 1 = 1 and not not sounds p;");
        Check.same("sounds and others at first", sounding.cave(1, 4), 0);
        sounding.pass(1);
        Check.same("sounds and others", sounding.cave(1, 4), 1);
    }

    private static void holdsNot(String test, boolean due) {
        String pipe = "pipe p in a length 1; ";
        holds(pipe, test, due);
        holds(pipe, "not " + test, !due);
        holds(pipe, "not not " + test, due);
        holds(pipe, "not [" + test + "]", !due);
    }
}
