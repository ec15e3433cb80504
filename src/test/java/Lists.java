/** Lists for the tests of edges. */
final class Lists {
    /** As many of each sort as may be told, all in one list. */
    static final String FULLEST = """
            cave a mouth 9 deep 1; cave b mouth 3 deep 2; cave c mouth 1 deep 9; cave d mouth 2 deep 3;
            cave e mouth 5 deep 4;
            pipe p in a length 40; pipe q in a length 39 reed; pipe r in b length 17; pipe s in b length 30 reed;
            pipe t in c length 1; pipe u in c length 40; pipe v in d length 12 reed; pipe w in d length 9;
            pipe x in e length 25; pipe y in e length 33 reed; pipe z in e length 2; pipe o in b length 21;
            chord a of p q r s t u; chord b of t z; chord c of r v x; chord d of x y z w; chord e of p r;
            chord f of w v r o z;
            swell high 7 every 3 from 1; swell high 30 every 24 from 99; swell high 5 every 7 from 20;
            swell high 1 every 1 from 50; swell high 12 every 5 from 0;
            silence from 22 to 3; silence from 12 to 13; silence from 0 to 1;
            shut a when pressure a > 150; shut b when hour = 9; shut c when silt u >= 19;
            shut d when loud v > 9; shut e when listeners > 60 and hour < 12;
            clean q; clean s when silt s > 6; clean u when hour = 20; clean v when sounds v or silt v = 20;
            clean y when [not sounds y] and silt y > 9; shut a when tide = 9; clean r when pressure b < 5;
            clean x when -silt x < -7; clean o when min(silt o, 8) = 8;
            shut b when max(pressure a, pressure e) > 220; clean w when (tide + 2) * 3 / 2 < 4;
            """;

    private Lists() {
    }

    /** The caves c0, c1 and so on. */
    static String caves(int n) {
        StringBuilder list = new StringBuilder();
        for (int i = 0; i < n; i++) {
            list.append("cave c").append(i).append(" mouth 1 deep 1; ");
        }
        return list.toString();
    }

    /** The pipes p0, p1 and so on, all in the cave c0, which is told ahead. */
    static String pipes(int n) {
        StringBuilder list = new StringBuilder(caves(1));
        for (int i = 0; i < n; i++) {
            list.append("pipe p").append(i).append(" in c0 length 2; ");
        }
        return list.toString();
    }

    /** A chord of the first of those pipes. */
    static String chord(String name, int pipes) {
        StringBuilder list = new StringBuilder("chord ").append(name).append(" of");
        for (int i = 0; i < pipes; i++) {
            list.append(" p").append(i);
        }
        return list.append("; ").toString();
    }

    static String chords(int n) {
        StringBuilder list = new StringBuilder();
        for (int i = 0; i < n; i++) {
            list.append(chord("h" + i, 2));
        }
        return list.toString();
    }
}
