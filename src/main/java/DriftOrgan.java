/**
 * A driftwood organ of a sea wall: swells press air through caves into pipes, chords bring listeners by day
 * and complaints by night. What it is made of is told on a tape, in the language that teach() reads.
 */
public final class DriftOrgan {
    private static final int MOST_BYTES = 2000;
    private static final int MOST_TOKENS = 400;
    private static final int MOST_WORD_BYTES = 10;
    private static final int MOST_NUMBER_BYTES = 6;
    private static final int MOST_DEPTH = 8;
    private static final int MOST_CAVES = 5;
    private static final int MOST_PIPES = 12;
    private static final int MOST_CHORDS = 6;
    private static final int MOST_NOTES = 6;
    private static final int MOST_SWELLS = 5;
    private static final int MOST_SILENCES = 3;
    private static final int MOST_ORDERS = 16;

    private static final int MOST_SILT = 20;
    private static final int MOST_LENGTH = 40;
    private static final int MOST_TIDE = 9;
    private static final int FIRST_TIDE = 4;
    private static final int LOUD_ENOUGH_TO_BLOW_CLEAN = 6;
    private static final int DAY = 24;
    private static final int FIRST_LISTENING_HOUR = 6;
    private static final int LAST_LISTENING_HOUR = 21;

    private static final int LAST_HOUR_ASKED = 9999;
    private static final int MOST_HOURS_PASSED = 120;
    private static final int MOST_HOURS_AWAITED = 150;
    private static final int MOST_HOURS_TRIED = 72;
    private static final int COUNT_FACTS = 14;
    private static final int CAVE_FACTS = 5;
    private static final int PIPE_FACTS = 7;
    private static final int CHORD_FACTS = 4;
    private static final int FORESEEN_FACTS = 4;
    private static final int DIGEST_START = 827;
    private static final int DIGEST_FACTOR = 31;
    private static final int DIGEST_HEIGHTS = 5;

    private static final int NOT_A_LIST = 1;
    private static final int TOLD_TWICE = 2;
    private static final int NOT_TOLD = 3;
    private static final int TOO_MANY = 4;
    private static final int OUT_OF_RANGE = 5;

    private static final int NO_BYTE = -1;
    private static final int BLANK = 32;
    private static final int LINE_END = 10;

    // A keyword's kind is its place here, so the constants below follow this order.
    private static final String KEYWORDS = "cave mouth deep pipe in length reed swell high every from silence to chord of shut clean when hour tide pressure silt loud listeners sounds not and or min max ";
    private static final int CAVE = 0;
    private static final int MOUTH = 1;
    private static final int DEEP = 2;
    private static final int PIPE = 3;
    private static final int IN = 4;
    private static final int LENGTH = 5;
    private static final int REED = 6;
    private static final int SWELL = 7;
    private static final int HIGH = 8;
    private static final int EVERY = 9;
    private static final int FROM = 10;
    private static final int SILENCE = 11;
    private static final int TO = 12;
    private static final int CHORD = 13;
    private static final int OF = 14;
    private static final int SHUT = 15;
    private static final int CLEAN = 16;
    private static final int WHEN = 17;
    private static final int HOUR = 18;
    private static final int TIDE = 19;
    private static final int PRESSURE = 20;
    private static final int SILT = 21;
    private static final int LOUD = 22;
    private static final int LISTENERS = 23;
    private static final int SOUNDS = 24;
    private static final int NOT = 25;
    private static final int AND = 26;
    private static final int OR = 27;
    private static final int MIN = 28;
    private static final int MAX = 29;
    private static final int NAME = 30;
    private static final int NUMBER = 31;

    // A symbol's kind is OPEN and its place here, so the constants below follow this order.
    private static final String SYMBOLS = "()[];,+-*/<>=";
    private static final int OPEN = 32;
    private static final int CLOSE = 33;
    private static final int OPEN_TEST = 34;
    private static final int CLOSE_TEST = 35;
    private static final int SEMICOLON = 36;
    private static final int COMMA = 37;
    private static final int PLUS = 38;
    private static final int MINUS = 39;
    private static final int TIMES = 40;
    private static final int OVER = 41;
    private static final int LESS = 42;
    private static final int GREATER = 43;
    private static final int EQUAL = 44;
    private static final int AT_MOST = 45;
    private static final int AT_LEAST = 46;
    private static final int END = 47;
    private static final int BAD = 48;
    // No token has this kind: it tells a minus in front of a value from one between two.
    private static final int NEGATE = 49;

    private final Tape tape;
    private final Tokens tokens;
    private final Reader reader;
    private final Play play;
    private final Moment now;
    private final Moment trial;
    private Organ organ;
    private int faultAt;

    public DriftOrgan() {
        tape = new Tape();
        tokens = new Tokens();
        reader = new Reader(tokens);
        play = new Play();
        now = new Moment();
        trial = new Moment();
        organ = new Organ();
        faultAt = -1;
    }

    // ---- the language

    public int feed(int a, int b, int c, int d, int e) throws IllegalStateException {
        if (!tape.hasRoomFor(20)) {
            throw new IllegalStateException("the tape is full");
        }
        tape.append(a);
        tape.append(b);
        tape.append(c);
        tape.append(d);
        tape.append(e);
        return tape.length;
    }

    public int trim(int n) throws IllegalArgumentException {
        if (n < 0 || n > tape.length) {
            throw new IllegalArgumentException("the tape has fewer bytes");
        }
        tape.shorten(n);
        return n;
    }

    public int teach() {
        tokens.scan(tape);
        tape.shorten(0);
        int error = reader.read();
        if (error != 0) {
            faultAt = tokens.startOf(reader.faultToken);
            return error;
        }
        faultAt = -1;
        organ = reader.exchange(organ);
        now.begin();
        return 0;
    }

    public int errorAt() {
        return faultAt;
    }

    public int count(int what) throws IndexOutOfBoundsException {
        if (what < 0 || what >= COUNT_FACTS) {
            throw new IndexOutOfBoundsException("no such count");
        }
        return countFact(what);
    }

    // ---- what there is

    public int cave(int cave, int what) throws IndexOutOfBoundsException {
        if (cave < 0 || cave >= organ.caves || what < 0 || what >= CAVE_FACTS) {
            throw new IndexOutOfBoundsException("no such cave, or nothing such of it");
        }
        return caveFact(cave, what);
    }

    public int pipe(int pipe, int what) throws IndexOutOfBoundsException {
        if (isNoPipe(pipe) || what < 0 || what >= PIPE_FACTS) {
            throw new IndexOutOfBoundsException("no such pipe, or nothing such of it");
        }
        return pipeFact(pipe, what);
    }

    public int chord(int chord, int what) throws IndexOutOfBoundsException {
        if (chord < 0 || chord >= organ.chords || what < 0 || what >= CHORD_FACTS) {
            throw new IndexOutOfBoundsException("no such chord, or nothing such of it");
        }
        return chordFact(chord, what);
    }

    public int note(int chord, int place) throws IndexOutOfBoundsException {
        if (chord < 0 || chord >= organ.chords || place < 0 || place >= organ.sizeOf(chord)) {
            throw new IndexOutOfBoundsException("no such chord or place");
        }
        return organ.noteAt(chord, place);
    }

    public int apart(int a, int b) throws IndexOutOfBoundsException {
        if (isNoPipe(a) || isNoPipe(b)) {
            throw new IndexOutOfBoundsException("no such pipe");
        }
        return stepsBetween(at(organ.lengths, a), at(organ.lengths, b));
    }

    public int height(int hour) throws IllegalArgumentException {
        if (hour < 0 || hour > LAST_HOUR_ASKED) {
            throw new IllegalArgumentException("no such hour");
        }
        return organ.weather.heightIn(hour, now.tide);
    }

    public boolean isSilent(int hour) throws IllegalArgumentException {
        if (hour < 0 || hour > LAST_HOUR_ASKED) {
            throw new IllegalArgumentException("no such hour");
        }
        return organ.weather.isStill(hour);
    }

    // ---- by hand

    public int setTide(int tide) throws IllegalArgumentException {
        if (tide < 0 || tide > MOST_TIDE) {
            throw new IllegalArgumentException("no such tide");
        }
        int before = now.tide;
        now.tide = tide;
        return before;
    }

    public int clean(int pipe) throws IndexOutOfBoundsException {
        if (isNoPipe(pipe)) {
            throw new IndexOutOfBoundsException("no such pipe");
        }
        int before = at(now.silts, pipe);
        put(now.silts, pipe, 0);
        return before;
    }

    public int cut(int pipe, int by) throws IndexOutOfBoundsException, IllegalArgumentException {
        if (isNoPipe(pipe)) {
            throw new IndexOutOfBoundsException("no such pipe");
        }
        int length = at(organ.lengths, pipe);
        if (by < 1 || by >= length) {
            throw new IllegalArgumentException("nothing cut, or nothing left");
        }
        put(organ.lengths, pipe, length - by);
        return length - by;
    }

    // ---- hours

    public int pass(int hours) throws IllegalArgumentException {
        if (hours < 1 || hours > MOST_HOURS_PASSED) {
            throw new IllegalArgumentException("too few or too many hours");
        }
        int before = now.listeners;
        play.run(organ, now, hours);
        return now.listeners - before;
    }

    // ---- what would be

    public int until(int pipe) throws IndexOutOfBoundsException {
        if (isNoPipe(pipe)) {
            throw new IndexOutOfBoundsException("no such pipe");
        }
        trial.become(now);
        for (int hours = 0; hours <= MOST_HOURS_AWAITED; hours++) {
            if (trial.sounds(pipe)) {
                return hours;
            }
            play.run(organ, trial, 1);
        }
        return -1;
    }

    public int foresee(int hours, int what) throws IllegalArgumentException, IndexOutOfBoundsException {
        if (hours < 1 || hours > MOST_HOURS_PASSED) {
            throw new IllegalArgumentException("too few or too many hours");
        }
        if (what < 0 || what >= FORESEEN_FACTS) {
            throw new IndexOutOfBoundsException("nothing such to foresee");
        }
        trial.become(now);
        play.run(organ, trial, hours);
        switch (what) {
            case 0: return trial.listeners - now.listeners;
            case 1: return trial.complaints - now.complaints;
            case 2: return trial.pipesSounding(organ.pipes);
            default: return trial.siltIn(organ.pipes);
        }
    }

    public int advise(int hours) throws IllegalArgumentException {
        if (hours < 1 || hours > MOST_HOURS_TRIED) {
            throw new IllegalArgumentException("too few or too many hours");
        }
        int advised = 0;
        int most = gainByTide(0, hours);
        for (int tide = 1; tide <= MOST_TIDE; tide++) {
            int gain = gainByTide(tide, hours);
            if (gain > most) {
                most = gain;
                advised = tide;
            }
        }
        return advised;
    }

    public int best(int hours) throws IllegalArgumentException {
        if (hours < 1 || hours > MOST_HOURS_TRIED) {
            throw new IllegalArgumentException("too few or too many hours");
        }
        trial.become(now);
        play.run(organ, trial, hours);
        int most = trial.listeners;
        int found = -1;
        for (int pipe = 0; pipe < organ.pipes; pipe++) {
            trial.become(now);
            put(trial.silts, pipe, 0);
            play.run(organ, trial, hours);
            if (trial.listeners > most) {
                most = trial.listeners;
                found = pipe;
            }
        }
        return found;
    }

    public double mean() {
        int sounding = now.pipesSounding(organ.pipes);
        if (sounding == 0) {
            return 0;
        }
        int sum = 0;
        for (int pipe = 0; pipe < organ.pipes; pipe++) {
            sum += at(now.louds, pipe);
        }
        return (double) sum / sounding;
    }

    public long digest() {
        long sum = DIGEST_START;
        for (int what = 0; what < COUNT_FACTS; what++) {
            sum = sum * DIGEST_FACTOR + countFact(what);
        }
        for (int cave = 0; cave < organ.caves; cave++) {
            for (int what = 0; what < CAVE_FACTS; what++) {
                sum = sum * DIGEST_FACTOR + caveFact(cave, what);
            }
        }
        for (int pipe = 0; pipe < organ.pipes; pipe++) {
            for (int what = 0; what < PIPE_FACTS; what++) {
                sum = sum * DIGEST_FACTOR + pipeFact(pipe, what);
            }
        }
        for (int chord = 0; chord < organ.chords; chord++) {
            sum = digestChord(sum, chord);
        }
        for (int ahead = 0; ahead < DIGEST_HEIGHTS; ahead++) {
            sum = sum * DIGEST_FACTOR + organ.weather.heightIn(now.hour + ahead, now.tide);
        }
        return sum;
    }

    private long digestChord(long start, int chord) {
        long sum = start;
        for (int what = 0; what < CHORD_FACTS; what++) {
            sum = sum * DIGEST_FACTOR + chordFact(chord, what);
        }
        int size = organ.sizeOf(chord);
        for (int place = 0; place < size; place++) {
            sum = sum * DIGEST_FACTOR + organ.noteAt(chord, place);
        }
        return sum;
    }

    private boolean isNoPipe(int pipe) {
        return pipe < 0 || pipe >= organ.pipes;
    }

    private int countFact(int what) {
        switch (what) {
            case 0: return now.hour;
            case 1: return now.tide;
            case 2: return organ.caves;
            case 3: return organ.pipes;
            case 4: return organ.chords;
            case 5: return organ.weather.swells;
            case 6: return organ.weather.silences;
            case 7: return organ.orders.told;
            case 8: return now.pipesSounding(organ.pipes);
            case 9: return chordsSounding();
            case 10: return now.listeners;
            case 11: return now.complaints;
            case 12: return now.siltIn(organ.pipes);
            default: return tape.length;
        }
    }

    private int caveFact(int cave, int what) {
        switch (what) {
            case 0: return at(organ.mouths, cave);
            case 1: return at(organ.deeps, cave);
            case 2: return at(now.pressures, cave);
            case 3: return organ.pipesIn(cave);
            default: return play.isShut(organ, now, cave) ? 1 : 0;
        }
    }

    private int pipeFact(int pipe, int what) {
        switch (what) {
            case 0: return at(organ.homes, pipe);
            case 1: return at(organ.lengths, pipe);
            case 2: return at(organ.reeds, pipe);
            case 3: return at(now.silts, pipe);
            case 4: return organ.needOf(pipe, at(now.silts, pipe));
            case 5: return at(now.louds, pipe);
            default: return at(now.pipeHours, pipe);
        }
    }

    private int chordFact(int chord, int what) {
        switch (what) {
            case 0: return organ.sizeOf(chord);
            case 1: return organ.chordSounds(chord, now) ? 1 : 0;
            case 2: return organ.spanOf(chord);
            default: return at(now.chordHours, chord);
        }
    }

    private int chordsSounding() {
        int sounding = 0;
        for (int chord = 0; chord < organ.chords; chord++) {
            if (organ.chordSounds(chord, now)) {
                sounding++;
            }
        }
        return sounding;
    }

    private int gainByTide(int tide, int hours) {
        trial.become(now);
        trial.tide = tide;
        play.run(organ, trial, hours);
        return trial.listeners - now.listeners - 2 * (trial.complaints - now.complaints);
    }

    private static int stepsBetween(int a, int b) {
        int x = a;
        int y = b;
        int steps = 0;
        while (x != y && steps < MOST_LENGTH) {
            if (x > y) {
                x -= y;
            } else {
                y -= x;
            }
            steps++;
        }
        return steps;
    }

    // What is no loop over a whole row goes through these two, so that no index goes by without being looked at.
    private static int at(int[] row, int index) {
        return index >= 0 && index < row.length ? row[index] : 0;
    }

    private static void put(int[] row, int index, int value) {
        if (index >= 0 && index < row.length) {
            row[index] = value;
        }
    }

    private static void empty(int[] row) {
        for (int i = 0; i < row.length; i++) {
            row[i] = 0;
        }
    }

    private static void copy(int[] from, int[] to) {
        for (int i = 0; i < to.length; i++) {
            to[i] = at(from, i);
        }
    }

    /** The bytes that feed and trim fill and teach reads. */
    private static final class Tape {
        private final byte[] bytes = new byte[MOST_BYTES];
        private int length;

        boolean hasRoomFor(int more) {
            return length + more <= MOST_BYTES;
        }

        void append(int four) {
            for (int shift = 24; shift >= 0; shift -= 8) {
                if (length >= 0 && length < bytes.length) {
                    bytes[length] = (byte) (four >> shift);
                    length++;
                }
            }
        }

        void shorten(int kept) {
            length = kept;
        }

        int byteAt(int place) {
            return place >= 0 && place < length && place < bytes.length ? bytes[place] & 255 : NO_BYTE;
        }
    }

    /** The tokens of a tape, up to the first that is END or BAD, which is always there. */
    private static final class Tokens {
        private final int[] kinds = new int[MOST_TOKENS + 1];
        private final int[] starts = new int[MOST_TOKENS + 1];
        // A number's value, or a word in base 36: words are the same if and only if these are.
        private final long[] worths = new long[MOST_TOKENS + 1];

        void scan(Tape tape) {
            int place = 0;
            int kind = NAME;
            for (int token = 0; token < kinds.length && kind != END && kind != BAD; token++) {
                int start = behindBlanks(tape, place);
                place = behindToken(tape, start);
                kind = kindOf(tape, start, place);
                if (token >= MOST_TOKENS && kind != END) {
                    kind = BAD;
                }
                kinds[token] = kind;
                put(starts, token, start);
                if (token < worths.length) {
                    worths[token] = worthOf(tape, start, place);
                }
            }
        }

        int kindAt(int token) {
            return token >= 0 && token < kinds.length ? kinds[token] : BAD;
        }

        int startOf(int token) {
            return at(starts, token);
        }

        long worthAt(int token) {
            return token >= 0 && token < worths.length ? worths[token] : 0;
        }

        int numberAt(int token) {
            return (int) worthAt(token);
        }

        private static int behindBlanks(Tape tape, int from) {
            int place = from;
            while (place < MOST_BYTES && isBlank(tape.byteAt(place))) {
                place++;
            }
            return place;
        }

        private static int behindToken(Tape tape, int start) {
            int first = tape.byteAt(start);
            if (first == NO_BYTE) {
                return start;
            }
            int place = start + 1;
            if (first == '<' || first == '>') {
                return tape.byteAt(place) == '=' ? place + 1 : place;
            }
            boolean word = isLetter(first);
            if (!word && !isDigit(first)) {
                return place;
            }
            while (place < MOST_BYTES && (isDigit(tape.byteAt(place)) || word && isLetter(tape.byteAt(place)))) {
                place++;
            }
            return place;
        }

        private static int kindOf(Tape tape, int start, int end) {
            int first = tape.byteAt(start);
            if (first == NO_BYTE) {
                return END;
            }
            if (isLetter(first)) {
                return end - start > MOST_WORD_BYTES ? BAD : wordKind(tape, start, end);
            }
            if (isDigit(first)) {
                return end - start > MOST_NUMBER_BYTES ? BAD : NUMBER;
            }
            if (end - start == 2) {
                return first == '<' ? AT_MOST : AT_LEAST;
            }
            int symbol = SYMBOLS.indexOf((char) first);
            return symbol < 0 ? BAD : OPEN + symbol;
        }

        private static int wordKind(Tape tape, int start, int end) {
            int kind = 0;
            int place = start;
            boolean same = true;
            for (int i = 0; i < KEYWORDS.length(); i++) {
                char letter = KEYWORDS.charAt(i);
                if (letter != ' ') {
                    same = same && tape.byteAt(place) == letter;
                    place++;
                } else if (same && place == end) {
                    return kind;
                } else {
                    kind++;
                    place = start;
                    same = true;
                }
            }
            return NAME;
        }

        private static long worthOf(Tape tape, int start, int end) {
            int base = isDigit(tape.byteAt(start)) ? 10 : 36;
            long worth = 0;
            for (int place = start; place < end; place++) {
                int sign = tape.byteAt(place);
                worth = worth * base + (isDigit(sign) ? sign - '0' : sign - 'a' + 10);
            }
            return worth;
        }

        private static boolean isBlank(int sign) {
            return sign == BLANK || sign == LINE_END;
        }

        private static boolean isLetter(int sign) {
            return sign >= 'a' && sign <= 'z';
        }

        private static boolean isDigit(int sign) {
            return sign >= '0' && sign <= '9';
        }
    }

    /**
     * Reads the tokens as a list, into a draft. Its methods answer whether the tokens fit the grammar; if not,
     * next stands at the one that does not. The other errors do not stop the reading, since an error 1 behind
     * them comes before them; but from the first of them on nothing more is written into the draft.
     */
    private static final class Reader {
        private final Tokens tokens;
        // The token of each name, by the number of what it names.
        private final int[] caveNames = new int[MOST_CAVES];
        private final int[] pipeNames = new int[MOST_PIPES];
        private final int[] chordNames = new int[MOST_CHORDS];
        private Organ draft = new Organ();
        private int next;
        private int fault;
        private int faultToken;

        Reader(Tokens tokens) {
            this.tokens = tokens;
        }

        /** Hands out the draft that was read, and takes another organ to write the next one into. */
        Organ exchange(Organ other) {
            Organ read = draft;
            draft = other;
            return read;
        }

        int read() {
            draft.begin();
            next = 0;
            fault = 0;
            boolean fits = true;
            for (int lines = 0; lines < MOST_TOKENS && fits && kind() != END; lines++) {
                fits = line() && take(SEMICOLON);
            }
            if (!fits || kind() != END) {
                fault = NOT_A_LIST;
                faultToken = next;
            }
            return fault;
        }

        private int kind() {
            return tokens.kindAt(next);
        }

        private boolean take(int wanted) {
            if (kind() != wanted) {
                return false;
            }
            next++;
            return true;
        }

        private void blame(int error) {
            if (fault == 0) {
                fault = error;
                faultToken = next;
            }
        }

        private boolean line() {
            switch (kind()) {
                case CAVE: return caveLine();
                case PIPE: return pipeLine();
                case SWELL: return swellLine();
                case SILENCE: return silenceLine();
                case CHORD: return chordLine();
                case SHUT: return shutLine();
                case CLEAN: return cleanLine();
                default: return false;
            }
        }

        private boolean caveLine() {
            int line = next;
            if (!(take(CAVE) && newName(caveNames, draft.caves)
                    && take(MOUTH) && numberIn(1, 9) && take(DEEP) && numberIn(1, 9))) {
                return false;
            }
            if (fault == 0) {
                draft.addCave(tokens.numberAt(line + 3), tokens.numberAt(line + 5));
            }
            return true;
        }

        private boolean pipeLine() {
            int line = next;
            if (!(take(PIPE) && newName(pipeNames, draft.pipes) && take(IN) && knownName(caveNames, draft.caves)
                    && take(LENGTH) && numberIn(1, MOST_LENGTH))) {
                return false;
            }
            int reed = take(REED) ? 1 : 0;
            if (fault == 0) {
                draft.addPipe(numberOf(line + 3, caveNames, draft.caves), tokens.numberAt(line + 5), reed);
            }
            return true;
        }

        private boolean swellLine() {
            int line = next;
            if (draft.weather.swells >= MOST_SWELLS) {
                blame(TOO_MANY);
            }
            if (!(take(SWELL) && take(HIGH) && numberIn(1, 30) && take(EVERY) && numberIn(1, 24)
                    && take(FROM) && numberIn(0, 99))) {
                return false;
            }
            if (fault == 0) {
                draft.weather.addSwell(tokens.numberAt(line + 2), tokens.numberAt(line + 4),
                        tokens.numberAt(line + 6));
            }
            return true;
        }

        private boolean silenceLine() {
            int line = next;
            if (draft.weather.silences >= MOST_SILENCES) {
                blame(TOO_MANY);
            }
            if (!(take(SILENCE) && take(FROM) && numberIn(0, DAY - 1) && take(TO) && numberIn(0, DAY - 1))) {
                return false;
            }
            if (fault == 0) {
                draft.weather.addSilence(tokens.numberAt(line + 2), tokens.numberAt(line + 4));
            }
            return true;
        }

        private boolean chordLine() {
            if (!(take(CHORD) && newName(chordNames, draft.chords) && take(OF))) {
                return false;
            }
            if (fault == 0) {
                draft.beginChord();
            }
            if (!(chordPipe() && chordPipe())) {
                return false;
            }
            for (int more = 0; more < MOST_TOKENS && kind() == NAME; more++) {
                chordPipe();
            }
            if (fault == 0) {
                draft.endChord();
            }
            return true;
        }

        private boolean chordPipe() {
            if (kind() != NAME) {
                return false;
            }
            int pipe = numberOf(next, pipeNames, draft.pipes);
            if (pipe < 0) {
                blame(NOT_TOLD);
            } else if (draft.sizeOf(draft.chords) >= MOST_NOTES) {
                blame(TOO_MANY);
            } else if (draft.hasNote(draft.chords, pipe)) {
                blame(OUT_OF_RANGE);
            }
            if (fault == 0) {
                draft.addNote(pipe);
            }
            next++;
            return true;
        }

        private boolean shutLine() {
            int line = next;
            blameOrderTooMany();
            if (!(take(SHUT) && knownName(caveNames, draft.caves) && take(WHEN))) {
                return false;
            }
            beginOrder(SHUT, numberOf(line + 1, caveNames, draft.caves));
            if (!test(0)) {
                return false;
            }
            endOrder();
            return true;
        }

        private boolean cleanLine() {
            int line = next;
            blameOrderTooMany();
            if (!(take(CLEAN) && knownName(pipeNames, draft.pipes))) {
                return false;
            }
            beginOrder(CLEAN, numberOf(line + 1, pipeNames, draft.pipes));
            if (take(WHEN) && !test(0)) {
                return false;
            }
            endOrder();
            return true;
        }

        private void blameOrderTooMany() {
            if (draft.orders.told >= MOST_ORDERS) {
                blame(TOO_MANY);
            }
        }

        private void beginOrder(int sort, int target) {
            if (fault == 0) {
                draft.orders.beginOrder(sort, target);
            }
        }

        private void endOrder() {
            if (fault == 0) {
                draft.orders.endOrder();
            }
        }

        private boolean newName(int[] names, int told) {
            if (kind() != NAME) {
                return false;
            }
            if (numberOf(next, names, told) >= 0) {
                blame(TOLD_TWICE);
            } else if (told >= names.length) {
                blame(TOO_MANY);
            }
            if (fault == 0) {
                put(names, told, next);
            }
            next++;
            return true;
        }

        private boolean knownName(int[] names, int told) {
            if (kind() != NAME) {
                return false;
            }
            if (numberOf(next, names, told) < 0) {
                blame(NOT_TOLD);
            }
            next++;
            return true;
        }

        private int numberOf(int nameToken, int[] names, int told) {
            long word = tokens.worthAt(nameToken);
            for (int number = 0; number < told && number < names.length; number++) {
                if (tokens.worthAt(names[number]) == word) {
                    return number;
                }
            }
            return -1;
        }

        private boolean numberIn(int least, int most) {
            if (kind() != NUMBER) {
                return false;
            }
            int number = tokens.numberAt(next);
            if (number < least || number > most) {
                blame(OUT_OF_RANGE);
            }
            next++;
            return true;
        }

        private void emit(int sort, int operand) {
            if (fault == 0) {
                draft.orders.addStep(sort, operand);
            }
        }

        /** Goes behind the token that makes it one deeper, unless that would be too deep. */
        private boolean goDeeper(int depth) {
            if (depth >= MOST_DEPTH) {
                return false;
            }
            next++;
            return true;
        }

        private boolean test(int depth) {
            if (!both(depth)) {
                return false;
            }
            for (int more = 0; more < MOST_TOKENS && take(OR); more++) {
                if (!both(depth)) {
                    return false;
                }
                emit(OR, 0);
            }
            return true;
        }

        private boolean both(int depth) {
            if (!single(depth)) {
                return false;
            }
            for (int more = 0; more < MOST_TOKENS && take(AND); more++) {
                if (!single(depth)) {
                    return false;
                }
                emit(AND, 0);
            }
            return true;
        }

        private boolean single(int depth) {
            switch (kind()) {
                case NOT:
                    if (!(goDeeper(depth) && single(depth + 1))) {
                        return false;
                    }
                    emit(NOT, 0);
                    return true;
                case OPEN_TEST:
                    return goDeeper(depth) && test(depth + 1) && take(CLOSE_TEST);
                case SOUNDS:
                    return namedStep(pipeNames, draft.pipes);
                default:
                    return comparison(depth);
            }
        }

        private boolean comparison(int depth) {
            if (!sum(depth)) {
                return false;
            }
            int sign = kind();
            if (!(take(LESS) || take(GREATER) || take(EQUAL) || take(AT_MOST) || take(AT_LEAST))) {
                return false;
            }
            if (!sum(depth)) {
                return false;
            }
            emit(sign, 0);
            return true;
        }

        private boolean sum(int depth) {
            if (!product(depth)) {
                return false;
            }
            int sign = kind();
            for (int more = 0; more < MOST_TOKENS && (take(PLUS) || take(MINUS)); more++) {
                if (!product(depth)) {
                    return false;
                }
                emit(sign, 0);
                sign = kind();
            }
            return true;
        }

        private boolean product(int depth) {
            if (!value(depth)) {
                return false;
            }
            int sign = kind();
            for (int more = 0; more < MOST_TOKENS && (take(TIMES) || take(OVER)); more++) {
                if (!value(depth)) {
                    return false;
                }
                emit(sign, 0);
                sign = kind();
            }
            return true;
        }

        private boolean value(int depth) {
            switch (kind()) {
                case NUMBER:
                    emit(NUMBER, tokens.numberAt(next));
                    next++;
                    return true;
                case HOUR:
                case TIDE:
                case LISTENERS:
                    emit(kind(), 0);
                    next++;
                    return true;
                case PRESSURE:
                    return namedStep(caveNames, draft.caves);
                case SILT:
                case LOUD:
                    return namedStep(pipeNames, draft.pipes);
                case MINUS:
                    if (!(goDeeper(depth) && value(depth + 1))) {
                        return false;
                    }
                    emit(NEGATE, 0);
                    return true;
                case OPEN:
                    return goDeeper(depth) && sum(depth + 1) && take(CLOSE);
                case MIN:
                case MAX:
                    return extreme(depth);
                default:
                    return false;
            }
        }

        private boolean extreme(int depth) {
            int sort = kind();
            next++;
            if (!(kind() == OPEN && goDeeper(depth) && sum(depth + 1) && take(COMMA) && sum(depth + 1)
                    && take(CLOSE))) {
                return false;
            }
            emit(sort, 0);
            return true;
        }

        private boolean namedStep(int[] names, int told) {
            int sort = kind();
            next++;
            if (kind() != NAME) {
                return false;
            }
            int number = numberOf(next, names, told);
            if (number < 0) {
                blame(NOT_TOLD);
            }
            emit(sort, number);
            next++;
            return true;
        }
    }

    /** The swells and the lines of silence. */
    private static final class Weather {
        private final int[] highs = new int[MOST_SWELLS];
        private final int[] everies = new int[MOST_SWELLS];
        private final int[] swellFroms = new int[MOST_SWELLS];
        private final int[] silenceFroms = new int[MOST_SILENCES];
        private final int[] silenceTos = new int[MOST_SILENCES];
        private int swells;
        private int silences;

        void begin() {
            swells = 0;
            silences = 0;
        }

        void addSwell(int high, int every, int from) {
            put(highs, swells, high);
            put(everies, swells, every);
            put(swellFroms, swells, from);
            swells++;
        }

        void addSilence(int from, int to) {
            put(silenceFroms, silences, from);
            put(silenceTos, silences, to);
            silences++;
        }

        int heightIn(int hour, int tide) {
            int sum = 2 * tide;
            for (int swell = 0; swell < swells; swell++) {
                int since = hour - at(swellFroms, swell);
                int every = at(everies, swell);
                if (since >= 0 && every > 0 && since % every == 0) {
                    sum += at(highs, swell);
                }
            }
            return sum;
        }

        boolean isStill(int hour) {
            int ofDay = hour % DAY;
            for (int line = 0; line < silences; line++) {
                int from = at(silenceFroms, line);
                int to = at(silenceTos, line);
                boolean begun = ofDay >= from;
                boolean open = ofDay < to;
                // With from and to the same, one of both always holds: that silence never ends.
                if (from < to ? begun && open : begun || open) {
                    return true;
                }
            }
            return false;
        }
    }

    /**
     * The orders, each with its test as steps: operands are put on a stack, and signs take them from it. A step
     * has the kind of its token; none has more than its tokens, so MOST_TOKENS are enough for all tests.
     */
    private static final class Orders {
        private final int[] sorts = new int[MOST_ORDERS];
        private final int[] targets = new int[MOST_ORDERS];
        private final int[] firstSteps = new int[MOST_ORDERS];
        private final int[] endSteps = new int[MOST_ORDERS];
        private final int[] stepSorts = new int[MOST_TOKENS];
        private final int[] operands = new int[MOST_TOKENS];
        private int told;
        private int steps;

        void begin() {
            told = 0;
            steps = 0;
        }

        void beginOrder(int sort, int target) {
            put(sorts, told, sort);
            put(targets, told, target);
            put(firstSteps, told, steps);
        }

        void endOrder() {
            put(endSteps, told, steps);
            told++;
        }

        // Not by put(), which would make the calls of teach nine deep.
        void addStep(int sort, int operand) {
            if (steps >= 0 && steps < stepSorts.length && steps < operands.length) {
                stepSorts[steps] = sort;
                operands[steps] = operand;
                steps++;
            }
        }
    }

    /** What a list tells: caves, pipes, chords, weather and orders. */
    private static final class Organ {
        private final int[] mouths = new int[MOST_CAVES];
        private final int[] deeps = new int[MOST_CAVES];
        private final int[] homes = new int[MOST_PIPES];
        private final int[] lengths = new int[MOST_PIPES];
        private final int[] reeds = new int[MOST_PIPES];
        private final int[] sizes = new int[MOST_CHORDS];
        private final int[] notes = new int[MOST_CHORDS * MOST_NOTES];
        private final Weather weather = new Weather();
        private final Orders orders = new Orders();
        private int caves;
        private int pipes;
        private int chords;

        void begin() {
            caves = 0;
            pipes = 0;
            chords = 0;
            weather.begin();
            orders.begin();
        }

        void addCave(int mouth, int deep) {
            put(mouths, caves, mouth);
            put(deeps, caves, deep);
            caves++;
        }

        void addPipe(int home, int length, int reed) {
            put(homes, pipes, home);
            put(lengths, pipes, length);
            put(reeds, pipes, reed);
            pipes++;
        }

        void beginChord() {
            put(sizes, chords, 0);
        }

        void addNote(int pipe) {
            int size = sizeOf(chords);
            put(notes, chords * MOST_NOTES + size, pipe);
            put(sizes, chords, size + 1);
        }

        void endChord() {
            chords++;
        }

        int sizeOf(int chord) {
            return at(sizes, chord);
        }

        int noteAt(int chord, int place) {
            return at(notes, chord * MOST_NOTES + place);
        }

        boolean hasNote(int chord, int pipe) {
            int size = sizeOf(chord);
            for (int place = 0; place < size; place++) {
                if (noteAt(chord, place) == pipe) {
                    return true;
                }
            }
            return false;
        }

        int pipesIn(int cave) {
            int inside = 0;
            for (int pipe = 0; pipe < pipes; pipe++) {
                if (at(homes, pipe) == cave) {
                    inside++;
                }
            }
            return inside;
        }

        int needOf(int pipe, int silt) {
            return at(lengths, pipe) / 2 + silt * (1 + at(reeds, pipe));
        }

        boolean chordSounds(int chord, Moment moment) {
            int size = sizeOf(chord);
            for (int place = 0; place < size; place++) {
                if (!moment.sounds(noteAt(chord, place))) {
                    return false;
                }
            }
            return true;
        }

        int spanOf(int chord) {
            int least = MOST_LENGTH;
            int most = 0;
            int size = sizeOf(chord);
            for (int place = 0; place < size; place++) {
                int length = at(lengths, noteAt(chord, place));
                least = Math.min(least, length);
                most = Math.max(most, length);
            }
            return most - least;
        }
    }

    /** How everything is in one hour. There are two: the true one, and one for trying what would be. */
    private static final class Moment {
        private final int[] pressures = new int[MOST_CAVES];
        private final int[] silts = new int[MOST_PIPES];
        private final int[] louds = new int[MOST_PIPES];
        private final int[] pipeHours = new int[MOST_PIPES];
        private final int[] chordHours = new int[MOST_CHORDS];
        private int hour;
        private int tide = FIRST_TIDE;
        private int listeners;
        private int complaints;

        /** Begins anew with another organ; the hour and the tide stay. */
        void begin() {
            empty(pressures);
            empty(silts);
            empty(louds);
            empty(pipeHours);
            empty(chordHours);
            listeners = 0;
            complaints = 0;
        }

        void become(Moment other) {
            copy(other.pressures, pressures);
            copy(other.silts, silts);
            copy(other.louds, louds);
            copy(other.pipeHours, pipeHours);
            copy(other.chordHours, chordHours);
            hour = other.hour;
            tide = other.tide;
            listeners = other.listeners;
            complaints = other.complaints;
        }

        int hourOfDay() {
            return hour % DAY;
        }

        boolean sounds(int pipe) {
            return at(louds, pipe) >= 1;
        }

        int pipesSounding(int pipes) {
            int sounding = 0;
            for (int pipe = 0; pipe < pipes; pipe++) {
                if (sounds(pipe)) {
                    sounding++;
                }
            }
            return sounding;
        }

        int siltIn(int pipes) {
            int sum = 0;
            for (int pipe = 0; pipe < pipes; pipe++) {
                sum += at(silts, pipe);
            }
            return sum;
        }
    }

    /** Reckons the test of an order; what holds is 1, what does not is 0. */
    private static final class Judge {
        private final int[] stack = new int[MOST_TOKENS];
        private int top;

        boolean holds(Orders orders, int order, Moment moment) {
            int first = at(orders.firstSteps, order);
            int end = at(orders.endSteps, order);
            if (first == end) {
                // An order of clean without a test.
                return true;
            }
            top = 0;
            for (int step = first; step < end; step++) {
                int sort = at(orders.stepSorts, step);
                if (sort == NEGATE) {
                    push(-pop());
                } else if (sort == NOT) {
                    push(1 - pop());
                } else if (isOperand(sort)) {
                    push(reading(sort, at(orders.operands, step), moment));
                } else {
                    int right = pop();
                    push(joined(sort, pop(), right));
                }
            }
            return pop() != 0;
        }

        private void push(int value) {
            put(stack, top, value);
            top++;
        }

        private int pop() {
            top--;
            return at(stack, top);
        }

        private static boolean isOperand(int sort) {
            return sort == NUMBER || sort >= HOUR && sort <= SOUNDS;
        }

        private static int reading(int sort, int operand, Moment moment) {
            switch (sort) {
                case HOUR: return moment.hourOfDay();
                case TIDE: return moment.tide;
                case LISTENERS: return moment.listeners;
                case PRESSURE: return at(moment.pressures, operand);
                case SILT: return at(moment.silts, operand);
                case LOUD: return at(moment.louds, operand);
                // Not by sounds(), which would make the calls of advise nine deep.
                case SOUNDS: return at(moment.louds, operand) >= 1 ? 1 : 0;
                default: return operand;
            }
        }

        private static int joined(int sort, int left, int right) {
            switch (sort) {
                case PLUS: return left + right;
                case MINUS: return left - right;
                case TIMES: return left * right;
                case OVER: return right == 0 ? 0 : left / right;
                case MIN: return Math.min(left, right);
                case MAX: return Math.max(left, right);
                case LESS: return left < right ? 1 : 0;
                case GREATER: return left > right ? 1 : 0;
                case EQUAL: return left == right ? 1 : 0;
                case AT_MOST: return left <= right ? 1 : 0;
                case AT_LEAST: return left >= right ? 1 : 0;
                case AND: return left & right;
                default: return left | right;
            }
        }
    }

    /** Lets hours go by, step after step. */
    private static final class Play {
        private final Judge judge = new Judge();

        void run(Organ organ, Moment moment, int hours) {
            for (int gone = 0; gone < hours; gone++) {
                pressCaves(organ, moment);
                soundPipes(organ, moment);
                siltPipes(organ, moment);
                cleanByOrders(organ, moment);
                soundChords(organ, moment);
                moment.hour++;
            }
        }

        boolean isShut(Organ organ, Moment moment, int cave) {
            if (organ.weather.isStill(moment.hour)) {
                return true;
            }
            Orders orders = organ.orders;
            for (int order = 0; order < orders.told; order++) {
                if (at(orders.sorts, order) == SHUT && at(orders.targets, order) == cave
                        && judge.holds(orders, order, moment)) {
                    return true;
                }
            }
            return false;
        }

        private void pressCaves(Organ organ, Moment moment) {
            int height = organ.weather.heightIn(moment.hour, moment.tide);
            for (int cave = 0; cave < organ.caves; cave++) {
                int deep = at(organ.deeps, cave);
                if (isShut(organ, moment, cave) || deep == 0) {
                    put(moment.pressures, cave, 0);
                } else {
                    int kept = at(moment.pressures, cave) / 2;
                    put(moment.pressures, cave, kept + height * at(organ.mouths, cave) / deep);
                }
            }
        }

        private void soundPipes(Organ organ, Moment moment) {
            for (int pipe = 0; pipe < organ.pipes; pipe++) {
                int pressure = at(moment.pressures, at(organ.homes, pipe));
                int need = organ.needOf(pipe, at(moment.silts, pipe));
                put(moment.louds, pipe, Math.max(0, pressure - need + 1));
                if (moment.sounds(pipe)) {
                    put(moment.pipeHours, pipe, at(moment.pipeHours, pipe) + 1);
                }
            }
        }

        private void siltPipes(Organ organ, Moment moment) {
            for (int pipe = 0; pipe < organ.pipes; pipe++) {
                int silt = at(moment.silts, pipe);
                if (at(moment.louds, pipe) >= LOUD_ENOUGH_TO_BLOW_CLEAN) {
                    put(moment.silts, pipe, Math.max(0, silt - 1));
                } else if (!moment.sounds(pipe) && at(moment.pressures, at(organ.homes, pipe)) >= 1) {
                    put(moment.silts, pipe, Math.min(MOST_SILT, silt + 1 + at(organ.reeds, pipe)));
                }
            }
        }

        private void cleanByOrders(Organ organ, Moment moment) {
            Orders orders = organ.orders;
            for (int order = 0; order < orders.told; order++) {
                if (at(orders.sorts, order) == CLEAN && judge.holds(orders, order, moment)) {
                    put(moment.silts, at(orders.targets, order), 0);
                }
            }
        }

        private void soundChords(Organ organ, Moment moment) {
            int ofDay = moment.hourOfDay();
            boolean listening = ofDay >= FIRST_LISTENING_HOUR && ofDay <= LAST_LISTENING_HOUR;
            for (int chord = 0; chord < organ.chords; chord++) {
                if (organ.chordSounds(chord, moment)) {
                    int size = organ.sizeOf(chord);
                    moment.listeners += listening ? size : 0;
                    moment.complaints += listening ? 0 : size;
                    put(moment.chordHours, chord, at(moment.chordHours, chord) + 1);
                }
            }
        }
    }
}
