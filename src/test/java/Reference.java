import java.util.ArrayList;
import java.util.HashMap;
import java.util.List;
import java.util.Map;
import java.util.regex.Matcher;
import java.util.regex.Pattern;

/** The document written down a second time, plainly, for comparing: an organ as RandomRunsTest expects it. */
final class Reference {
    private record Token(String text, String sort, int at) { }

    private interface Sum { int of(Reference organ); }

    private interface Test { boolean of(Reference organ); }

    private record Order(boolean shut, int target, Test test) { }

    private static final Pattern TOKEN = Pattern.compile("[a-z][a-z0-9]*|[0-9]+|<=|>=|[()\\[\\];,+*/<>=-]|[^ \n]",
            Pattern.DOTALL);

    String tape = "";
    int errorAt = -1;
    int hour;
    int tide = 4;
    int listeners;
    int complaints;
    // caves: mouth, deep, pressure. pipes: cave, length, reed, silt, loud, hours. chords: hours, then pipes.
    List<int[]> caves = new ArrayList<>();
    List<int[]> pipes = new ArrayList<>();
    List<List<Integer>> chords = new ArrayList<>();
    List<Integer> chordHours = new ArrayList<>();
    List<int[]> swells = new ArrayList<>();
    List<int[]> silences = new ArrayList<>();
    List<Order> orders = new ArrayList<>();

    private List<Token> tokens;
    private int next;

    Reference copy() {
        Reference copy = new Reference();
        copy.hour = hour;
        copy.tide = tide;
        copy.listeners = listeners;
        copy.complaints = complaints;
        caves.forEach(cave -> copy.caves.add(cave.clone()));
        pipes.forEach(pipe -> copy.pipes.add(pipe.clone()));
        copy.chords = chords;
        copy.chordHours.addAll(chordHours);
        copy.swells = swells;
        copy.silences = silences;
        copy.orders = orders;
        return copy;
    }

    // ---- the language

    int feed(int... words) {
        if (tape.length() > 1980) {
            throw new IllegalStateException();
        }
        StringBuilder text = new StringBuilder(tape);
        for (int word : words) {
            text.append((char) (word >>> 24)).append((char) (word >>> 16 & 255)).append((char) (word >>> 8 & 255))
                    .append((char) (word & 255));
        }
        tape = text.toString();
        return tape.length();
    }

    int trim(int n) {
        if (n < 0 || n > tape.length()) {
            throw new IllegalArgumentException();
        }
        tape = tape.substring(0, n);
        return n;
    }

    private static List<Token> cut(String text) {
        List<Token> tokens = new ArrayList<>();
        Matcher matcher = TOKEN.matcher(text);
        while (matcher.find()) {
            String token = matcher.group();
            boolean word = token.matches("[a-z].*");
            boolean number = token.matches("[0-9]+");
            String sort = Grammar.KEYWORDS.contains(token) ? token : word ? "name" : number ? "number" : token;
            boolean tooLong = word && token.length() > 10 || number && token.length() > 6;
            tokens.add(new Token(token, tooLong ? "too long" : sort, matcher.start()));
        }
        return tokens;
    }

    int teach() {
        tokens = cut(tape);
        int end = tape.length();
        tape = "";
        int wrong = Grammar.firstWrong(tokens.stream().map(Token::sort).toList());
        if (wrong >= 0) {
            errorAt = wrong < tokens.size() ? tokens.get(wrong).at() : end;
            return 1;
        }
        int error = new Looking().error();
        if (error > 0) {
            return error;
        }
        errorAt = -1;
        build();
        return 0;
    }

    /** Looks at keywords, names and numbers from left to right, each by the keyword that it stands behind. */
    private final class Looking {
        private final Map<String, List<String>> told = new HashMap<>(Map.of("cave", new ArrayList<>(), "pipe",
                new ArrayList<>(), "chord", new ArrayList<>(), "swell", new ArrayList<>(), "silence", new ArrayList<>(),
                "order", new ArrayList<>()));
        private static final Map<String, Integer> MOST = Map.of("cave", 5, "pipe", 12, "chord", 6, "swell", 5, "silence", 3,
                "order", 16);

        int error() {
            String line = "";
            String behind = "";
            List<String> notes = new ArrayList<>();
            for (Token token : tokens) {
                String sort = token.sort();
                int error = 0;
                if (line.isEmpty()) {
                    line = sort;
                    notes.clear();
                    if (sort.equals("swell") || sort.equals("silence")) {
                        error = oneMore(sort, sort);
                    } else if (sort.equals("shut") || sort.equals("clean")) {
                        error = oneMore("order", sort);
                    }
                } else if (sort.equals("name")) {
                    error = nameError(line, behind, token.text(), notes);
                } else if (sort.equals("number")) {
                    error = numberError(line, behind, Integer.parseInt(token.text()));
                }
                if (error > 0) {
                    errorAt = token.at();
                    return error;
                }
                if (sort.equals(";")) {
                    line = "";
                }
                behind = sort.equals("name") && behind.equals("of") ? "of" : sort;
            }
            return 0;
        }

        private int oneMore(String sort, String name) {
            told.get(sort).add(name);
            return told.get(sort).size() > MOST.get(sort) ? 4 : 0;
        }

        private int nameError(String line, String behind, String name, List<String> notes) {
            switch (behind) {
                case "cave": case "pipe": case "chord":
                    return told.get(behind).contains(name) ? 2 : oneMore(behind, name);
                case "in": case "shut": case "pressure":
                    return told.get("cave").contains(name) ? 0 : 3;
                case "of":
                    boolean again = notes.contains(name);
                    notes.add(name);
                    return !told.get("pipe").contains(name) ? 3 : notes.size() > 6 ? 4 : again ? 5 : 0;
                default:
                    return told.get("pipe").contains(name) ? 0 : 3;
            }
        }

        private static int numberError(String line, String behind, int number) {
            return switch (behind) {
                case "mouth", "deep" -> number < 1 || number > 9 ? 5 : 0;
                case "length" -> number < 1 || number > 40 ? 5 : 0;
                case "high" -> number < 1 || number > 30 ? 5 : 0;
                case "every" -> number < 1 || number > 24 ? 5 : 0;
                case "from" -> number > (line.equals("swell") ? 99 : 23) ? 5 : 0;
                case "to" -> number > 23 ? 5 : 0;
                default -> 0;
            };
        }
    }

    private void build() {
        caves = new ArrayList<>();
        pipes = new ArrayList<>();
        chords = new ArrayList<>();
        chordHours = new ArrayList<>();
        swells = new ArrayList<>();
        silences = new ArrayList<>();
        orders = new ArrayList<>();
        listeners = 0;
        complaints = 0;
        Map<String, Integer> caveNumbers = new HashMap<>();
        Map<String, Integer> pipeNumbers = new HashMap<>();
        names = Map.of("pressure", caveNumbers, "silt", pipeNumbers, "loud", pipeNumbers, "sounds", pipeNumbers);
        next = 0;
        while (next < tokens.size()) {
            String line = word();
            switch (line) {
                case "cave" -> {
                    caveNumbers.put(word(), caves.size());
                    caves.add(new int[] {numberBehind(), numberBehind(), 0});
                }
                case "pipe" -> {
                    pipeNumbers.put(word(), pipes.size());
                    word();
                    int cave = caveNumbers.get(word());
                    pipes.add(new int[] {cave, numberBehind(), take("reed") ? 1 : 0, 0, 0, 0});
                }
                case "swell" -> swells.add(new int[] {numberBehind(), numberBehind(), numberBehind()});
                case "silence" -> silences.add(new int[] {numberBehind(), numberBehind()});
                case "chord" -> {
                    word();
                    word();
                    List<Integer> notes = new ArrayList<>();
                    while (!at(";")) {
                        notes.add(pipeNumbers.get(word()));
                    }
                    chords.add(notes);
                    chordHours.add(0);
                }
                case "shut" -> {
                    int cave = caveNumbers.get(word());
                    word();
                    orders.add(new Order(true, cave, test()));
                }
                default -> {
                    int pipe = pipeNumbers.get(word());
                    orders.add(new Order(false, pipe, take("when") ? test() : organ -> true));
                }
            }
            word();
        }
    }

    private Map<String, Map<String, Integer>> names;

    private String word() {
        return tokens.get(next++).text();
    }

    private int numberBehind() {
        word();
        return Integer.parseInt(word());
    }

    private boolean at(String text) {
        return tokens.get(next).text().equals(text);
    }

    private boolean take(String text) {
        boolean there = at(text);
        if (there) {
            next++;
        }
        return there;
    }

    private Test test() {
        Test left = both();
        while (take("or")) {
            Test a = left;
            Test b = both();
            left = organ -> a.of(organ) | b.of(organ);
        }
        return left;
    }

    private Test both() {
        Test left = single();
        while (take("and")) {
            Test a = left;
            Test b = single();
            left = organ -> a.of(organ) & b.of(organ);
        }
        return left;
    }

    private Test single() {
        if (take("not")) {
            Test inside = single();
            return organ -> !inside.of(organ);
        }
        if (take("[")) {
            Test inside = test();
            word();
            return inside;
        }
        if (take("sounds")) {
            int pipe = names.get("sounds").get(word());
            return organ -> organ.pipes.get(pipe)[4] >= 1;
        }
        Sum a = sum();
        String sign = word();
        Sum b = sum();
        return switch (sign) {
            case "<" -> organ -> a.of(organ) < b.of(organ);
            case ">" -> organ -> a.of(organ) > b.of(organ);
            case "=" -> organ -> a.of(organ) == b.of(organ);
            case "<=" -> organ -> a.of(organ) <= b.of(organ);
            default -> organ -> a.of(organ) >= b.of(organ);
        };
    }

    private Sum sum() {
        Sum left = product();
        while (at("+") || at("-")) {
            boolean plus = word().equals("+");
            Sum a = left;
            Sum b = product();
            left = organ -> (int) (plus ? (long) a.of(organ) + b.of(organ) : (long) a.of(organ) - b.of(organ));
        }
        return left;
    }

    private Sum product() {
        Sum left = value();
        while (at("*") || at("/")) {
            boolean times = word().equals("*");
            Sum a = left;
            Sum b = value();
            left = organ -> times ? (int) ((long) a.of(organ) * b.of(organ)) : quotient(a.of(organ), b.of(organ));
        }
        return left;
    }

    private static int quotient(long a, long b) {
        return b == 0 ? 0 : (int) (a / b);
    }

    private Sum value() {
        String word = word();
        switch (word) {
            case "hour": return organ -> organ.hour % 24;
            case "tide": return organ -> organ.tide;
            case "listeners": return organ -> organ.listeners;
            case "pressure": case "silt": case "loud":
                int number = names.get(word).get(word());
                return word.equals("pressure") ? organ -> organ.caves.get(number)[2]
                        : word.equals("silt") ? organ -> organ.pipes.get(number)[3] : organ -> organ.pipes.get(number)[4];
            case "-":
                Sum turned = value();
                return organ -> (int) -(long) turned.of(organ);
            case "(":
                Sum inside = sum();
                word();
                return inside;
            case "min": case "max":
                word();
                Sum a = sum();
                word();
                Sum b = sum();
                word();
                return word.equals("min") ? organ -> Math.min(a.of(organ), b.of(organ))
                        : organ -> Math.max(a.of(organ), b.of(organ));
            default:
                int told = Integer.parseInt(word);
                return organ -> told;
        }
    }

    // ---- what there is

    int count(int what) {
        int[] counts = {hour, tide, caves.size(), pipes.size(), chords.size(), swells.size(), silences.size(), orders.size(),
            (int) pipes.stream().filter(pipe -> pipe[4] > 0).count(), (int) chords.stream().filter(this::sounds).count(),
            listeners, complaints, pipes.stream().mapToInt(pipe -> pipe[3]).sum(), tape.length()};
        return in(counts, what);
    }

    private static int in(int[] facts, int what) {
        if (what < 0 || what >= facts.length) {
            throw new IndexOutOfBoundsException();
        }
        return facts[what];
    }

    int cave(int cave, int what) {
        int[] told = caves.get(cave);
        return in(new int[] {told[0], told[1], told[2], (int) pipes.stream().filter(pipe -> pipe[0] == cave).count(),
            isShut(cave) ? 1 : 0}, what);
    }

    int pipe(int pipe, int what) {
        int[] told = pipes.get(pipe);
        return in(new int[] {told[0], told[1], told[2], told[3], need(told), told[4], told[5]}, what);
    }

    int chord(int chord, int what) {
        List<Integer> notes = chords.get(chord);
        int longest = notes.stream().mapToInt(note -> pipes.get(note)[1]).max().orElseThrow();
        int shortest = notes.stream().mapToInt(note -> pipes.get(note)[1]).min().orElseThrow();
        return in(new int[] {notes.size(), sounds(notes) ? 1 : 0, longest - shortest, chordHours.get(chord)}, what);
    }

    int note(int chord, int place) {
        return chords.get(chord).get(place);
    }

    int apart(int a, int b) {
        return steps(pipes.get(a)[1], pipes.get(b)[1]);
    }

    private static int steps(int x, int y) {
        return x == y ? 0 : 1 + steps(Math.min(x, y), Math.max(x, y) - Math.min(x, y));
    }

    int height(int asked) {
        within(asked, 0, 9999);
        return heightIn(asked);
    }

    boolean isSilent(int asked) {
        within(asked, 0, 9999);
        return silentIn(asked);
    }

    private static void within(int number, int least, int most) {
        if (number < least || number > most) {
            throw new IllegalArgumentException();
        }
    }

    private int heightIn(int asked) {
        int sum = tide + tide;
        for (int[] swell : swells) {
            for (int comes = swell[2]; comes <= asked; comes += swell[1]) {
                sum += comes == asked ? swell[0] : 0;
            }
        }
        return sum;
    }

    private boolean silentIn(int asked) {
        for (int[] line : silences) {
            int silent = line[0];
            do {
                if (asked % 24 == silent) {
                    return true;
                }
                silent = (silent + 1) % 24;
            } while (silent != line[1]);
        }
        return false;
    }

    private boolean isShut(int cave) {
        return silentIn(hour) || orders.stream().anyMatch(order -> order.shut() && order.target() == cave && order.test().of(this));
    }

    private boolean sounds(List<Integer> notes) {
        return notes.stream().allMatch(note -> pipes.get(note)[4] > 0);
    }

    private static int need(int[] pipe) {
        return pipe[1] / 2 + (pipe[2] == 1 ? pipe[3] + pipe[3] : pipe[3]);
    }

    // ---- by hand

    int setTide(int wanted) {
        within(wanted, 0, 9);
        int before = tide;
        tide = wanted;
        return before;
    }

    int clean(int pipe) {
        int before = pipes.get(pipe)[3];
        pipes.get(pipe)[3] = 0;
        return before;
    }

    int cut(int pipe, int by) {
        int[] told = pipes.get(pipe);
        within(by, 1, told[1] - 1);
        return told[1] -= by;
    }

    // ---- hours

    int pass(int hours) {
        within(hours, 1, 120);
        int before = listeners;
        go(hours);
        return listeners - before;
    }

    private Reference go(int hours) {
        for (int i = 0; i < hours; i++) {
            goOn();
        }
        return this;
    }

    private void goOn() {
        for (int cave = 0; cave < caves.size(); cave++) {
            int[] told = caves.get(cave);
            told[2] = isShut(cave) ? 0 : told[2] / 2 + heightIn(hour) * told[0] / told[1];
        }
        for (int[] pipe : pipes) {
            int pressure = caves.get(pipe[0])[2];
            pipe[4] = Math.max(0, pressure - need(pipe) + 1);
            if (pipe[4] > 0) {
                pipe[5]++;
            }
            if (pipe[4] == 0 && pressure > 0) {
                pipe[3] += pipe[2] == 1 ? 2 : 1;
            }
            if (pipe[4] > 5) {
                pipe[3]--;
            }
            pipe[3] = Math.min(20, Math.max(0, pipe[3]));
        }
        for (Order order : orders) {
            if (!order.shut() && order.test().of(this)) {
                pipes.get(order.target())[3] = 0;
            }
        }
        for (int chord = 0; chord < chords.size(); chord++) {
            List<Integer> notes = chords.get(chord);
            if (sounds(notes)) {
                chordHours.set(chord, chordHours.get(chord) + 1);
                if (hour % 24 < 6 || hour % 24 > 21) {
                    complaints += notes.size();
                } else {
                    listeners += notes.size();
                }
            }
        }
        hour++;
    }

    // ---- what would be

    int until(int pipe) {
        pipes.get(pipe);
        Reference trial = copy();
        for (int hours = 0; hours <= 150; hours++) {
            if (trial.pipes.get(pipe)[4] > 0) {
                return hours;
            }
            trial.goOn();
        }
        return -1;
    }

    int foresee(int hours, int what) {
        within(hours, 1, 120);
        Reference then = copy().go(hours);
        return in(new int[] {then.listeners - listeners, then.complaints - complaints, then.count(8), then.count(12)}, what);
    }

    int advise(int hours) {
        within(hours, 1, 72);
        int advised = 9;
        int most = Integer.MIN_VALUE;
        for (int wanted = 9; wanted >= 0; wanted--) {
            Reference trial = copy();
            trial.tide = wanted;
            trial.go(hours);
            int gain = trial.listeners - listeners - 2 * trial.complaints + 2 * complaints;
            if (gain >= most) {
                most = gain;
                advised = wanted;
            }
        }
        return advised;
    }

    int best(int hours) {
        within(hours, 1, 72);
        int without = copy().go(hours).listeners;
        int most = without;
        int found = -1;
        for (int pipe = 0; pipe < pipes.size(); pipe++) {
            Reference trial = copy();
            trial.clean(pipe);
            trial.go(hours);
            if (trial.listeners > most) {
                most = trial.listeners;
                found = pipe;
            }
        }
        return found;
    }

    double mean() {
        return pipes.stream().filter(pipe -> pipe[4] > 0).mapToInt(pipe -> pipe[4]).average().orElse(0);
    }

    long digest() {
        List<Integer> row = new ArrayList<>();
        for (int what = 0; what < 14; what++) {
            row.add(count(what));
        }
        for (int cave = 0; cave < caves.size(); cave++) {
            for (int what = 0; what < 5; what++) {
                row.add(cave(cave, what));
            }
        }
        for (int pipe = 0; pipe < pipes.size(); pipe++) {
            for (int what = 0; what < 7; what++) {
                row.add(pipe(pipe, what));
            }
        }
        for (int chord = 0; chord < chords.size(); chord++) {
            for (int what = 0; what < 4; what++) {
                row.add(chord(chord, what));
            }
            row.addAll(chords.get(chord));
        }
        for (int ahead = 0; ahead < 5; ahead++) {
            row.add(heightIn(hour + ahead));
        }
        long d = 827;
        for (int x : row) {
            d = d * 31 + x;
        }
        return d;
    }
}
