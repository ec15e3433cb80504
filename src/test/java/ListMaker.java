import java.util.ArrayList;
import java.util.List;
import java.util.Random;

/** Makes lists to teach: mostly right ones, and ones with some fault in them. */
final class ListMaker {
    private static final String[] NAMES = {"a", "b", "c", "d", "e", "p", "q", "r", "a1", "p0", "ab", "abcdefghij",
        "abcdefghik", "caves", "no", "x9", "minx", "z", "y", "w", "v", "u"};
    private static final String[] PIECES = {"cave", "mouth", "deep", "pipe", "in", "length", "reed", "swell", "high", "every",
        "from", "silence", "to", "chord", "of", "shut", "clean", "when", "hour", "tide", "pressure", "silt", "loud", "listeners",
        "sounds", "not", "and", "or", "min", "max", "(", ")", "[", "]", ";", ",", "+", "-", "*", "/", "<", ">", "=", "<=", ">=",
        "a", "p", "none", "0", "1", "41", "999999", "1000000", "abcdefghijk", "!", "A", "\t", "\0", "\u00e9", "\r"};

    private final Random random;
    private final boolean tidy;
    /** The error that an untidy list is to have; not each has it. */
    private final int fault;
    private final StringBuilder list = new StringBuilder();
    private final List<String> caves = new ArrayList<>();
    private final List<String> pipes = new ArrayList<>();
    private final List<String> chords = new ArrayList<>();

    /** A tidy list is one without an error; another can have errors 2 to 5. */
    private ListMaker(Random random, boolean tidy) {
        this.random = random;
        this.tidy = tidy;
        this.fault = tidy ? 0 : 2 + random.nextInt(4);
    }

    static String tidy(Random random) {
        return new ListMaker(random, true).make();
    }

    static String untidy(Random random) {
        return new ListMaker(random, false).make();
    }

    /** A list of which some token or byte is changed. */
    static String torn(Random random) {
        StringBuilder text = new StringBuilder(random.nextBoolean() ? tidy(random) : untidy(random));
        for (int times = 1 + random.nextInt(2); times > 0 && text.length() > 0; times--) {
            int at = random.nextInt(text.length());
            String piece = PIECES[random.nextInt(PIECES.length)];
            switch (random.nextInt(5)) {
                case 0 -> text.insert(at, " " + piece + " ");
                case 1 -> text.insert(at, piece);
                case 2 -> text.replace(at, Math.min(text.length(), at + 1 + random.nextInt(6)), piece);
                case 3 -> text.delete(at, Math.min(text.length(), at + 1 + random.nextInt(9)));
                default -> text.setLength(at);
            }
        }
        return text.toString();
    }

    private String make() {
        for (int i = 1 + random.nextInt(tidy ? 5 : 3); i > 0; i--) {
            cave();
        }
        for (int i = 1 + random.nextInt(tidy ? 9 : 4); i > 0; i--) {
            pipe();
        }
        boolean crowded = fault == 4;
        int lines = crowded ? 20 + random.nextInt(40) : random.nextInt(20);
        for (int i = 0; i < lines && list.length() < 1500; i++) {
            switch (random.nextInt(crowded ? 9 : 12)) {
                case 0, 1 -> chord();
                case 2 -> swell();
                case 3 -> silenceAtTimes();
                case 4, 5 -> shut();
                case 6, 7 -> clean();
                case 8 -> cave();
                default -> pipe();
            }
        }
        return list.toString();
    }

    private int orders;
    private int swells;
    private int silences;

    private boolean slip(int error) {
        return error == fault && random.nextInt(5) == 0;
    }

    private void say(String word) {
        char last = list.length() == 0 ? ';' : list.charAt(list.length() - 1);
        boolean apart = Character.isLetterOrDigit(last) && Character.isLetterOrDigit(word.charAt(0));
        if (apart || random.nextInt(4) == 0 || (last == '<' || last == '>') && word.startsWith("=")) {
            list.append(random.nextInt(12) == 0 ? "\n" : random.nextInt(12) == 0 ? "  \n " : " ");
        }
        list.append(word);
    }

    private void number(int least, int most) {
        int number = slip(5) ? (random.nextBoolean() ? most + 1 : Math.max(0, least - 1)) : least + random.nextInt(most - least + 1);
        say((random.nextInt(9) == 0 ? "00" : "") + number);
    }

    private void newName(List<String> told) {
        String name = NAMES[random.nextInt(NAMES.length)];
        while (told.contains(name) && !slip(2)) {
            name = NAMES[random.nextInt(NAMES.length)];
        }
        told.add(name);
        say(name);
    }

    private void told(List<String> names) {
        say(slip(3) ? NAMES[random.nextInt(NAMES.length)] : names.get(random.nextInt(names.size())));
    }

    private void cave() {
        if (caves.size() >= 5 && !slip(4)) {
            return;
        }
        say("cave");
        newName(caves);
        say("mouth");
        number(1, 9);
        say("deep");
        number(1, 9);
        say(";");
    }

    private void pipe() {
        if (pipes.size() >= 12 && !slip(4)) {
            return;
        }
        say("pipe");
        newName(pipes);
        say("in");
        told(caves);
        say("length");
        number(1, 40);
        if (random.nextInt(3) == 0) {
            say("reed");
        }
        say(";");
    }

    private void chord() {
        if (pipes.size() < 2 || chords.size() >= 6 && !slip(4)) {
            return;
        }
        say("chord");
        newName(chords);
        say("of");
        int size = slip(4) ? 7 : Math.min(2 + random.nextInt(5), pipes.size());
        List<String> notes = new ArrayList<>(pipes);
        java.util.Collections.shuffle(notes, random);
        for (int i = 0; i < size; i++) {
            say(slip(5) ? notes.get(0) : notes.get(i % notes.size()));
        }
        say(";");
    }

    private void swell() {
        if (++swells > 5 && !slip(4)) {
            return;
        }
        say("swell");
        say("high");
        number(1, 30);
        say("every");
        number(1, 24);
        say("from");
        number(0, 99);
        say(";");
    }

    private void silenceAtTimes() {
        if (crowdedOrSeldom()) {
            silence();
        }
    }

    private boolean crowdedOrSeldom() {
        return fault == 4 || random.nextInt(3) == 0;
    }

    private void silence() {
        if (++silences > 3 && !slip(4)) {
            return;
        }
        int from = random.nextInt(24);
        say("silence");
        say("from");
        say("" + (slip(5) ? 24 : from));
        say("to");
        say("" + (slip(5) ? 24 : random.nextInt(9) == 0 ? from : (from + 1 + random.nextInt(8)) % 24));
        say(";");
    }

    private void shut() {
        if (++orders > 16 && !slip(4)) {
            return;
        }
        say("shut");
        told(caves);
        say("when");
        test(fault == 4 ? 0 : random.nextInt(4), 0);
        say(";");
    }

    private void clean() {
        if (++orders > 16 && !slip(4)) {
            return;
        }
        say("clean");
        told(pipes);
        if (random.nextInt(5) > 0) {
            say("when");
            test(fault == 4 ? 0 : random.nextInt(4), 0);
        }
        say(";");
    }

    /** How deep it may go: tidy lists keep below 9. */
    private boolean tooDeep(int depth) {
        return depth >= 8 && (tidy || random.nextInt(4) > 0) || list.length() > 1500;
    }

    private void test(int joins, int depth) {
        for (int i = joins; i >= 0; i--) {
            single(depth);
            if (i > 0) {
                say(random.nextBoolean() ? "and" : "or");
            }
        }
    }

    private void single(int depth) {
        int way = tooDeep(depth) ? 2 + random.nextInt(6) : random.nextInt(8);
        if (way == 0) {
            say("not");
            single(depth + 1);
        } else if (way == 1) {
            say("[");
            test(random.nextInt(3), depth + 1);
            say("]");
        } else if (way == 2) {
            say("sounds");
            told(pipes);
        } else {
            sum(depth, random.nextInt(3));
            say(new String[] {"<", ">", "=", "<=", ">="}[random.nextInt(5)]);
            sum(depth, random.nextInt(3));
        }
    }

    private void sum(int depth, int joins) {
        for (int i = joins; i >= 0; i--) {
            value(depth);
            if (i > 0) {
                say(new String[] {"+", "-", "*", "/"}[random.nextInt(4)]);
            }
        }
    }

    private void value(int depth) {
        int way = tooDeep(depth) ? 6 + random.nextInt(8) : random.nextInt(14);
        if (way < 3) {
            say("-");
            value(depth + 1);
        } else if (way < 5) {
            say("(");
            sum(depth + 1, random.nextInt(3));
            say(")");
        } else if (way == 5) {
            say(random.nextBoolean() ? "min" : "max");
            say("(");
            sum(depth + 1, random.nextInt(2));
            say(",");
            sum(depth + 1, random.nextInt(2));
            say(")");
        } else if (way < 9) {
            say(new String[] {"pressure", "silt", "loud"}[way - 6]);
            told(way == 6 ? caves : pipes);
        } else if (way < 12) {
            say(new String[] {"hour", "tide", "listeners"}[way - 9]);
        } else {
            say("" + (random.nextInt(6) == 0 ? random.nextInt(1000000) : random.nextInt(30)));
        }
    }
}
