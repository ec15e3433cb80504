import java.util.ArrayList;
import java.util.HashMap;
import java.util.HashSet;
import java.util.List;
import java.util.Map;
import java.util.Set;

/**
 * The grammar of the document, taken by its own words: it is not a parser, but follows every reading of the
 * tokens at once, so that the first token behind which no reading is left is the one of an error 1.
 * An up and a down are put in where the document says that the depth is 1 greater.
 */
final class Grammar {
    private static final String RULES = """
            list = { line ";" }
            line = "cave" name "mouth" number "deep" number | "pipe" name "in" name "length" number [ "reed" ] | "swell" "high" number "every" number "from" number | "silence" "from" number "to" number | "chord" name "of" name name { name } | "shut" name "when" test | "clean" name [ "when" test ]
            test = both { "or" both }
            both = single { "and" single }
            single = "not" up single down | "[" up test down "]" | "sounds" name | sum ( "<" | ">" | "=" | "<=" | ">=" ) sum
            sum = product { ( "+" | "-" ) product }
            product = value { ( "*" | "/" ) value }
            value = number | "hour" | "tide" | "listeners" | "pressure" name | ( "silt" | "loud" ) name | "-" up value down | "(" up sum down ")" | ( "min" | "max" ) "(" up sum "," sum down ")"
            """;
    static final Set<String> KEYWORDS = Set.of(("cave mouth deep pipe in length reed swell high every from silence to "
            + "chord of shut clean when hour tide pressure silt loud listeners sounds not and or min max").split(" "));

    private interface Node { }

    private record Terminal(String text) implements Node { }

    private record Rule(String name) implements Node { }

    private record Row(List<Node> parts) implements Node { }

    private record Choice(List<Node> ways) implements Node { }

    private record Maybe(Node inside) implements Node { }

    private record Repeat(Node inside) implements Node { }

    /** What is still to come, as a chain; null is the end of the list. */
    private record Rest(Node first, Rest behind) { }

    private record Reading(int depth, Rest rest) { }

    private static final Map<String, Node> GRAMMAR = new HashMap<>();

    static {
        for (String rule : RULES.strip().split("\n")) {
            String[] sides = rule.split(" = ", 2);
            GRAMMAR.put(sides[0], choice(new ArrayList<>(List.of(sides[1].split(" ")))));
        }
    }

    private Grammar() {
    }

    private static Node choice(List<String> words) {
        List<Node> ways = new ArrayList<>();
        List<Node> row = new ArrayList<>();
        while (!words.isEmpty() && !List.of("]", "}", ")").contains(words.get(0))) {
            String word = words.remove(0);
            switch (word) {
                case "|":
                    ways.add(new Row(row));
                    row = new ArrayList<>();
                    break;
                case "[":
                    row.add(new Maybe(choice(words)));
                    words.remove(0);
                    break;
                case "{":
                    row.add(new Repeat(choice(words)));
                    words.remove(0);
                    break;
                case "(":
                    row.add(choice(words));
                    words.remove(0);
                    break;
                default:
                    row.add(word.startsWith("\"") ? new Terminal(word.substring(1, word.length() - 1)) : new Rule(word));
                    break;
            }
        }
        ways.add(new Row(row));
        return new Choice(ways);
    }

    /** Opens a reading till a terminal (or the end of the list) stands first in each that comes of it. */
    private static void open(int depth, Rest rest, Set<Reading> into) {
        if (depth > 8) {
            return;
        }
        if (rest == null || rest.first() instanceof Terminal) {
            into.add(new Reading(depth, rest));
            return;
        }
        Rest behind = rest.behind();
        if (rest.first() instanceof Row row) {
            Rest chain = behind;
            for (int i = row.parts().size() - 1; i >= 0; i--) {
                chain = new Rest(row.parts().get(i), chain);
            }
            open(depth, chain, into);
        } else if (rest.first() instanceof Choice choice) {
            choice.ways().forEach(way -> open(depth, new Rest(way, behind), into));
        } else if (rest.first() instanceof Maybe maybe) {
            open(depth, behind, into);
            open(depth, new Rest(maybe.inside(), behind), into);
        } else if (rest.first() instanceof Repeat repeat) {
            open(depth, behind, into);
            open(depth, new Rest(repeat.inside(), rest), into);
        } else if (rest.first() instanceof Rule rule) {
            switch (rule.name()) {
                case "up" -> open(depth + 1, behind, into);
                case "down" -> open(depth - 1, behind, into);
                case "name", "number" -> into.add(new Reading(depth, new Rest(new Terminal(rule.name()), behind)));
                default -> open(depth, new Rest(GRAMMAR.get(rule.name()), behind), into);
            }
        }
    }

    /** The number of the first token that fits no list; the number of all of them, if only an end is missing; else -1. */
    static int firstWrong(List<String> sorts) {
        // Opening later keeps a ( behind which it would be too deep apart from what stands ahead of it.
        Set<Reading> readings = new HashSet<>();
        open(0, new Rest(new Rule("list"), null), readings);
        for (int i = 0; i < sorts.size(); i++) {
            Set<Reading> next = new HashSet<>();
            for (Reading reading : readings) {
                if (reading.rest() != null && ((Terminal) reading.rest().first()).text().equals(sorts.get(i))) {
                    open(reading.depth(), reading.rest().behind(), next);
                }
            }
            if (next.isEmpty() || i >= 400) {
                return i;
            }
            readings = next;
        }
        return readings.contains(new Reading(0, null)) ? -1 : sorts.size();
    }
}
