import java.util.ArrayList;
import java.util.HashSet;
import java.util.List;
import java.util.Set;
import java.util.regex.Matcher;
import java.util.regex.Pattern;

/**
 * The texts' grammar, tried in all ways at once: each rule answers the set of places where it may end. The first
 * wrong thing is the furthest that any way came to.
 */
final class Grammar {
    private final String text;
    private final List<String> things = new ArrayList<>();
    private final List<Integer> begins = new ArrayList<>();
    private int furthest;

    Grammar(String text) {
        this.text = text;
        Matcher m = Pattern.compile("[a-z]+|[0-9]+|[^ ]", Pattern.DOTALL).matcher(text);
        while (m.find()) {
            things.add(m.group());
            begins.add(m.start());
        }
        things.add("end");
        begins.add(text.length());
    }

    int fault() {
        if (things.size() == 1) {
            return -1;
        }
        Set<Integer> from = Set.of(0);
        for (int i = 0; i < 10; i++) {
            Set<Integer> to = line(from);
            if (to.contains(things.size() - 1)) {
                return -1;
            }
            from = is(to, ";");
        }
        reach(from);
        return begins.get(furthest);
    }

    /** The things of each line of a text that is right. */
    List<List<String>> lines() {
        List<List<String>> lines = new ArrayList<>();
        if (things.size() == 1) {
            return lines;
        }
        lines.add(new ArrayList<>());
        for (String thing : things.subList(0, things.size() - 1)) {
            if (thing.equals(";")) {
                lines.add(new ArrayList<>());
            } else {
                lines.get(lines.size() - 1).add(thing);
            }
        }
        return lines;
    }

    private void reach(Set<Integer> from) {
        for (int i : from) {
            furthest = Math.max(furthest, i);
        }
    }

    private Set<Integer> is(Set<Integer> from, String thing) {
        reach(from);
        Set<Integer> to = new HashSet<>();
        for (int i : from) {
            // a text may hold the word end: the last thing alone is none
            if (i < things.size() - 1 && things.get(i).equals(thing)) {
                to.add(i + 1);
            }
        }
        reach(to);
        return to;
    }

    private Set<Integer> number(Set<Integer> from, int least, int most) {
        reach(from);
        Set<Integer> to = new HashSet<>();
        for (int i : from) {
            String thing = things.get(i);
            if (thing.matches("[0-9]{1,6}") && Integer.parseInt(thing) >= least && Integer.parseInt(thing) <= most) {
                to.add(i + 1);
            }
        }
        reach(to);
        return to;
    }

    private static Set<Integer> or(Set<Integer> a, Set<Integer> b) {
        Set<Integer> both = new HashSet<>(a);
        both.addAll(b);
        return both;
    }

    private Set<Integer> line(Set<Integer> from) {
        Set<Integer> set = or(from, number(is(from, "repeat"), 1, 9));
        Set<Integer> to = sum(is(number(is(set, "set"), 16, 63), "="));
        for (int a = 0; a < 64; a++) {
            Set<Integer> begin = number(is(number(is(from, "sum"), 16, 63), "from"), a, a);
            to = or(to, number(is(begin, "to"), a, 63));
        }
        to = or(to, number(is(number(is(from, "round"), 16, 63), "by"), 1, 9999));
        return or(to, any(is(or(is(from, "ask"), is(from, "stop")), "if"), 0));
    }

    private Set<Integer> any(Set<Integer> from, int deep) {
        Set<Integer> to = all(from, deep);
        Set<Integer> more = is(to, "or");
        return more.isEmpty() ? to : or(to, any(more, deep));
    }

    private Set<Integer> all(Set<Integer> from, int deep) {
        Set<Integer> to = one(from, deep);
        Set<Integer> more = is(to, "and");
        return more.isEmpty() ? to : or(to, all(more, deep));
    }

    private Set<Integer> one(Set<Integer> from, int deep) {
        if (from.isEmpty()) {
            return from;
        }
        reach(from);
        Set<Integer> left = sum(from);
        Set<Integer> to = or(sum(is(left, "<")), sum(is(left, ">")));
        if (deep < 6) {
            to = or(to, one(is(from, "not"), deep + 1));
            to = or(to, is(any(is(from, "("), deep + 1), ")"));
        }
        return to;
    }

    private Set<Integer> sum(Set<Integer> from) {
        Set<Integer> to = part(from);
        Set<Integer> more = or(is(to, "+"), is(to, "-"));
        return more.isEmpty() ? to : or(to, sum(more));
    }

    private Set<Integer> part(Set<Integer> from) {
        return or(atom(from), atom(is(number(from, 0, 999999), "*")));
    }

    private Set<Integer> atom(Set<Integer> from) {
        Set<Integer> named = number(or(is(from, "word"), is(from, "old")), 0, 63);
        return or(or(number(from, 0, 999999), named), or(is(from, "day"), is(from, "weather")));
    }
}
