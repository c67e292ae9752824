import java.lang.reflect.InvocationTargetException;
import java.lang.reflect.Method;
import java.util.ArrayList;
import java.util.Arrays;
import java.util.EnumSet;
import java.util.HashMap;
import java.util.List;
import java.util.Map;
import java.util.Set;

/**
 * A run of calls, told as text, by which one sentence of the document is held. The run is remembered, so that each call
 * can be made on a new object and on its twin that never hears it: what the document lets the call change may be another
 * on the twin, and nothing else.
 */
final class Run {
    private static final int FOUND = -1000010, FAULTY = -1000100, MOST_CALLS = 512;
    private static final Map<String, Method> METHODS = new HashMap<>();

    static {
        for (Method method : SwanDeeds.class.getDeclaredMethods()) {
            METHODS.put(method.getName(), method);
        }
    }

    private record Call(String text, Method method, Object[] arguments) {
        static Call of(String text) {
            int open = text.indexOf('(');
            String inner = text.substring(open + 1, text.length() - 1);
            Object[] arguments = inner.isEmpty() ? new Object[0]
                : Arrays.stream(inner.split(",")).map(word -> (Object) number(word.strip())).toArray();
            return new Call(text, METHODS.get(text.substring(0, open)), arguments);
        }

        private static int number(String word) {
            return switch (word) {
                case "min" -> Integer.MIN_VALUE;
                case "max" -> Integer.MAX_VALUE;
                default -> Integer.parseInt(word);
            };
        }

        long on(SwanDeeds x) {
            try {
                return ((Number) method.invoke(x, arguments)).longValue();
            } catch (IllegalAccessException | InvocationTargetException e) {
                throw new IllegalStateException("the call threw: " + text, e);
            }
        }

        /** What the document lets it change, where it is neither refused nor found. */
        Set<Look.Part> changes() {
            return switch (method.getName()) {
                case "row", "set", "copy", "drop" -> EnumSet.of(Look.Part.ROWS, Look.Part.STATUS);
                case "who", "which", "as" -> EnumSet.of(Look.Part.STATUS);
                case "feed" -> EnumSet.of(Look.Part.TAPE);
                case "river" -> EnumSet.of(Look.Part.RIVER, Look.Part.ACTS, Look.Part.TAPE);
                case "days", "bread", "weir", "frighten", "weight", "undo", "restore" ->
                    EnumSet.of(Look.Part.RIVER, Look.Part.ACTS);
                case "image" -> EnumSet.of(Look.Part.IMAGES);
                case "ask" -> EnumSet.of(Look.Part.TRACE);
                default -> EnumSet.noneOf(Look.Part.class);
            };
        }
    }

    private final Due due;
    private final String sentence;
    private final List<Call> calls = new ArrayList<>();
    private Look twin;
    private int twinCalls;

    Run(Due due, String sentence) {
        this.due = due;
        this.sentence = sentence;
    }

    // ---- how it begins

    /** Calls whose answers are nothing to the sentence. */
    Run after(String... texts) {
        for (String text : texts) {
            calls.add(Call.of(text));
        }
        return this;
    }

    Run feed(String text) {
        for (char letter : text.toCharArray()) {
            after("feed(" + (int) letter + ")");
        }
        return this;
    }

    Run tell(String text) {
        return feed(text).after("river()");
    }

    Run row(int row, int lane, int... items) {
        after("row(" + row + ", " + lane + ", " + items.length + ")");
        for (int i = 0; i < items.length; i++) {
            after("set(" + row + ", " + i + ", " + items[i] + ")");
        }
        return this;
    }

    Run crumbs(int lawn, int n) {
        for (int left = n; left > 0; left -= 9) {
            after("bread(" + lawn + ", " + Math.min(9, left) + ")");
        }
        return this;
    }

    private Run rows() {
        row(0, 0, 1, 2, 3, 4).row(1, 1, 5, 6, 7).row(2, 2, 5, 0, 1, 2, 3).row(5, 2).row(7, 2, 4, 4);
        return after("copy(0, 0, 1, 0, 1)");
    }

    /** Five lawns and six swans, with something of all that an object can keep, but for the tape. */
    Run settled() {
        tell("r1,0;").tell("r4,2;b0,3,2;").after("image(1)");
        tell("r5,1;p2,0,4;c1,1,5;y3,2,3;o4,3,2;b0,4,6;c3,4,7;");
        after("weir(3, 1)", "image(0)", "bread(1, 9)", "days(2)", "weight(1, 8)");
        return rows().after("ask(4, 1)");
    }

    /** That, and a tape that is half a river. */
    Run rich() {
        return settled().feed("r2,3;p1,");
    }

    /** Rows, a tape and a fault, but no river. */
    Run riverless() {
        return tell("r1,0;").rows().feed("r2,3;p1,");
    }

    /** On the last day: a tape, a lawn and acts to which nothing can come any more. */
    Run full() {
        tell("r1,0;").tell("r2,0;o1,0,1;").row(0, 0, 1, 2).after("image(1)");
        for (int i = 0; i < 41; i++) {
            after("days(24)");
        }
        after("days(15)").crumbs(1, 99);
        return after("ask(0, 1)", "as(0, 2)").feed("r".repeat(100));
    }

    // ---- what is due

    /** The answer, and that nothing changes but what the document says. */
    Run due(String text, long answer) {
        Call call = Call.of(text);
        Set<Look.Part> changes = call.changes();
        hear(call, answer, changes);
        if (changes.contains(Look.Part.STATUS)) {
            SwanDeeds x = again();
            call.on(x);
            is("status() behind " + text, x.status(), 0);
        }
        calls.add(call);
        return this;
    }

    /** Whatever the answer, so long as it is no refusal: nothing changes but what the document says. */
    Run taken(String text) {
        Call call = Call.of(text);
        long answer = call.on(again());
        is(text + " is refused, or found", answer >= FOUND - 5 && answer < SwanDeeds.NONE ? 1 : 0, 0);
        hear(call, answer, call.changes());
        calls.add(call);
        return this;
    }

    /** BAD, STATE, FULL, or a finding: nothing changes but, by a finding, the status. */
    Run refused(String text, long answer) {
        Call call = Call.of(text);
        int finding = (int) (FOUND - answer);
        boolean found = finding >= 1 && finding <= 5;
        hear(call, answer, found ? EnumSet.of(Look.Part.STATUS) : EnumSet.noneOf(Look.Part.class));
        if (found) {
            SwanDeeds x = again();
            call.on(x);
            is("status() behind " + text, x.status(), finding);
        }
        return this;
    }

    /** The tape is read to a fault: all but the tape, and what fault() tells, stays. */
    Run faulty(int place, int number) {
        Call call = Call.of("river()");
        hear(call, FAULTY - place, EnumSet.of(Look.Part.TAPE, Look.Part.FAULT));
        SwanDeeds x = again();
        call.on(x);
        is("fault()", x.fault(), number);
        is("count(7)", x.count(7), 0);
        calls.add(call);
        return this;
    }

    /** Of each number the ends are no reason to refuse, and what is just, or far, beyond them is BAD. */
    Run bounded(String name, int[]... ranges) {
        for (int k = 0; k < ranges.length; k++) {
            int[] range = ranges[k];
            for (int v : new int[] {range[0], range[1]}) {
                String text = text(name, ranges, k, v);
                is(text + " is BAD", Call.of(text).on(again()) == SwanDeeds.BAD ? 1 : 0, 0);
            }
            for (int v : new int[] {range[0] - 1, range[1] + 1, Integer.MIN_VALUE, Integer.MAX_VALUE}) {
                refused(text(name, ranges, k, v), SwanDeeds.BAD);
            }
        }
        return this;
    }

    /** The least and the most that a number may be. */
    static int[] to(int least, int most) {
        return new int[] {least, most};
    }

    private static String text(String name, int[][] ranges, int k, int v) {
        StringBuilder text = new StringBuilder(name).append('(');
        for (int i = 0; i < ranges.length; i++) {
            text.append(i > 0 ? ", " : "").append(i == k ? v : ranges[i][0]);
        }
        return text.append(')').toString();
    }

    /** What lies in a row, from its first place to its last, each from 0 to 7. */
    Run holds(int row, int... items) {
        SwanDeeds x = again();
        x.river();
        Due.tell(x, "r9,0;o8,0,1;");
        for (int i = 0; i < items.length; i++) {
            is("item " + i + " of row " + row, x.who(0, 1, 0, row, i, 1), items[i] == 0 ? 3 : 1 << items[i] + 1);
        }
        is("how many items row " + row + " has", x.drop(row), items.length);
        return this;
    }

    Run places(int... lawns) {
        SwanDeeds x = again();
        for (int swan = 0; swan < lawns.length; swan++) {
            is("where swan " + swan + " is", x.swan(swan, 0), lawns[swan]);
        }
        return this;
    }

    Run goals(int... lawns) {
        SwanDeeds x = again();
        for (int swan = 0; swan < lawns.length; swan++) {
            is("to where swan " + swan + " would swim", x.swan(swan, 3), lawns[swan]);
        }
        return this;
    }

    Run breadLies(int... crumbs) {
        SwanDeeds x = again();
        for (int lawn = 0; lawn < crumbs.length; lawn++) {
            is("crumbs on lawn " + lawn, x.lawn(lawn, 0), crumbs[lawn]);
        }
        return this;
    }

    // ---- how it is held

    private void is(String call, long got, long want) {
        due.is("\"" + sentence + "\" " + call, got, want);
    }

    private SwanDeeds again() {
        SwanDeeds x = new SwanDeeds();
        for (Call call : calls) {
            call.on(x);
        }
        return x;
    }

    private void hear(Call call, long answer, Set<Look.Part> changes) {
        is(call.text(), call.on(again()), answer);
        Look look = Look.at(() -> {
            SwanDeeds heard = again();
            call.on(heard);
            return heard;
        });
        if (twin == null || twinCalls != calls.size()) {
            twin = Look.at(this::again);
            twinCalls = calls.size();
        }
        for (Look.Part part : Look.Part.values()) {
            if (!changes.contains(part)) {
                is(part + " is another behind " + call.text(), look.of(part).equals(twin.of(part)) ? 0 : 1, 0);
            }
        }
        if (calls.size() + 1 + Math.max(look.calls(), twin.calls()) > MOST_CALLS) {
            throw new IllegalStateException("a run is longer than an object is good for: " + sentence);
        }
    }
}
