import java.io.IOException;
import java.lang.reflect.InvocationTargetException;
import java.lang.reflect.Method;
import java.nio.file.Files;
import java.nio.file.Path;
import java.util.ArrayList;
import java.util.Arrays;
import java.util.HashMap;
import java.util.HashSet;
import java.util.List;
import java.util.Map;
import java.util.Set;

/**
 * Runs of calls on new objects, told as texts, each answer held against the one that is due.
 *
 * <p>Calls stand between ';'. A row is a call with its answer: 'tank 100 0 = 0', or 'tank 101 0 ! OUTSIDE', where
 * '!' says that the call must leave everything as it was: all that can be read, and all that later calls do, is
 * held against a twin that was not asked. Of a call that names FAULTS fault() must tell what its answer says (for
 * at(), a word behind the answer: 'at 0 3 0 ! LOST INDEX'); any other call must leave fault() alone.
 */
final class Runs {
    private static final Path DOCUMENT = Path.of("../shared/DOC.md");
    private static final int MOST_CALLS = 512;
    private static final Map<String, Long> WORDS = Map.ofEntries(Map.entry("UNKNOWN", -1L),
            Map.entry("OUTSIDE", -2L), Map.entry("STATE", -3L), Map.entry("FULL", -4L), Map.entry("NONE", -9L),
            Map.entry("NULL", -11L), Map.entry("CAST", -12L), Map.entry("INDEX", -13L), Map.entry("SIZE", -14L),
            Map.entry("LOST", Long.MIN_VALUE), Map.entry("MIN", (long) Integer.MIN_VALUE),
            Map.entry("MAX", (long) Integer.MAX_VALUE));
    private static final Set<String> NAME_FAULTS = Set.of("load", "sheet", "put", "at", "as");
    private static final Ask LEAVE_A_FAULT = Ask.of("sheet 0 0 -1");
    private static final int FAULT_LEFT = 4;

    private final String document;
    private final Set<String> sentences = new HashSet<>();
    private final Map<String, long[]> readBefore = new HashMap<>();
    private String sentence = "";
    private int runsOfSentence;
    private int checks;
    private int wrong;

    Runs() throws IOException {
        document = fold(Files.readString(DOCUMENT));
    }

    private static String fold(String text) {
        return text.replaceAll("\\s+", " ").trim();
    }

    /** Begins the test of a sentence, which must stand in the document to the letter. */
    void sentence(String words) {
        end();
        sentence = words;
        runsOfSentence = 0;
        check("does not stand in the document", document.contains(fold(words)));
        check("has a test already", sentences.add(words));
    }

    private void end() {
        check("has no test", runsOfSentence > 0 || sentences.isEmpty());
    }

    /** Holds that each promise of the document has a sentence that was tested. */
    void checkEveryPromise(int promises) {
        for (int n = 1; n <= promises; n++) {
            int from = document.indexOf("## Promise " + n + ":");
            check("there is no promise " + n, from >= 0);
            String section = document.substring(Math.max(0, from), document.indexOf("## ", from + 3));
            check("promise " + n + " has no test", sentences.stream().anyMatch(s -> section.contains(fold(s))));
        }
    }

    /** Tells what was found, and ends the program with 1 if an answer was wrong. */
    void close() {
        end();
        System.out.println(sentences.size() + " sentences, " + checks + " checks, " + wrong + " wrong");
        if (wrong != 0) {
            System.exit(1);
        }
    }

    void check(String what, boolean holds) {
        checks++;
        if (!holds) {
            wrong++;
            System.out.println("'" + sentence + "': " + what);
        }
    }

    /** The same text so many times, with its turn, from 0 on, in the place of each #. */
    static String times(int howMany, String text) {
        List<String> all = new ArrayList<>();
        for (int i = 0; i < howMany; i++) {
            all.add(text.replace("#", Integer.toString(i)));
        }
        return String.join("; ", all);
    }

    /** One run: the calls ahead, none of which may be refused, and then the rows. */
    void rows(String ahead, String... rows) {
        runsOfSentence++;
        List<Ask> asked = parse(ahead);
        TankField field = new TankField();
        for (Ask ask : asked) {
            long got = ask.on(field);
            check(ask + " ahead of the rows answered " + got, got >= 0);
        }
        for (String row : split(String.join("; ", rows))) {
            oneRow(field, asked, row);
        }
        check("a run has " + asked.size() + " calls", asked.size() <= MOST_CALLS);
    }

    /** A call that must change nothing, with each of the values in the place of its *, each behind the same calls. */
    void each(String ahead, String call, String answer, String values) {
        for (String value : values.split(" ")) {
            rows(ahead, call.replace("*", value) + " ! " + answer);
        }
    }

    private void oneRow(TankField field, List<Ask> asked, String row) {
        int sign = Math.max(row.indexOf(" = "), row.indexOf(" ! "));
        if (sign < 0) {
            check("no row: " + row, false);
            return;
        }
        Ask ask = Ask.of(row.substring(0, sign));
        String[] due = row.substring(sign + 3).trim().split(" ");
        long got = ask.on(field);
        check(ask + " answered " + got + ", due is " + String.join(" ", due) + tell(asked), got == number(due[0]));
        if (row.charAt(sign + 1) == '!') {
            leavesAll(asked, ask);
            check("fault() behind " + ask + tell(asked), faultBehind(asked, ask) == faultDue(ask, due));
        }
        asked.add(ask);
    }

    private static int faultDue(Ask ask, String[] due) {
        if (!NAME_FAULTS.contains(ask.name)) {
            return FAULT_LEFT;
        }
        long last = number(due[due.length - 1]);
        return last <= -11 && last >= -14 ? (int) (-10 - last) : 0;
    }

    private static long faultBehind(List<Ask> asked, Ask ask) {
        TankField field = made(asked);
        LEAVE_A_FAULT.on(field);
        ask.on(field);
        return field.fault();
    }

    private void leavesAll(List<Ask> asked, Ask ask) {
        List<Ask> readings = readings(made(asked));
        long[] without = readBefore.computeIfAbsent(asked.toString(), key -> read(asked, readings));
        List<Ask> more = new ArrayList<>(asked);
        more.add(ask);
        long[] with = read(more, readings);
        int differs = Arrays.mismatch(without, with);
        check(ask + " changed something, see reading " + differs + tell(asked), differs < 0);
    }

    private static TankField made(List<Ask> asked) {
        TankField field = new TankField();
        for (Ask ask : asked) {
            ask.on(field);
        }
        return field;
    }

    /** The answers, over as many new objects as are needed for none to be asked more than it has to answer. */
    private static long[] read(List<Ask> asked, List<Ask> readings) {
        List<Long> answers = new ArrayList<>();
        TankField field = null;
        int calls = MOST_CALLS;
        for (Ask reading : readings) {
            if (calls + 2 > MOST_CALLS) {
                field = made(asked);
                calls = asked.size();
            }
            answers.add(reading.on(field));
            // Of at() the answer alone would not tell a row of another LANE from nothing.
            answers.add(reading.name.equals("at") ? field.fault() : 0L);
            calls += 2;
        }
        for (List<Ask> further : List.of(FURTHER_AS_IT_IS, FURTHER_CHANGED)) {
            field = made(asked);
            for (int i = 0; i < further.size() && asked.size() + i < MOST_CALLS; i++) {
                answers.add(further.get(i).on(field));
            }
        }
        return answers.stream().mapToLong(Long::longValue).toArray();
    }

    private static List<Ask> readings(TankField field) {
        List<String> all = new ArrayList<>();
        all.add("trace");
        all.add(times(10, "told #"));
        for (int t = 0; t <= field.told(0); t++) {
            all.add(times(5, "about " + t + " #"));
        }
        all.add(times(3, "without #"));
        for (int h = 0; h <= field.told(1); h++) {
            all.add(times(7, "struck " + h + " #"));
        }
        all.add("exposure 0 20001; exposure 0 1000; exposure 999 5000; exposure 20000 20001");
        for (int e = 0; e <= Math.min(field.told(2), 12); e++) {
            all.add(readingsOfEvent(e, Math.max(0, field.event(e, 0))));
        }
        all.add("others");
        for (int k = 0; k < 4; k++) {
            for (int lane = 0; lane < 3; lane++) {
                all.add(times(41, "at " + k + " # " + lane));
            }
        }
        return parse(String.join("; ", all));
    }

    private static String readingsOfEvent(int e, int members) {
        return String.join("; ", times(5, "event " + e + " #"), times(members + 1, "member " + e + " #"),
                times(4, "front " + e + " #"), times(members + 1, "error " + e + " #"), times(3, "core " + e + " #"),
                "worst " + e, "isOther " + e);
    }

    private static final String FURTHER_EVENTS = String.join("; ", "build", "told 2", "others",
            readingsOfEvent(0, 5), readingsOfEvent(1, 4), readingsOfEvent(2, 3), "tell 0", "weigh 1", "trace");
    private static final List<Ask> FURTHER_AS_IT_IS = parse(FURTHER_EVENTS);
    private static final List<Ask> FURTHER_CHANGED = parse("tank 1 1; hit 0 1500 30 -1; hit 1 1501 255 9;"
            + "clock 0 0 3; down 1 700 701; put 0 0 7; load 1 1 0 1; rule 0 99; rule 1 60; rule 2 1; rule 3 0;"
            + FURTHER_EVENTS);

    private static String tell(List<Ask> asked) {
        List<String> last = new ArrayList<>();
        for (Ask ask : asked.subList(Math.max(0, asked.size() - 30), asked.size())) {
            last.add(ask.toString());
        }
        return " (behind " + asked.size() + " calls: " + String.join("; ", last) + ")";
    }

    private static List<String> split(String text) {
        List<String> parts = new ArrayList<>();
        for (String part : text.split(";")) {
            if (!part.isBlank()) {
                parts.add(fold(part));
            }
        }
        return parts;
    }

    private static List<Ask> parse(String text) {
        List<Ask> asks = new ArrayList<>();
        for (String part : split(text)) {
            asks.add(Ask.of(part));
        }
        return asks;
    }

    private static long number(String word) {
        Long known = WORDS.get(word);
        return known != null ? known : Long.parseLong(word);
    }

    /** One call, with its arguments. */
    private static final class Ask {
        private static final Map<String, Method> METHODS = new HashMap<>();

        static {
            for (Method m : TankField.class.getDeclaredMethods()) {
                if (java.lang.reflect.Modifier.isPublic(m.getModifiers())) {
                    METHODS.put(m.getName(), m);
                }
            }
        }

        private final String name;
        private final Object[] arguments;
        private final Method method;

        private Ask(String[] words) {
            name = words[0];
            method = METHODS.get(name);
            arguments = new Object[words.length - 1];
            for (int i = 0; i < arguments.length; i++) {
                arguments[i] = (int) number(words[i + 1]);
            }
            if (method == null || method.getParameterCount() != arguments.length) {
                throw new IllegalStateException("no call: " + String.join(" ", words));
            }
        }

        static Ask of(String text) {
            return new Ask(fold(text).split(" "));
        }

        long on(TankField field) {
            try {
                return ((Number) method.invoke(field, arguments)).longValue();
            } catch (InvocationTargetException | IllegalAccessException e) {
                throw new IllegalStateException(this + " has thrown", e.getCause());
            }
        }

        @Override
        public String toString() {
            StringBuilder text = new StringBuilder(name);
            for (Object argument : arguments) {
                text.append(' ').append(argument);
            }
            return text.toString();
        }
    }
}
