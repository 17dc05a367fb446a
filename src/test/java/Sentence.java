import java.util.ArrayList;
import java.util.List;

/**
 * One sentence of the document as a run of calls on a new object, a row each:
 * {@code [n x] call argument .. [= answer | ! exception]}. A row without an answer may give any, but may not throw.
 */
final class Sentence {
    private final String words;
    private final List<String> rows = new ArrayList<>();

    private Sentence(String words) {
        this.words = words;
    }

    /** Rows end with a line's end or with a semicolon. */
    static void holds(String words, String run) {
        Sentence sentence = new Sentence(words);
        for (String row : run.split("[;\n]")) {
            sentence.add(row.strip());
        }
        sentence.check();
    }

    private void add(String row) {
        if (row.isEmpty()) {
            return;
        }
        String[] parts = row.split(" x ");
        int times = parts.length == 2 ? Integer.parseInt(parts[0]) : 1;
        for (int i = 0; i < times; i++) {
            rows.add(parts[parts.length - 1]);
        }
    }

    private void check() {
        TrainGuard x = new TrainGuard();
        for (int i = 0; i < rows.size(); i++) {
            checkRow(x, i);
        }
    }

    private void checkRow(TrainGuard x, int i) {
        String row = rows.get(i);
        String what = words + ": row " + (i + 1) + ", " + row;
        String got = Check.answer(() -> call(x, row));
        if (row.contains(" = ")) {
            Check.dueText(what, got, asDouble(after(row, " = ")));
        } else if (row.contains(" ! ")) {
            Check.dueText(what, got, after(row, " ! "));
            if (!mayChange(row)) {
                TrainGuard refused = madeBefore(i);
                Check.answer(() -> call(refused, row));
                Check.dueText(what + ": what is left", Probe.trace(refused), Probe.trace(madeBefore(i)));
            }
        } else {
            Check.dueText(what, got.endsWith("Exception") ? got : "an answer", "an answer");
        }
    }

    /** An object that was given the rows before this one, but for those that must not change it. */
    private TrainGuard madeBefore(int end) {
        TrainGuard x = new TrainGuard();
        for (String row : rows.subList(0, end)) {
            if (!row.contains(" ! ") || mayChange(row)) {
                Check.answer(() -> call(x, row));
            }
        }
        return x;
    }

    /** Only a message that is forged or not safe is gone with its exception. */
    private static boolean mayChange(String row) {
        return row.startsWith("take") && row.endsWith("! UnsupportedOperationException");
    }

    private static String after(String row, String sign) {
        return row.substring(row.indexOf(sign) + sign.length()).strip();
    }

    private static String asDouble(String number) {
        return String.valueOf(Double.parseDouble(number));
    }

    private static Object call(TrainGuard x, String row) {
        String[] w = row.split(" +");
        return switch (w[0]) {
            case "section" -> (double) x.section(real(w[1]), real(w[2]));
            case "restrict" -> (double) x.restrict(real(w[1]), real(w[2]), real(w[3]));
            case "release" -> (double) x.release(whole(w[1]));
            case "train" -> (double) x.train(whole(w[1]), real(w[2]), real(w[3]));
            case "start" -> (double) x.start(whole(w[1]));
            case "ask" -> (double) x.ask(whole(w[1]), whole(w[2]));
            case "stop" -> (double) x.stop(whole(w[1]));
            case "take" -> (double) x.take(whole(w[1]), whole(w[2]));
            case "second" -> (double) x.second(whole(w[1]), real(w[2]), whole(w[3]));
            case "wet" -> (double) x.wet(whole(w[1]), Boolean.parseBoolean(w[2]));
            case "acknowledge" -> (double) x.acknowledge(whole(w[1]));
            case "end" -> (double) x.end(whole(w[1]));
            case "of" -> x.of(whole(w[1]), whole(w[2]));
            case "limit" -> x.limit(real(w[1]));
            case "mode" -> (double) x.mode(whole(w[1]));
            case "holds" -> (double) x.holds(whole(w[1]), whole(w[2]));
            case "count" -> (double) x.count(whole(w[1]));
            default -> throw new AssertionError("no such call: " + row);
        };
    }

    private static int whole(String word) {
        return switch (word) {
            case "LEAST" -> Integer.MIN_VALUE;
            case "GREATEST" -> Integer.MAX_VALUE;
            default -> Integer.parseInt(word);
        };
    }

    private static double real(String word) {
        return Double.parseDouble(word);
    }
}
