import java.util.Random;

/** Long runs of calls with fixed seeds: each answer is the one of the model. */
public final class ModelTest {
    private static final int RUNS = 400;

    public static void main(String[] args) {
        Check.sentence("promises 1 to 9");
        for (int seed = 0; seed < RUNS; seed++) {
            new ModelTest(seed).run();
        }
        Check.end();
    }

    private final int seed;
    private final Random random;
    private final Counted x = new Counted();
    private final Model model = new Model();

    private ModelTest(int seed) {
        this.seed = seed;
        this.random = new Random(seed);
    }

    private void run() {
        // A long run is all changes; a short one leaves calls to read what has become of the COPIES.
        int end = seed % 20 == 0 ? 0 : Counted.LIFE - 120;
        // Runs with few merges let the COPIES drift apart.
        int mergeShare = 1 + seed % 12;
        while (x.callsLeft() > end) {
            if (random.nextInt(60) < mergeShare) {
                merge(copy(), copy());
            } else {
                oneCall();
            }
        }
        for (int c = 0; c < 4; c++) {
            readAll(c);
        }
    }

    private void oneCall() {
        int c = copy();
        int length = c < 0 || c > 3 ? 0 : model.length(c);
        switch (random.nextInt(12)) {
            case 0, 1, 2, 3 -> insert(c, near(length), random.nextInt(30) == 0 ? near(255) : random.nextInt(256));
            case 4, 5 -> remove(c, near(length));
            case 6, 7, 8 -> bringNext(c, copy());
            case 9 -> same("letter", c, near(length));
            case 10 -> same("name", c, near(length));
            default -> same(random.nextBoolean() ? "has" : "length", c, copy());
        }
    }

    private int copy() {
        return random.nextInt(40) == 0 ? random.nextInt(8) - 2 : random.nextInt(4);
    }

    private int near(int last) {
        return random.nextInt(last + 3) - 1;
    }

    private void bringNext(int from, int to) {
        // Mostly the CHANGE that is due next, so that many do come.
        int next = Math.max(0, model.has(to, from));
        bring(from, random.nextInt(3) > 0 ? next : next + random.nextInt(5) - 2, to);
    }

    private void insert(int c, int at, int letter) {
        int got = answer(() -> x.insert(c, at, letter));
        due("insert(" + c + ", " + at + ", " + letter + ")", got, model.insert(c, at, letter));
    }

    private void remove(int c, int at) {
        due("remove(" + c + ", " + at + ")", answer(() -> x.remove(c, at)), model.remove(c, at));
    }

    private void bring(int from, int k, int to) {
        int got = answer(() -> {
            x.bring(from, k, to);
            return 0;
        });
        due("bring(" + from + ", " + k + ", " + to + ")", got, model.bring(from, k, to));
    }

    private void merge(int from, int to) {
        due("merge(" + from + ", " + to + ")", answer(() -> x.merge(from, to)), model.merge(from, to));
    }

    private void same(String call, int c, int second) {
        String told = call + "(" + c + ", " + second + ")";
        switch (call) {
            case "letter" -> due(told, answer(() -> x.letter(c, second)), model.letter(c, second));
            case "name" -> due(told, answer(() -> x.name(c, second)), model.name(c, second));
            case "has" -> due(told, answer(() -> x.has(c, second)), model.has(c, second));
            default -> due(told, answer(() -> x.length(c)), model.length(c));
        }
    }

    private void readAll(int c) {
        int length = model.length(c);
        for (int of = 0; of < 4 && x.callsLeft() > 0; of++) {
            same("has", c, of);
        }
        for (int at = 0; at <= length && x.callsLeft() > 1; at++) {
            same("letter", c, at);
            same("name", c, at);
        }
    }

    private interface Answer {
        int get();
    }

    private int answer(Answer call) {
        try {
            return call.get();
        } catch (IllegalArgumentException e) {
            return Model.BAD;
        } catch (IllegalStateException e) {
            return Model.REFUSED;
        }
    }

    private void due(String call, int got, int want) {
        Check.due("seed " + seed + ": " + call + " (" + Model.BAD + " bad, " + Model.REFUSED + " refused)", got, want);
    }
}
