import java.util.ArrayList;
import java.util.LinkedHashSet;
import java.util.List;
import java.util.Set;

/** The document's terms word by word, without a thought for room or speed: each COPY is a set of CHANGES. */
final class Model {
    static final int BAD = -1000;
    static final int REFUSED = -2000;

    /** A LETTER made (taken is null), or a LETTER taken away. */
    private static final class Change {
        int copy;
        int number;
        Set<Change> had;
        Change taken;
        int letter;
        int n;
        Change behind;

        boolean greaterThan(Change other) {
            return n > other.n || n == other.n && copy > other.copy;
        }
    }

    private final List<Set<Change>> copies = new ArrayList<>();

    Model() {
        for (int c = 0; c < 4; c++) {
            copies.add(new LinkedHashSet<>());
        }
    }

    int insert(int c, int at, int letter) {
        if (noCopy(c) || at < 0 || at > text(c).size() || letter < 0 || letter > 255) {
            return BAD;
        }
        Change made = new Change();
        made.letter = letter;
        made.behind = at == 0 ? null : text(c).get(at - 1);
        made.n = 1;
        for (Change change : copies.get(c)) {
            if (change.taken == null) {
                made.n = Math.max(made.n, change.n + 1);
            }
        }
        return make(c, made);
    }

    int remove(int c, int at) {
        if (noCopy(c) || at < 0 || at >= text(c).size()) {
            return BAD;
        }
        Change made = new Change();
        made.taken = text(c).get(at);
        return make(c, made);
    }

    int bring(int from, int k, int to) {
        if (noCopy(from) || noCopy(to) || from == to || k < 0 || k >= has(from, from)) {
            return BAD;
        }
        return come(find(from, k), to);
    }

    int merge(int from, int to) {
        if (noCopy(from) || noCopy(to)) {
            return BAD;
        }
        int before = copies.get(to).size();
        boolean again = true;
        while (again) {
            again = false;
            for (Change change : new ArrayList<>(copies.get(from))) {
                again |= come(change, to) == REFUSED;
            }
        }
        return copies.get(to).size() - before;
    }

    int length(int c) {
        return noCopy(c) ? BAD : text(c).size();
    }

    int letter(int c, int at) {
        if (noCopy(c) || at < 0) {
            return BAD;
        }
        return at < text(c).size() ? text(c).get(at).letter : -1;
    }

    int name(int c, int at) {
        if (noCopy(c) || at < 0) {
            return BAD;
        }
        return at < text(c).size() ? 4 * text(c).get(at).n + text(c).get(at).copy : -1;
    }

    int has(int c, int of) {
        if (noCopy(c) || noCopy(of)) {
            return BAD;
        }
        int count = 0;
        for (Change change : copies.get(c)) {
            count += change.copy == of ? 1 : 0;
        }
        return count;
    }

    private static boolean noCopy(int c) {
        return c < 0 || c > 3;
    }

    private int make(int c, Change made) {
        if (has(c, c) == 400) {
            return REFUSED;
        }
        made.copy = c;
        made.number = has(c, c);
        made.had = new LinkedHashSet<>(copies.get(c));
        copies.get(c).add(made);
        return made.number;
    }

    private int come(Change change, int to) {
        if (!copies.get(to).contains(change) && !copies.get(to).containsAll(change.had)) {
            return REFUSED;
        }
        copies.get(to).add(change);
        return 0;
    }

    private Change find(int from, int k) {
        for (Change change : copies.get(from)) {
            if (change.copy == from && change.number == k) {
                return change;
            }
        }
        throw new IllegalStateException("the model has no such CHANGE");
    }

    private List<Change> text(int c) {
        List<Change> text = new ArrayList<>();
        addBehind(c, null, text);
        for (Change change : copies.get(c)) {
            text.remove(change.taken);
        }
        return text;
    }

    private void addBehind(int c, Change behind, List<Change> order) {
        List<Change> at = new ArrayList<>();
        for (Change change : copies.get(c)) {
            if (change.taken == null && change.behind == behind) {
                at.add(change);
            }
        }
        at.sort((a, b) -> a.greaterThan(b) ? -1 : 1);
        for (Change change : at) {
            order.add(change);
            addBehind(c, change, order);
        }
    }
}
