/** Calls that can be made on a new object as often as one likes. */
interface Steps {
    void on(Counted x);

    /** These, and then others; a bad or refused last one is held up here, as it must change nothing. */
    default Steps then(Steps last) {
        return x -> {
            on(x);
            Check.outcome(() -> last.on(x));
        };
    }

    /** A new object with nothing done yet. */
    static Steps none() {
        return x -> {
        };
    }

    /** COPIES that have something of each other, and LETTERS taken away in one and not in another. */
    static Steps several() {
        return x -> {
            Check.write(x, 0, "abc");
            x.merge(0, 1);
            x.remove(1, 1);
            x.insert(1, 2, 'd');
            Check.write(x, 2, "xy");
            x.bring(2, 0, 0);
            x.insert(0, 1, 'e');
            x.remove(0, 0);
            x.merge(1, 3);
            x.insert(3, 0, 'f');
        };
    }

    /** A COPY writes so many LETTERS, each behind the end of its TEXT. */
    static Steps letters(int c, int howMany) {
        return x -> {
            for (int at = 0; at < howMany; at++) {
                x.insert(c, at, 'a' + at % 26);
            }
        };
    }
}
