/** An object of the class that counts its calls: what it answers behind the 512th one, the document leaves free. */
final class Road {
    static final int MOST_CALLS = 512;

    private final SectionTemplates inner = new SectionTemplates();
    private int calls;

    /** A call more than the document knows. */
    static final class Spent extends RuntimeException {
        private static final long serialVersionUID = 1;
    }

    int callsLeft() {
        return MOST_CALLS - calls;
    }

    private SectionTemplates next() {
        if (calls >= MOST_CALLS) {
            throw new Spent();
        }
        calls++;
        return inner;
    }

    boolean unit(int u) {
        return next().unit(u);
    }

    int read() {
        return next().read();
    }

    boolean ground(int off, int level) {
        return next().ground(off, level);
    }

    void clear() {
        next().clear();
    }

    boolean axis(int level, int bank) {
        return next().axis(level, bank);
    }

    boolean land(int side, int far) {
        return next().land(side, far);
    }

    int run(int template) {
        return next().run(template);
    }

    long corner(int k, int axis, int part) {
        return next().corner(k, axis, part);
    }

    int code(int k) {
        return next().code(k);
    }

    boolean ended(int side) {
        return next().ended(side);
    }

    boolean passed(int side) {
        return next().passed(side);
    }

    int condition(int k) {
        return next().condition(k);
    }

    long area(boolean cut, int part) {
        return next().area(cut, part);
    }

    long level(int off, int part) {
        return next().level(off, part);
    }

    int keep(int metre) {
        return next().keep(metre);
    }

    long volume(boolean cut, int part) {
        return next().volume(cut, part);
    }

    int count(int what) {
        return next().count(what);
    }
}
