/** All that can be asked of an object without changing it, in 313 calls. */
final class Seen {
    private static final int ANSWERS = 313;

    private final int[] answers = new int[ANSWERS];
    private final String[] calls = new String[ANSWERS];
    private int many = 0;

    private Seen() {
    }

    static Seen of(StagedTables x) {
        Seen seen = new Seen();
        for (int t = 0; t < 8; t++) {
            seen.lookAtTable(x, t);
        }
        seen.lookAtStages(x);
        seen.lookAtPackets(x);
        for (int what = 0; what <= 15; what++) {
            seen.add("count(" + what + ")", x.count(what));
        }
        Due.is("answers seen", seen.many, ANSWERS);
        return seen;
    }

    private void lookAtTable(StagedTables x, int t) {
        for (int what = 0; what <= 33; what++) {
            if (what <= 6 || what >= 10 && what <= 25 || what >= 31) {
                add("told(" + t + ", " + what + ")", x.told(t, what));
            }
        }
        for (int other = 0; other < t; other++) {
            add("needs(" + other + ", " + t + ")", x.needs(other, t));
        }
    }

    private void lookAtStages(StagedTables x) {
        add("stages()", x.stages());
        for (int i = 0; i < 8; i++) {
            add("stage(" + i + ", 0)", x.stage(i, 0));
            add("stage(" + i + ", 1)", x.stage(i, 1));
        }
        add("fewest()", x.fewest());
    }

    private void lookAtPackets(StagedTables x) {
        for (int r = 0; r < 4; r++) {
            add("register(" + r + ")", x.register(r));
        }
        for (int what = 0; what <= 6; what++) {
            add("out(" + what + ")", x.out(what));
        }
        for (int t = 0; t < 8; t++) {
            for (int round = 0; round < 4; round++) {
                add("took(" + t + ", " + round + ")", x.took(t, round));
            }
        }
    }

    private void add(String call, int answer) {
        calls[many] = call;
        answers[many] = answer;
        many++;
    }

    void sameAs(String what, Seen want) {
        for (int i = 0; i < ANSWERS; i++) {
            if (answers[i] != want.answers[i]) {
                Due.is(what + ": " + calls[i], answers[i], want.answers[i]);
            }
        }
    }

    boolean differsFrom(Seen other) {
        for (int i = 0; i < ANSWERS; i++) {
            if (answers[i] != other.answers[i]) {
                return true;
            }
        }
        return false;
    }
}
