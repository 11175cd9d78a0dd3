/**
 * Sentences of the document that name a boundary, each with calls of its own: at the boundary, one below it and
 * one above it. A sentence that does not hold is told by its own words.
 */
final class Sentences {
    private static final String[] NO_NUMBERS = {"-1", "+1", "x", ""};
    private int wrong;
    private int told;

    /** A sentence, and the rows of calls (see Script) that hold it. */
    void says(String sentence, String... rows) {
        told++;
        wrong += Script.play(sentence, String.join("\n", rows));
    }

    void check(String sentence, String call, Object got, Object due) {
        if (!String.valueOf(due).equals(String.valueOf(got))) {
            wrong++;
            System.out.println(sentence + ": " + call + " answered " + got + ", due is " + due);
        }
    }

    /** A number in a text: what stands ahead of it and behind it, its bounds, and what tells it if it is well read. */
    record Place(String ahead, String behind, int least, int most, String tells) {
    }

    /**
     * A number in a text, at its bounds and just beyond them, with many digits, and none at all. In what is played
     * ahead of the text, and in what tells the number, N stands for it.
     */
    void number(String sentence, String playedAhead, String call, int answer, Place p) {
        StringBuilder rows = new StringBuilder();
        for (long v : new long[] {p.least, p.least + 1, p.most - 1, p.most}) {
            if (v >= p.least && v <= p.most) {
                good(rows, playedAhead, call, answer, p, String.valueOf(v), v);
                good(rows, playedAhead, call, answer, p, "0".repeat(30) + v, v);
            }
        }
        String beyond = String.valueOf(p.most + 1);
        String[] faulty = {beyond, "000" + beyond, p.most + "0", "9".repeat(40), String.valueOf((1L << 32) + p.least),
            String.valueOf((1L << 31) + p.least), "1" + "0".repeat(19), "18446744073709551616", "18446744073709551617"};
        for (String digits : faulty) {
            if (!digits.equals("00") && !digits.equals("0")) {
                bad(rows, call, p, digits, -8);
            }
        }
        if (p.least > 0) {
            bad(rows, call, p, String.valueOf(p.least - 1), -8);
            bad(rows, call, p, "0", -8);
        }
        for (String none : NO_NUMBERS) {
            if (!none.isEmpty() || !p.behind.isEmpty() && !Character.isDigit(p.behind.strip().charAt(0))) {
                bad(rows, call, p, none, -9);
            }
        }
        says(sentence, rows.toString());
    }

    private static void good(StringBuilder rows, String playedAhead, String call, int answer, Place p, String digits, long v) {
        rows.append("new\n").append(playedAhead).append('\n');
        rows.append(call).append(" \"").append(p.ahead).append(digits).append(p.behind).append("\" = ").append(answer);
        rows.append(" | fault = -1\n").append(p.tells.replace("N", String.valueOf(v))).append('\n');
    }

    private static void bad(StringBuilder rows, String call, Place p, String digits, int answer) {
        int blanks = digits.isEmpty() ? p.behind.length() - p.behind.stripLeading().length() : 0;
        rows.append("new\n").append(call).append(" \"").append(p.ahead).append(digits).append(p.behind);
        rows.append("\" = ").append(answer).append(" | fault = ").append(p.ahead.length() + blanks).append('\n');
    }

    /** Ends the test: with 1, if a sentence did not hold. */
    void end() {
        System.out.println(wrong == 0 ? told + " sentences hold" : wrong + " answers are not as due");
        if (wrong != 0) {
            System.exit(1);
        }
    }
}
