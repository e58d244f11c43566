import java.util.NoSuchElementException;

/** Counts the answers that are not as due, and ends the test with 1 if there was one. */
final class Checks {
    /** What stands for a NoSuchElementException in due(). */
    static final int THROWS = Integer.MIN_VALUE;
    private int wrong = 0;

    void due(String call, int got, int want) {
        if (got != want) {
            wrong++;
            System.out.println(call + " answered " + told(got) + ", due is " + told(want));
        }
    }

    void due(String call, boolean got, boolean want) {
        due(call, got ? 1 : 0, want ? 1 : 0);
    }

    private static String told(int answer) {
        return answer == THROWS ? "NoSuchElementException" : String.valueOf(answer);
    }

    /** The sign @ stands ahead of the token that is wrong. */
    void fault(int kind, String marked) {
        int place = marked.indexOf('@');
        String text = marked.replace("@", "");
        due("station() of " + marked, Feeder.station(new StationStarter(), text), kind + 16 * place);
    }

    void fine(String text) {
        due("station() of " + text, Feeder.station(new StationStarter(), text), 0);
    }

    StationStarter made(String text) {
        StationStarter starter = new StationStarter();
        due("station() of " + text, Feeder.station(starter, text), 0);
        return starter;
    }

    int unit(StationStarter starter, int u, int what) {
        try {
            return starter.unit(u, what);
        } catch (NoSuchElementException e) {
            return THROWS;
        }
    }

    int read(StationStarter starter, int u, int k) {
        try {
            return starter.read(u, k);
        } catch (NoSuchElementException e) {
            return THROWS;
        }
    }

    int device(StationStarter starter, int d, int what) {
        try {
            return starter.device(d, what);
        } catch (NoSuchElementException e) {
            return THROWS;
        }
    }

    /** What 0, 1, .. of a row, one behind the other. */
    void dueUp(StationStarter starter, int i, int... row) {
        for (int what = 0; what < row.length; what++) {
            due("up(" + i + ", " + what + ")", starter.up(i, what), row[what]);
        }
    }

    void dueHalf(StationStarter starter, int i, int... row) {
        for (int what = 0; what < row.length; what++) {
            due("half(" + i + ", " + what + ")", starter.half(i, what), row[what]);
        }
    }

    void dueOrder(StationStarter starter, int i, int... row) {
        for (int what = 0; what < row.length; what++) {
            due("order(" + i + ", " + what + ")", starter.order(i, what), row[what]);
        }
    }

    void dueClosed(StationStarter starter, int i, int... row) {
        for (int what = 0; what < row.length; what++) {
            due("closed(" + i + ", " + what + ")", starter.closed(i, what), row[what]);
        }
    }

    void dueCause(StationStarter starter, int u, int... row) {
        for (int i = 0; i < row.length; i++) {
            due("cause(" + u + ", " + i + ")", starter.cause(u, i), row[i]);
        }
        for (int i = row.length; i < 4; i++) {
            due("cause(" + u + ", " + i + ")", starter.cause(u, i), 0);
        }
    }

    void dueEnded(StationStarter starter, int... row) {
        for (int i = 0; i < row.length; i++) {
            due("ended(" + i + ")", starter.ended(i), row[i]);
        }
        for (int i = row.length; i < 4; i++) {
            due("ended(" + i + ")", starter.ended(i), 0);
        }
    }

    void dueNeeds(StationStarter starter, int u, int... row) {
        for (int i = 0; i < row.length; i++) {
            due("need(" + u + ", " + i + ")", starter.need(u, i), row[i]);
        }
        due("need(" + u + ", " + row.length + ")", starter.need(u, row.length), -1);
    }

    void end() {
        System.out.println(wrong == 0 ? "all answers are as due" : wrong + " answers are not as due");
        if (wrong != 0) {
            System.exit(1);
        }
    }
}
