/**
 * Promises 1 to 39, sentence by sentence: the document's words, and behind them the answers that hold them at their edges.
 * No sentence of the terms or of a promise is without.
 */
public final class EdgesTest {
    public static void main(String[] args) {
        fiveHundredCalls();
        TextEdges.run();
        FaultEdges.run();
        LookEdges.run();
        ActEdges.run();
        KeepEdges.run();
        ThreadEdges.run();
        TruceEdges.run();
        TugEdges.run();
        Doc.allQuoted();
        Due.endTest();
    }

    private static void fiveHundredCalls() {
        Doc.ahead("An object is used for at most 512 calls after it has been made");
        OathButtons x = new OathButtons();
        for (int calls = 2; calls <= 512; calls += 2) {
            Due.is("feed, call " + (calls - 1), x.feed(0x6D616E20, 0x613B6465, 0x65642064, 0x20686F75, 0x7273313B), 20);
            Due.is("regiment, call " + calls, x.regiment(), 0);
        }
        OathButtons y = Due.of("man a;man b;deed d hours 1;button o on a by b does d;wear 0;");
        // Five calls were made already, and eight come each time.
        for (int time = 1; time <= 63; time++) {
            y.day();
            y.image(time % 3);
            y.cut(0);
            y.undo();
            y.undo();
            y.redo();
            Due.is("the DAY, the " + time + ". time", y.back(time % 3), time);
            Due.is("keep, the " + time + ". time", y.keep(0, 0), time > 60 ? 0 : 1);
        }
    }
}
