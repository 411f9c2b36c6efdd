/** Promises 11 and 12: set and cell, and STEPS 1 to 4 and 7. */
public final class CellsTest {
    private static final Check CHECK = new Check("CellsTest");

    public static void main(String[] args) {
        TurnHall x = new TurnHall(100);
        for (int i = 0; i < 32; i++) {
            CHECK.same("what it was", x.set(i, Long.MIN_VALUE + i), 0);
            CHECK.same("what it was", x.set(i, i * 3L), Long.MIN_VALUE + i);
        }
        for (int i = 0; i < 32; i++) {
            CHECK.same("cell", x.cell(i), i * 3L);
        }
        CHECK.bad("set(-1)", () -> x.set(-1, 0));
        CHECK.bad("set(32)", () -> x.set(32, 0));
        CHECK.bad("cell(-1)", () -> x.cell(-1));
        CHECK.bad("cell(32)", () -> x.cell(32));
        x.set(31, Long.MAX_VALUE);
        Halls.program(x, 0, 3, 0, 31, 1, 1, 1, 2, 0, 1, 4, 0, 30, 7, 1, 0, 7, 1, 0, 4, 1, 0, 1, 2, Long.MIN_VALUE, 7, 2,
            0, 4, 2, 1, 2, 3, 3);
        x.begin(0, 5);
        CHECK.same("go", x.go(100), 1);
        CHECK.same("adds around", x.cell(30), Long.MIN_VALUE);
        CHECK.same("one less", x.cell(0), -1);
        CHECK.same("one less around", x.cell(1), Long.MAX_VALUE);
        CHECK.same("others stay", x.cell(29), 87);
        for (long no : new long[] {-1, 32, 1L << 32, Long.MIN_VALUE}) {
            CHECK.same("no CELL to read", Halls.faultOf(0, 3, 0, no), 3);
            CHECK.same("no CELL to write", Halls.faultOf(0, 4, 0, no), 3);
        }
        CHECK.finish();
    }
}
