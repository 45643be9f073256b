/** What README.md says under 'Use', line by line: whoever changes one has to change the other. */
public final class ReadmeTest {
    public static void main(String[] args) {
        Tests.begin();
        Tests.test("README: the run under 'Use'", ReadmeTest::use);
        refusedChangesNothing();
        faultChangesPlaceAlone();
        Tests.end();
    }

    private static void use() {
        Press press = new Press();
        Tests.due("write", press.write(0x6162636461626364L, 8), true);
        press.dueIn("'abcdabcd'");
        Tests.due("again", press.again(8, 20), true);
        Tests.due("pack", press.pack(2), 16);
        press.dueOut("168 1 12 'abcd' 254 4 0 254 4 0 142 4 0");
        press.turn();
        Tests.due("unpack", press.unpack(10000), 168);
        Tests.due("place", press.place(), 16);
        Tests.due("byteAt", press.byteAt(0), 97);

        press.turn();
        Tests.due("chunks", press.chunks(100, 3, 5), 65);
        press.turn();
        Tests.due("unchunk", press.unchunk(10000), 168);
        Tests.due("place", press.place(), 65);
        Tests.due("unchunk", press.unchunk(150), -3);
        Tests.due("size", press.size(), 168);
        Tests.due("place", press.place(), 47);
        Tests.due("unchunk", press.unchunk(10001), -20);
        Tests.due("place", press.place(), 47);
        press.dueLongOut(Bytes.times(42, "'abcd' "));
    }

    private static void refusedChangesNothing() {
        Tests.test("README: a call that is refused changes nothing", () -> {
            Press x = Press.settled();
            Tests.due("write", x.write(0L, 9), false);
            Tests.due("again", x.again(0, 1), false);
            Tests.due("pack", x.pack(4), -1);
            Tests.due("unpack", x.unpack(-1), -20);
            Tests.due("chunks", x.chunks(1, 0, 256), -1);
            Tests.due("unchunk", x.unchunk(10001), -20);
            Tests.due("byteAt", x.byteAt(3), -1);
            x.dueSettled();
        });
    }

    private static void faultChangesPlaceAlone() {
        // one row for each line of the table: the fault, the call, IN
        faults(1, false, "");
        faults(2, false, "128 128 128 128 16");
        faults(3, false, "10");
        faults(4, false, "4 1 1");
        faults(5, false, "0 0 7");
        faults(6, false, "1");
        faults(7, true, Bytes.MARK + " 1");
        faults(8, true, "254 0 0 0");
        faults(9, true, Bytes.MARK + " 2");
        faults(10, true, Bytes.MARK + " 1 0 0 0");
        faults(11, true, Bytes.MARK + " 1 5 0 0 0 0 0 0 7");
        faults(12, true, Bytes.MARK + Bytes.packed("", ""));
    }

    private static void faults(int fault, boolean stream, String in) {
        Tests.test("README: fault " + fault + " is answered as 0 less its number, IN and OUT stay", () -> {
            Press x = Press.settled();
            x.clear();
            x.put(in);
            Tests.due("the reading", stream ? x.unchunk(9) : x.unpack(9), -fault);
            x.dueIn(in);
            x.dueOut("1 2 3");
        });
    }
}
