/**
 * A TagPress that counts its calls: what it answers beyond 512 of them is free, so that no test
 * may ask for it. It can be filled from, and compared with, what Bytes tells.
 */
final class Press {
    static final int MOST_CALLS = 512;
    private static final String SETTLED_IN = "3 8 1 2 3 3 9";
    private static final String SETTLED_OUT = "1 2 3";
    private static final int SETTLED_PLACE = 5;

    private final TagPress press = new TagPress();
    private int calls = 0;

    Press() {
    }

    Press(String in) {
        put(in);
    }

    /** One whose IN, OUT and PLACE all hold something that a call may spoil. */
    static Press settled() {
        Press x = new Press("3 8 1 2 3");
        Tests.due("unpack", x.unpack(3), 3);
        return x.put("3 9");
    }

    void dueSettled() {
        dueIn(SETTLED_IN);
        dueOut(SETTLED_OUT);
        duePlace(SETTLED_PLACE);
    }

    /** One whose IN has n times the same byte. */
    static Press filled(int n, int value) {
        Press x = new Press(String.valueOf(value));
        Tests.due("again", x.again(1, n - 1), true);
        return x;
    }

    /**
     * One whose IN has n bytes, 2040 .. 9995, in which no four that stand together come twice.
     * Beyond the first 2040 or some more they are made by copies of three bytes, from two places
     * in turn, since 512 calls can write no more than 4,096.
     */
    static Press unlike(int n) {
        int[] backs = {2000, 1710, 400, 2601, 5700, 6001, 1700, 7810};
        int literals = 2040 + n % 6;
        Press x = new Press(n % 128 + 128 + " " + n / 128 + " 244 " + Bytes.number(literals - 1, 2) + " " + Bytes.unlike(literals));
        int pairs = (n - literals) / 6;
        for (int k = 0; k < backs.length && pairs > 0; k += 2) {
            int now = Math.min(pairs, 332);
            x.put("10 " + Bytes.number(backs[k], 2) + " 10 " + Bytes.number(backs[k + 1], 2));
            Tests.due("again", x.again(6, now - 1), true);
            pairs -= now;
        }
        Tests.due("unpack", x.unpack(n), n);
        x.turn();
        return x;
    }

    /** Appends to IN, eight bytes a call. */
    Press put(String told) {
        int[] bytes = Bytes.of(told);
        for (int k = 0; k < bytes.length; k += 8) {
            long eight = 0;
            for (int part = k; part < k + 8; part++) {
                eight = eight << 8 | (part < bytes.length ? bytes[part] : 238);
            }
            Tests.due("write", write(eight, Math.min(8, bytes.length - k)), true);
        }
        return this;
    }

    void dueIn(String told) {
        Tests.due("the sum of IN", sum(), Bytes.sumOf(told));
    }

    void dueOut(String told) {
        int[] bytes = Bytes.of(told);
        Tests.due("size()", size(), bytes.length);
        for (int k = 0; k < bytes.length; k++) {
            Tests.due("byteAt(" + k + ")", byteAt(k), bytes[k]);
        }
        Tests.due("byteAt(" + bytes.length + ")", byteAt(bytes.length), -1);
    }

    /** For an OUT of more bytes than calls are left; IN becomes OUT. */
    void dueLongOut(String told) {
        int[] bytes = Bytes.of(told);
        Tests.due("size()", size(), bytes.length);
        for (int k = 0; k < bytes.length; k += 1 + bytes.length / 16) {
            Tests.due("byteAt(" + k + ")", byteAt(k), bytes[k]);
        }
        turn();
        dueIn(told);
    }

    void duePlace(int want) {
        Tests.due("place()", place(), want);
    }

    int calls() {
        return calls;
    }

    // ---- the calls

    private TagPress call() {
        calls++;
        if (calls > MOST_CALLS) {
            throw new IllegalStateException("this test makes too many calls");
        }
        return press;
    }

    boolean write(long eight, int n) {
        return call().write(eight, n);
    }

    boolean again(int m, int n) {
        return call().again(m, n);
    }

    void clear() {
        call().clear();
    }

    void turn() {
        call().turn();
    }

    int pack(int way) {
        return call().pack(way);
    }

    int unpack(int most) {
        return call().unpack(most);
    }

    int chunks(int cut, int way, int spare) {
        return call().chunks(cut, way, spare);
    }

    int unchunk(int most) {
        return call().unchunk(most);
    }

    int place() {
        return call().place();
    }

    int sum() {
        return call().sum();
    }

    int size() {
        return call().size();
    }

    int byteAt(int k) {
        return call().byteAt(k);
    }
}
