import java.io.ByteArrayOutputStream;
import java.util.Arrays;
import java.util.Random;

/**
 * Runs of calls on TagPress and on a plain model of the document side by side: the model looks at
 * every place for a match, and weighs every way to split a match into copies.
 * The seeds are fixed, so every run is the same.
 */
public final class PlainModelTest {
    private static int compared = 0;

    public static void main(String[] args) {
        Tests.begin();
        for (int seed = 0; seed < 400; seed++) {
            Random random = new Random(seed);
            Tests.test("written " + seed, () -> writeAndReadBack(random, 300));
        }
        for (int seed = 0; seed < 12; seed++) {
            Random random = new Random(1000 + seed);
            Tests.test("long " + seed, () -> writeAndReadBack(random, 10000));
        }
        for (int seed = 0; seed < 4000; seed++) {
            Random random = new Random(seed);
            Tests.test("spoilt " + seed, () -> readSpoilt(random));
            Tests.test("made up " + seed, () -> readMadeUp(random));
        }
        for (int length = 4; length < 400; length++) {
            for (int distance : new int[] {5, 2047, 2048}) {
                int each = length;
                Tests.test("match of " + length + " from " + distance, () -> splitMatch(each, distance));
            }
        }
        for (int literals = 1; literals < 400; literals++) {
            int each = literals;
            Tests.test(literals + " literals", () -> runOfLiterals(each));
        }
        System.out.println(compared + " answers compared");
        Tests.end();
    }

    // ---- kinds of runs

    private static void writeAndReadBack(Random random, int most) {
        Both both = new Both();
        fill(both, random, most);
        both.sum();
        for (int way = -1; way <= 4; way++) {
            both.pack(way);
            if (way >= 0 && way <= 3 && both.plain.out.length > 0) {
                both.lookAtAllOfOut();
                both.read(false, 10000);
                both.turn();
            }
        }
        both.chunks(1 + random.nextInt(1 + random.nextInt(most)), random.nextInt(4), random.nextInt(3) * 100);
        boolean stream = random.nextBoolean();
        if (stream) {
            both.chunks(1 + random.nextInt(most), random.nextInt(4), random.nextInt(3));
        } else {
            both.pack(random.nextInt(4));
        }
        both.lookAtAllOfOut();
        both.read(stream, 10000);
        both.read(stream, random.nextInt(most));
        both.lookAtAllOfOut();
    }

    private static void readSpoilt(Random random) {
        Plain plain = new Plain();
        Both source = new Both();
        fill(source, random, 60);
        plain.in = source.plain.in;
        boolean stream = random.nextInt(3) > 0;
        if (stream) {
            plain.chunks(1 + random.nextInt(40), random.nextInt(4), random.nextInt(2) * 3);
        } else {
            plain.pack(random.nextInt(4));
        }
        byte[] bytes = plain.out;
        if (bytes.length > 2000) {
            bytes = Arrays.copyOf(bytes, 2000);
        }
        if (random.nextInt(3) == 0) {
            bytes = Arrays.copyOf(bytes, random.nextInt(bytes.length + 3));
        }
        for (int k = random.nextInt(3); k > 0 && bytes.length > 0; k--) {
            bytes[random.nextInt(bytes.length)] = (byte) someByte(random);
        }
        Both both = new Both();
        both.load(bytes);
        both.read(stream, 10000);
        both.read(stream, random.nextInt(80));
        both.read(!stream, 10000);
    }

    private static void readMadeUp(Random random) {
        Both both = new Both();
        byte[] bytes = new byte[random.nextInt(24)];
        for (int k = 0; k < bytes.length; k++) {
            bytes[k] = (byte) someByte(random);
        }
        both.load(bytes);
        both.read(false, 10000);
        both.read(false, random.nextInt(40));
        both.clear();
        both.load(new byte[] {(byte) 255, 6, 0, 0, 115, 78, 97, 80, 112, 89});
        both.load(bytes);
        both.read(true, 10000);
        both.read(true, random.nextInt(40));
        both.clear();
        both.load(new byte[] {(byte) 255, 6, 0, 0, 115, 78, 97, 80, 112, 89, 0, (byte) (bytes.length + 4), 0, 0, 1, 2, 3, 4});
        both.load(bytes);
        both.read(true, 10000);
        both.read(true, random.nextInt(40));
    }

    private static void splitMatch(int length, int distance) {
        // all bytes ahead of the match differ four by four, so that it is the only one
        byte[] bytes = new byte[distance + length];
        for (int k = 0; k < distance; k++) {
            bytes[k] = (byte) (k % 2 == 0 ? k / 2 % 128 : 128 + k / 256);
        }
        for (int k = distance; k < bytes.length; k++) {
            bytes[k] = bytes[k - distance];
        }
        Both both = new Both();
        both.load(bytes);
        both.pack(2);
        both.turn();
        both.read(false, 10000);
    }

    private static void runOfLiterals(int n) {
        byte[] bytes = new byte[n];
        for (int k = 0; k < n; k++) {
            bytes[k] = (byte) (k % 2 == 0 ? k / 2 : 200 + k / 128);
        }
        Both both = new Both();
        both.load(bytes);
        both.pack(0);
        both.chunks(n, 0, 0);
    }

    /** IN becomes up to most bytes, with much that comes again. */
    private static void fill(Both both, Random random, int most) {
        int letters = new int[] {1, 2, 3, 5, 26, 256}[random.nextInt(6)];
        int size = most < 1000 ? random.nextInt(most) : most;
        for (int k = 0; k < 120 && both.plain.in.length < size; k++) {
            if (random.nextInt(3) > 0) {
                long eight = 0;
                for (int part = 0; part < 8; part++) {
                    eight = eight << 8 | (random.nextInt(letters) * 7 & 255);
                }
                both.write(eight, random.nextInt(10));
            } else {
                int m = random.nextInt(both.plain.in.length + 2);
                both.again(random.nextInt(4) == 0 ? m : Math.min(m, 1 + random.nextInt(20)), random.nextInt(most < 1000 ? 6 : 60) - 1);
            }
        }
    }

    private static int someByte(Random random) {
        int[] telling = {0, 1, 2, 3, 4, 5, 6, 7, 8, 9, 15, 16, 127, 128, 129, 240, 244, 248, 252, 254, 255};
        return random.nextInt(3) == 0 ? random.nextInt(256) : telling[random.nextInt(telling.length)];
    }

    // ---- the two side by side

    private static final class Both {
        final Press real = new Press();
        final Plain plain = new Plain();

        void due(String call, long got, long want) {
            compared++;
            Tests.due(call, got, want);
        }

        void due(String call, boolean got, boolean want) {
            compared++;
            Tests.due(call, got, want);
        }

        void load(byte[] bytes) {
            for (int k = 0; k < bytes.length; k += 8) {
                long eight = 0;
                for (int part = 0; part < 8; part++) {
                    eight = eight << 8 | (k + part < bytes.length ? bytes[k + part] & 255 : 99);
                }
                write(eight, Math.min(8, bytes.length - k));
            }
        }

        void write(long eight, int n) {
            due("write(" + eight + ", " + n + ")", real.write(eight, n), plain.write(eight, n));
        }

        void again(int m, int n) {
            due("again(" + m + ", " + n + ")", real.again(m, n), plain.again(m, n));
        }

        void clear() {
            real.clear();
            plain.in = new byte[0];
        }

        void turn() {
            real.turn();
            plain.in = plain.out;
        }

        void sum() {
            due("sum()", real.sum(), plain.sum(plain.in));
        }

        void pack(int way) {
            due("pack(" + way + ")", real.pack(way), plain.pack(way));
            lookAtOut();
        }

        void chunks(int cut, int way, int spare) {
            due("chunks(" + cut + ", " + way + ", " + spare + ")", real.chunks(cut, way, spare), plain.chunks(cut, way, spare));
            lookAtOut();
        }

        void read(boolean stream, int most) {
            due((stream ? "unchunk(" : "unpack(") + most + ")", stream ? real.unchunk(most) : real.unpack(most), plain.read(stream, most));
            lookAtOut();
        }

        /** By its SUM, as there are not enough calls for each byte; IN becomes OUT. */
        void lookAtAllOfOut() {
            turn();
            sum();
        }

        void lookAtOut() {
            due("place()", real.place(), plain.place);
            due("size()", real.size(), plain.out.length);
            int step = Math.max(1, plain.out.length / 12);
            for (int k = 0; k < plain.out.length; k += step) {
                due("byteAt(" + k + ")", real.byteAt(k), plain.out[k] & 255);
            }
        }
    }

    // ---- the plain model

    private static final class Fault extends RuntimeException {
        private static final long serialVersionUID = 1L;
        final int number;
        final int place;

        Fault(int number, int place) {
            this.number = number;
            this.place = place;
        }
    }

    private static final class Plain {
        static final int[] NEAR = costs(true);
        static final int[] FAR = costs(false);
        byte[] in = new byte[0];
        byte[] out = new byte[0];
        int place = 0;

        boolean write(long eight, int n) {
            if (n < 1 || n > 8 || in.length + n > 10000) {
                return false;
            }
            byte[] more = Arrays.copyOf(in, in.length + n);
            for (int k = 0; k < n; k++) {
                more[in.length + k] = (byte) (eight >> 56 - 8 * k);
            }
            in = more;
            return true;
        }

        boolean again(int m, int n) {
            if (m < 1 || m > in.length || n < 0 || in.length + (long) m * n > 10000) {
                return false;
            }
            byte[] more = Arrays.copyOf(in, in.length + m * n);
            for (int k = 0; k < n; k++) {
                System.arraycopy(in, in.length - m, more, in.length + k * m, m);
            }
            in = more;
            return true;
        }

        int sum(byte[] bytes) {
            long register = 0xFFFFFFFFL;
            for (byte b : bytes) {
                for (int bit = 0; bit < 8; bit++) {
                    long taken = register & 1 ^ b >> bit & 1;
                    register >>= 1;
                    register ^= taken * 2197175160L;
                }
            }
            return Integer.rotateLeft((int) ~register, 17) + (int) 2726488792L;
        }

        int pack(int way) {
            if (way < 0 || way > 3) {
                return -1;
            }
            return become(block(in, way));
        }

        int become(byte[] bytes) {
            if (bytes.length > 10000) {
                return -1;
            }
            out = bytes;
            return bytes.length;
        }

        int chunks(int cut, int way, int spare) {
            if (cut < 1 || cut > 10000 || way < 0 || way > 3 || spare < 0 || spare > 255) {
                return -1;
            }
            ByteArrayOutputStream all = new ByteArrayOutputStream();
            all.writeBytes(new byte[] {(byte) 255, 6, 0, 0, 115, 78, 97, 80, 112, 89});
            for (int k = 0; k < in.length; k += cut) {
                byte[] row = Arrays.copyOfRange(in, k, Math.min(k + cut, in.length));
                byte[] block = block(row, way);
                boolean packed = block.length < row.length;
                byte[] body = packed ? block : row;
                all.write(packed ? 0 : 1);
                number(all, body.length + 4, 3);
                number(all, sum(row), 4);
                all.writeBytes(body);
                if (spare > 0) {
                    all.write(254);
                    number(all, spare, 3);
                    all.writeBytes(new byte[spare]);
                }
            }
            return become(all.toByteArray());
        }

        static void number(ByteArrayOutputStream to, int value, int bytes) {
            for (int k = 0; k < bytes; k++) {
                to.write(value >> 8 * k);
            }
        }

        static byte[] block(byte[] data, int way) {
            ByteArrayOutputStream to = new ByteArrayOutputStream();
            int left = data.length;
            do {
                to.write(left % 128 + (left > 127 ? 128 : 0));
                left /= 128;
            } while (left > 0);
            ByteArrayOutputStream literals = new ByteArrayOutputStream();
            for (int p = 0; p < data.length;) {
                int q = match(data, p, way);
                if (q < 0) {
                    literals.write(data[p++]);
                    continue;
                }
                flush(literals, to);
                int length = alike(data, q, p);
                copies(to, length, p - q);
                p += length;
            }
            flush(literals, to);
            return to.toByteArray();
        }

        static int match(byte[] data, int p, int way) {
            int nearest = -1;
            int nearestOfEight = -1;
            int longest = -1;
            int longestLength = 0;
            for (int q = 0; q < p; q++) {
                int length = alike(data, q, p);
                if (length >= 4) {
                    nearest = q;
                    nearestOfEight = length >= 8 ? q : nearestOfEight;
                    if (length >= longestLength) {
                        longest = q;
                        longestLength = length;
                    }
                }
            }
            switch (way) {
                case 0:
                    return nearest;
                case 1:
                    return nearestOfEight >= 0 ? nearestOfEight : nearest;
                case 2:
                    return longest;
                default:
                    int next = match(data, p + 1, 2);
                    return next >= 0 && alike(data, next, p + 1) > longestLength ? -1 : longest;
            }
        }

        static int alike(byte[] data, int q, int p) {
            int n = 0;
            while (p + n < data.length && data[p + n] == data[q + n]) {
                n++;
            }
            return n;
        }

        static void flush(ByteArrayOutputStream literals, ByteArrayOutputStream to) {
            int n = literals.size();
            if (n > 0) {
                int bytes = n <= 60 ? 0 : n <= 256 ? 1 : n <= 65536 ? 2 : 3;
                to.write(bytes == 0 ? (n - 1) * 4 : (59 + bytes) * 4);
                number(to, n - 1, bytes);
                to.writeBytes(literals.toByteArray());
                literals.reset();
            }
        }

        /** The fewest bytes for a match of each length. */
        static int[] costs(boolean near) {
            int[] cost = new int[10001];
            for (int length = 1; length <= 10000; length++) {
                cost[length] = Integer.MAX_VALUE;
                for (int n = 1; n <= 64 && n <= length; n++) {
                    cost[length] = Math.min(cost[length], cost[length - n] + cost(n, near));
                }
            }
            return cost;
        }

        static int cost(int n, boolean near) {
            return near && n >= 4 && n <= 11 ? 2 : 3;
        }

        static void copies(ByteArrayOutputStream to, int length, int distance) {
            boolean near = distance < 2048;
            int[] cost = near ? NEAR : FAR;
            while (length > 0) {
                int n = Math.min(64, length);
                while (cost[length - n] + cost(n, near) != cost[length]) {
                    n--;
                }
                if (cost(n, near) == 2) {
                    to.write(1 + 4 * (n - 4) + 32 * (distance / 256));
                    to.write(distance % 256);
                } else {
                    to.write(2 + 4 * (n - 1));
                    number(to, distance, 2);
                }
                length -= n;
            }
        }

        int read(boolean stream, int most) {
            if (most < 0 || most > 10000) {
                return -20;
            }
            try {
                byte[] made = stream ? stream(most) : blockAt(0, in.length, most);
                place = in.length;
                return become(made);
            } catch (Fault fault) {
                place = fault.place;
                return -fault.number;
            }
        }

        byte[] stream(int most) {
            ByteArrayOutputStream to = new ByteArrayOutputStream();
            int begin = 0;
            while (begin < in.length) {
                int kind = in[begin] & 255;
                if (begin == 0 && kind != 255) {
                    throw new Fault(8, begin);
                }
                if (kind >= 2 && kind <= 127) {
                    throw new Fault(9, begin);
                }
                if (begin + 4 > in.length) {
                    throw new Fault(7, in.length);
                }
                int size = (int) number(begin + 1, 3);
                int end = begin + 4 + size;
                if (end > in.length) {
                    throw new Fault(7, in.length);
                }
                if (kind == 255 && !Arrays.equals(Arrays.copyOfRange(in, begin + 4, end), new byte[] {115, 78, 97, 80, 112, 89})) {
                    throw new Fault(8, begin);
                }
                if (kind < 2) {
                    if (size < 4) {
                        throw new Fault(10, begin);
                    }
                    byte[] made = kind == 0 ? blockInChunk(begin + 8, end, most - to.size()) : Arrays.copyOfRange(in, begin + 8, end);
                    if (to.size() + made.length > most) {
                        throw new Fault(3, begin + 8 + most - to.size());
                    }
                    if ((int) number(begin + 4, 4) != sum(made)) {
                        throw new Fault(11, begin + 4);
                    }
                    to.writeBytes(made);
                }
                begin = end;
            }
            return to.toByteArray();
        }

        byte[] blockInChunk(int begin, int end, int most) {
            try {
                return blockAt(begin, end, most);
            } catch (Fault fault) {
                throw fault.number == 1 ? new Fault(12, fault.place) : fault;
            }
        }

        long number(int from, int bytes) {
            long value = 0;
            for (int k = bytes - 1; k >= 0; k--) {
                value = value * 256 + (in[from + k] & 255);
            }
            return value;
        }

        byte[] blockAt(int begin, int end, int most) {
            int at = begin;
            long length = 0;
            for (int k = 0; ; k++) {
                need(at, 1, end);
                int part = in[at++] & 255;
                if (k == 4 && part > 15) {
                    throw new Fault(2, begin);
                }
                length += (long) (part % 128) << 7 * k;
                if (part < 128) {
                    break;
                }
            }
            if (length > most) {
                throw new Fault(3, begin);
            }
            byte[] made = new byte[(int) length];
            int n = 0;
            while (at < end) {
                int element = at;
                int k = in[at] & 3;
                int m = (in[at] & 255) / 4;
                int follow = k == 0 ? Math.max(0, m - 59) : k == 1 ? 1 : k == 2 ? 2 : 4;
                need(at + 1, follow, end);
                long told = number(at + 1, follow);
                at += 1 + follow;
                long count = k == 0 ? (m < 60 ? m : told) + 1 : k == 1 ? m % 8 + 4 : m + 1;
                long distance = k == 1 ? told + 256 * (m / 8) : told;
                if (k != 0 && (distance == 0 || distance > n)) {
                    throw new Fault(4, element);
                }
                if (n + count > length) {
                    throw new Fault(5, element);
                }
                if (k == 0) {
                    need(at, (int) count, end);
                }
                for (int c = 0; c < count; c++, n++) {
                    made[n] = k == 0 ? in[at++] : made[n - (int) distance];
                }
            }
            if (n < length) {
                throw new Fault(6, end);
            }
            return made;
        }

        static void need(int at, int bytes, int end) {
            if (at + bytes > end) {
                throw new Fault(1, end);
            }
        }
    }
}
