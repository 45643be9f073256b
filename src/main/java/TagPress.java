import java.util.Arrays;

/**
 * Rows of bytes packed by tags, and streams of chunks with sums.
 * The words IN, OUT, PLACE, BLOCK, MATCH, WAY, SUM and STREAM are those of the document.
 */
public final class TagPress {
    private static final int MOST = 10000;
    private static final int REFUSED_WRITING = -1;
    private static final int REFUSED_READING = -20;
    private static final int LAST_WAY = 3;
    private static final int MOST_SPARE = 255;

    private final Row in;
    private final Row out;
    private final Row draft;
    private final Matches matches;
    private final BlockWriter blockWriter;
    private final StreamWriter streamWriter;
    private final BlockReader blockReader;
    private final StreamReader streamReader;
    private int latestPlace;

    public TagPress() {
        in = new Row();
        out = new Row();
        draft = new Row();
        matches = new Matches(in);
        blockWriter = new BlockWriter(in, draft, matches);
        streamWriter = new StreamWriter(in, draft, blockWriter);
        blockReader = new BlockReader(in, draft);
        streamReader = new StreamReader(in, draft, blockReader);
        latestPlace = 0;
    }

    public boolean write(long eight, int n) {
        if (n < 1 || n > 8 || n > MOST - in.count) {
            return false;
        }
        for (int k = 0; k < n; k++) {
            in.put((int) (eight >>> (56 - 8 * k)));
        }
        return true;
    }

    public boolean again(int m, int n) {
        if (m < 1 || m > in.count || n < 0 || (long) m * n > MOST - in.count) {
            return false;
        }
        in.putBack(m, m * n);
        return true;
    }

    public void clear() {
        in.shorten(0);
    }

    public void turn() {
        in.become(out);
    }

    public int pack(int way) {
        if (isNoWay(way)) {
            return REFUSED_WRITING;
        }
        draft.shorten(0);
        matches.index();
        blockWriter.putBlock(0, in.count, way);
        return endWriting();
    }

    public int unpack(int most) {
        if (isNoMost(most)) {
            return REFUSED_READING;
        }
        draft.shorten(0);
        blockReader.readBlock(0, in.count, most);
        return endReading(blockReader.fault, blockReader.faultPlace);
    }

    public int chunks(int cut, int way, int spare) {
        if (cut < 1 || cut > MOST || isNoWay(way) || spare < 0 || spare > MOST_SPARE) {
            return REFUSED_WRITING;
        }
        draft.shorten(0);
        matches.index();
        streamWriter.putMark();
        for (int from = 0; from < in.count && draft.fits(); from += cut) {
            streamWriter.putData(from, Math.min(from + cut, in.count), way);
            if (spare > 0) {
                streamWriter.putSpare(spare);
            }
        }
        return endWriting();
    }

    public int unchunk(int most) {
        if (isNoMost(most)) {
            return REFUSED_READING;
        }
        draft.shorten(0);
        streamReader.begin(most);
        // a chunk has at least four bytes, so there are never more than the limit
        for (int k = 0; k < MOST && streamReader.hasMore(); k++) {
            streamReader.readChunk();
        }
        return endReading(streamReader.fault, streamReader.faultPlace);
    }

    public int place() {
        return latestPlace;
    }

    public int sum() {
        return Sums.sumOf(in, 0, in.count);
    }

    public int size() {
        return out.count;
    }

    public int byteAt(int k) {
        return out.at(k);
    }

    private static boolean isNoWay(int way) {
        return way < 0 || way > LAST_WAY;
    }

    private static boolean isNoMost(int most) {
        return most < 0 || most > MOST;
    }

    private int endWriting() {
        if (!draft.fits()) {
            return REFUSED_WRITING;
        }
        out.become(draft);
        return out.count;
    }

    private int endReading(int fault, int faultPlace) {
        if (fault != 0) {
            latestPlace = faultPlace;
            return -fault;
        }
        latestPlace = in.count;
        out.become(draft);
        return out.count;
    }

    /**
     * Bytes up to the limit. Bytes beyond it are counted but not kept, so that a writer
     * may run on and ask once, at its end, whether all of them fit.
     */
    private static final class Row {
        private final byte[] bytes = new byte[MOST];
        private int count = 0;

        boolean fits() {
            return count <= MOST;
        }

        int at(int k) {
            return k >= 0 && k < count && k < MOST ? bytes[k] & 255 : -1;
        }

        void put(int value) {
            if (count >= 0 && count < MOST) {
                bytes[count] = (byte) value;
            }
            count++;
        }

        void set(int k, int value) {
            if (k >= 0 && k < MOST) {
                bytes[k] = (byte) value;
            }
        }

        void putNumber(int value, int howMany) {
            for (int k = 0; k < howMany; k++) {
                put(value >>> (8 * k));
            }
        }

        void setNumber(int begin, int value, int howMany) {
            for (int k = 0; k < howMany; k++) {
                set(begin + k, value >>> (8 * k));
            }
        }

        /** The number in howMany bytes from begin on; four bytes fill more than an int. */
        long numberAt(int begin, int howMany) {
            long number = 0;
            for (int k = 0; k < howMany; k++) {
                number |= (long) (at(begin + k) & 255) << (8 * k);
            }
            return number;
        }

        void putFrom(Row other, int from, int to) {
            for (int k = from; k < to; k++) {
                put(other.at(k));
            }
        }

        /** One by one, since bytes that have just been put may be due again. */
        void putBack(int distance, int howMany) {
            for (int k = 0; k < howMany; k++) {
                put(at(count - distance));
            }
        }

        void shorten(int newCount) {
            if (newCount >= 0 && newCount <= count) {
                count = newCount;
            }
        }

        void become(Row other) {
            if (other.fits()) {
                System.arraycopy(other.bytes, 0, bytes, 0, other.count);
                count = other.count;
            }
        }
    }

    private static final class Sums {
        private static final int TAPS = 0x82F63B78; // 2197175160
        private static final int ADDED = 0xA282EAD8; // 2726488792

        static int sumOf(Row row, int from, int to) {
            int register = -1;
            for (int k = from; k < to; k++) {
                // the eight bits meet the register's lowest eight, so they may be put in at once
                register = goRight(register ^ row.at(k));
            }
            int turned = ~register;
            return (turned << 17 | turned >>> 15) + ADDED;
        }

        private static int goRight(int begin) {
            int register = begin;
            for (int bit = 0; bit < 8; bit++) {
                int taken = register & 1;
                register >>>= 1;
                if (taken == 1) {
                    register ^= TAPS;
                }
            }
            return register;
        }
    }

    /**
     * Finds the match that a way asks for. All of IN is indexed once a call: from each place
     * a chain leads to earlier places whose next four bytes fall into the same bucket,
     * the nearest first; a row of a stream uses the part of a chain that lies in the row.
     */
    private static final class Matches {
        private static final int SHORTEST = 4;
        private static final int LONG = 8;
        private static final int NONE = -1;
        private static final int BUCKET_BITS = 11;
        private static final int BUCKETS = 1 << BUCKET_BITS;
        private static final int SCATTER = 0x9E3779B1;

        private final Row data;
        private final int[] before = new int[MOST];
        private final int[] latest = new int[BUCKETS];
        private int from = 0;
        private int to = 0;
        private int length = 0;
        private int distance = 0;

        Matches(Row data) {
            this.data = data;
        }

        void index() {
            Arrays.fill(latest, NONE);
            for (int p = 0; p < MOST && p + SHORTEST <= data.count; p++) {
                int bucket = bucketOf(p) & (BUCKETS - 1);
                before[p] = latest[bucket];
                latest[bucket] = p;
            }
        }

        private int bucketOf(int p) {
            return ((int) data.numberAt(p, SHORTEST) * SCATTER) >>> (32 - BUCKET_BITS);
        }

        /** From now on matches begin and end within these places. */
        void keepWithin(int first, int end) {
            from = Math.max(first, 0);
            to = Math.min(end, data.count);
        }

        /** Leaves the match at p in length and distance; length 0 when there is none. */
        void findAt(int p, int way) {
            if (way == 0) {
                findNearest(p, SHORTEST);
            } else if (way == 1) {
                findNearest(p, LONG);
                if (length == 0) {
                    findNearest(p, SHORTEST);
                }
            } else {
                findLongest(p);
                if (way == 3 && length > 0) {
                    dropIfNextIsLonger(p);
                }
            }
        }

        private void findNearest(int p, int least) {
            length = 0;
            if (p + least > to) {
                return;
            }
            int q = earlier(p);
            for (int looked = 0; looked < MOST && q >= from; looked++) {
                if (alike(q, p, p + least) == least) {
                    length = alike(q, p, to);
                    distance = p - q;
                    return;
                }
                q = earlier(q);
            }
        }

        private void findLongest(int p) {
            length = 0;
            int q = earlier(p);
            for (int looked = 0; looked < MOST && q >= from && p + length < to; looked++) {
                // only one that is alike one byte further than the best so far can be longer
                if (data.at(q + length) == data.at(p + length)) {
                    int n = alike(q, p, to);
                    if (n >= SHORTEST && n > length) {
                        length = n;
                        distance = p - q;
                    }
                }
                q = earlier(q);
            }
        }

        private void dropIfNextIsLonger(int p) {
            int ownLength = length;
            int ownDistance = distance;
            findLongest(p + 1);
            length = length > ownLength ? 0 : ownLength;
            distance = ownDistance;
        }

        private int earlier(int p) {
            return p >= 0 && p < MOST && p + SHORTEST <= to ? before[p] : NONE;
        }

        /** How many bytes from p on, below limit, are those from q on. */
        private int alike(int q, int p, int limit) {
            if (q < 0 || q >= p) {
                return 0;
            }
            int n = 0;
            while (p + n < limit && p + n < MOST && data.bytes[q + n] == data.bytes[p + n]) {
                n++;
            }
            return n;
        }
    }

    private static final class BlockWriter {
        private static final int LITERALS_IN_TAG = 60;
        private static final int LITERALS_IN_BYTE = 256;
        private static final int NEAR_BELOW = 2048;
        private static final int NEAR_LEAST = 4;
        private static final int NEAR_MOST = 11;
        private static final int FAR_MOST = 64;

        private final Row data;
        private final Row target;
        private final Matches matches;

        BlockWriter(Row data, Row target, Matches matches) {
            this.data = data;
            this.target = target;
            this.matches = matches;
        }

        void putBlock(int from, int to, int way) {
            matches.keepWithin(from, to);
            putLength(to - from);
            int literals = from;
            int p = from;
            while (p < to) {
                matches.findAt(p, way);
                if (matches.length <= 0) {
                    p++;
                } else {
                    putLiterals(literals, p);
                    putMatch(matches.length, matches.distance);
                    p += matches.length;
                    literals = p;
                }
            }
            putLiterals(literals, to);
        }

        private void putLength(int length) {
            int left = length;
            for (int k = 0; k < 4 && left > 127; k++) {
                target.put(left & 127 | 128);
                left >>>= 7;
            }
            target.put(left);
        }

        private void putLiterals(int from, int to) {
            int n = to - from;
            if (n < 1) {
                return;
            }
            if (n <= LITERALS_IN_TAG) {
                target.put(n - 1 << 2);
            } else if (n <= LITERALS_IN_BYTE) {
                target.put(60 << 2);
                target.putNumber(n - 1, 1);
            } else {
                target.put(61 << 2);
                target.putNumber(n - 1, 2);
            }
            target.putFrom(data, from, to);
        }

        /**
         * The longest copy first is the cheapest, but for one case: 1 to 3 bytes behind the
         * last long copy would need 3 bytes more; if it leaves 4 of them, a near copy of 2 does.
         */
        private void putMatch(int length, int distance) {
            boolean near = distance < NEAR_BELOW;
            int left = length;
            while (left > 0) {
                int n = Math.min(left, FAR_MOST);
                if (near && left > FAR_MOST && left < FAR_MOST + NEAR_LEAST) {
                    n = left - NEAR_LEAST;
                }
                if (near && n >= NEAR_LEAST && n <= NEAR_MOST) {
                    target.put(1 | n - NEAR_LEAST << 2 | distance >> 8 << 5);
                    target.put(distance);
                } else {
                    target.put(2 | n - 1 << 2);
                    target.putNumber(distance, 2);
                }
                left -= n;
            }
        }
    }

    private static final class StreamWriter {
        private final Row data;
        private final Row target;
        private final BlockWriter blocks;

        StreamWriter(Row data, Row target, BlockWriter blocks) {
            this.data = data;
            this.target = target;
            this.blocks = blocks;
        }

        void putMark() {
            target.put(Chunk.MARK_KIND);
            target.putNumber(Chunk.MARK.length, 3);
            for (int part : Chunk.MARK) {
                target.put(part);
            }
        }

        void putData(int from, int to, int way) {
            int begin = target.count;
            target.put(Chunk.BLOCK_KIND);
            target.putNumber(0, 3);
            target.putNumber(Sums.sumOf(data, from, to), Chunk.SUM_BYTES);
            int body = target.count;
            blocks.putBlock(from, to, way);
            if (target.count - body >= to - from) {
                target.shorten(body);
                target.set(begin, Chunk.PLAIN_KIND);
                target.putFrom(data, from, to);
            }
            // the size is known only now
            target.setNumber(begin + 1, target.count - begin - Chunk.HEAD_BYTES, 3);
        }

        void putSpare(int spare) {
            target.put(Chunk.SPARE_KIND);
            target.putNumber(spare, 3);
            for (int k = 0; k < spare; k++) {
                target.put(0);
            }
        }
    }

    /** What the writer and the reader of streams both know of a chunk. */
    private static final class Chunk {
        private static final int BLOCK_KIND = 0;
        private static final int PLAIN_KIND = 1;
        private static final int FIRST_FREE_KIND = 128;
        private static final int SPARE_KIND = 254;
        private static final int MARK_KIND = 255;
        private static final int HEAD_BYTES = 4;
        private static final int SUM_BYTES = 4;
        private static final int MOST_DATA = 65536;
        private static final int[] MARK = {115, 78, 97, 80, 112, 89};
    }

    /** Reads a block up to its first fault, which stays in fault (0: none) and faultPlace. */
    private static final class BlockReader {
        private final Row source;
        private final Row target;
        private int at = 0;
        private int end = 0;
        private int targetBegin = 0;
        private long length = 0;
        private int fault = 0;
        private int faultPlace = 0;

        BlockReader(Row source, Row target) {
            this.source = source;
            this.target = target;
        }

        void readBlock(int blockBegin, int blockEnd, int most) {
            at = blockBegin;
            end = blockEnd;
            targetBegin = target.count;
            fault = 0;
            readLength(most);
            // an element has at least one byte, so there are never more than the limit
            for (int k = 0; k < MOST && fault == 0 && at < end; k++) {
                readElement();
            }
            if (fault == 0 && made() < length) {
                fail(6, end);
            }
        }

        private void readLength(int most) {
            int begin = at;
            int part = 128;
            length = 0;
            for (int k = 0; k < 5 && part > 127 && fault == 0; k++) {
                part = next();
                length |= (long) (part & 127) << (7 * k);
                if (k == 4 && part > 15) {
                    fail(2, begin);
                }
            }
            if (length > most) {
                fail(3, begin);
            }
        }

        private void readElement() {
            int begin = at;
            int tag = next();
            int m = tag >> 2;
            switch (tag & 3) {
                case 0:
                    readLiterals(begin, 1 + (m < 60 ? m : nextNumber(m - 59)));
                    break;
                case 1:
                    readCopy(begin, m % 8 + 4, next() + 256 * (m / 8));
                    break;
                case 2:
                    readCopy(begin, m + 1, nextNumber(2));
                    break;
                default:
                    readCopy(begin, m + 1, nextNumber(4));
                    break;
            }
        }

        private void readLiterals(int begin, long howMany) {
            if (howMany > length - made()) {
                fail(5, begin);
            }
            if (howMany > end - at) {
                fail(1, end);
            }
            if (fault == 0) {
                target.putFrom(source, at, at + (int) howMany);
                at += (int) howMany;
            }
        }

        private void readCopy(int begin, int howMany, long distance) {
            if (distance == 0 || distance > made()) {
                fail(4, begin);
            }
            if (howMany > length - made()) {
                fail(5, begin);
            }
            if (fault == 0) {
                target.putBack((int) distance, howMany);
            }
        }

        private int made() {
            return target.count - targetBegin;
        }

        private int next() {
            if (at >= end) {
                fail(1, end);
                return 0;
            }
            at++;
            return source.at(at - 1) & 255;
        }

        private long nextNumber(int howMany) {
            if (howMany > end - at) {
                fail(1, end);
                return 0;
            }
            at += howMany;
            return source.numberAt(at - howMany, howMany);
        }

        /** Faults are looked for in the order in which they come: only the first one counts. */
        private void fail(int number, int where) {
            if (fault == 0) {
                fault = number;
                faultPlace = where;
            }
        }
    }

    /** Reads a stream up to its first fault, which stays in fault (0: none) and faultPlace. */
    private static final class StreamReader {
        private final Row source;
        private final Row target;
        private final BlockReader blocks;
        private int at = 0;
        private int most = 0;
        private int fault = 0;
        private int faultPlace = 0;

        StreamReader(Row source, Row target, BlockReader blocks) {
            this.source = source;
            this.target = target;
            this.blocks = blocks;
        }

        void begin(int mostInAll) {
            at = 0;
            most = mostInAll;
            fault = 0;
        }

        boolean hasMore() {
            return fault == 0 && at < source.count;
        }

        void readChunk() {
            int kind = source.at(at);
            int chunkBytes = (int) source.numberAt(at + 1, 3);
            checkHead(kind, chunkBytes);
            if (fault != 0) {
                return;
            }
            int body = at + Chunk.HEAD_BYTES;
            int end = body + chunkBytes;
            int made = target.count;
            if (kind == Chunk.MARK_KIND) {
                checkMark(body, end);
            } else if (kind == Chunk.BLOCK_KIND) {
                blocks.readBlock(body + Chunk.SUM_BYTES, end, Math.min(most - made, Chunk.MOST_DATA));
                takeFaultOfBlock();
                checkSum(body, made);
            } else if (kind == Chunk.PLAIN_KIND) {
                readPlain(body + Chunk.SUM_BYTES, end);
                checkSum(body, made);
            }
            at = end;
        }

        private void checkHead(int kind, int chunkBytes) {
            // below 0, and so below every size, when the head itself is not whole
            int left = source.count - at - Chunk.HEAD_BYTES;
            boolean hasData = kind == Chunk.BLOCK_KIND || kind == Chunk.PLAIN_KIND;
            if (at == 0 && kind != Chunk.MARK_KIND) {
                fail(8, at);
            } else if (!hasData && kind < Chunk.FIRST_FREE_KIND) {
                fail(9, at);
            } else if (chunkBytes > left) {
                fail(7, source.count);
            } else if (hasData && chunkBytes < Chunk.SUM_BYTES) {
                fail(10, at);
            } else if (kind == Chunk.PLAIN_KIND && chunkBytes > Chunk.SUM_BYTES + Chunk.MOST_DATA) {
                fail(10, at);
            }
        }

        private void checkMark(int body, int end) {
            boolean isMark = end - body == Chunk.MARK.length;
            for (int k = 0; isMark && k < Chunk.MARK.length; k++) {
                isMark = source.at(body + k) == Chunk.MARK[k];
            }
            if (!isMark) {
                fail(8, at);
            }
        }

        private void takeFaultOfBlock() {
            if (blocks.fault != 0) {
                fail(blocks.fault == 1 ? 12 : blocks.fault, blocks.faultPlace);
            }
        }

        private void readPlain(int from, int end) {
            int mayBe = most - target.count;
            if (end - from > mayBe) {
                fail(3, from + mayBe);
            } else {
                target.putFrom(source, from, end);
            }
        }

        private void checkSum(int sumPlace, int dataBegin) {
            int told = (int) source.numberAt(sumPlace, Chunk.SUM_BYTES);
            if (fault == 0 && told != Sums.sumOf(target, dataBegin, target.count)) {
                fail(11, sumPlace);
            }
        }

        private void fail(int number, int where) {
            if (fault == 0) {
                fault = number;
                faultPlace = where;
            }
        }
    }
}
