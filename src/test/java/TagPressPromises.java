import java.lang.reflect.Constructor;
import java.lang.reflect.Method;
import java.lang.reflect.Modifier;
import java.util.Arrays;
import java.util.TreeSet;

/** Each promise of the document by hand: ordinary inputs, the edges it names, and wrong inputs. */
public final class TagPressPromises {
    private static final String MARK = "255 6 0 0 115 78 97 80 112 89";
    private static int wrong = 0;
    private static String part = "";

    public static void main(String[] args) {
        face();
        newObject();
        writing();
        appendingAgain();
        clearing();
        turning();
        packingRows();
        packingWays();
        packingCopies();
        packingLiterals();
        packingLimits();
        unpackingGood();
        unpackingFaults();
        unpackingOrder();
        chunksOrdinary();
        chunksEdges();
        unchunkingGood();
        unchunkingFaults();
        unchunkingOrder();
        placing();
        summing();
        sizeAndByteAt();
        System.out.println(wrong == 0 ? "all promises hold" : wrong + " answers are not as due");
        if (wrong != 0) {
            System.exit(1);
        }
    }

    // ---- helpers

    private static void due(String what, long got, long want) {
        if (got != want) {
            wrong++;
            System.out.println(part + ": " + what + " answered " + got + ", due is " + want);
        }
    }

    private static void due(String what, boolean got, boolean want) {
        due(what, got ? 1 : 0, want ? 1 : 0);
    }

    private static void due(String what, String got, String want) {
        if (!got.equals(want)) {
            wrong++;
            System.out.println(part + ": " + what + " is " + got + ", due is " + want);
        }
    }

    /** An object whose IN has these bytes, told as numbers with spaces between. */
    private static TagPress with(String numbers) {
        TagPress x = new TagPress();
        add(x, numbers);
        return x;
    }

    private static void add(TagPress x, String numbers) {
        if (!numbers.isEmpty()) {
            for (String number : numbers.split(" ")) {
                due("write of " + number, x.write(Long.parseLong(number) << 56, 1), true);
            }
        }
    }

    private static TagPress withText(String text) {
        TagPress x = new TagPress();
        for (int k = 0; k < text.length(); k++) {
            due("write", x.write((long) text.charAt(k) << 56, 1), true);
        }
        return x;
    }

    private static String out(TagPress x) {
        StringBuilder all = new StringBuilder();
        for (int k = 0; k < x.size(); k++) {
            all.append(k == 0 ? "" : " ").append(x.byteAt(k));
        }
        return all.toString();
    }

    private static String codes(String text) {
        StringBuilder all = new StringBuilder();
        for (int k = 0; k < text.length(); k++) {
            all.append(k == 0 ? "" : " ").append((int) text.charAt(k));
        }
        return all.toString();
    }

    private static String numbers(int value, int n) {
        StringBuilder all = new StringBuilder();
        for (int k = 0; k < n; k++) {
            all.append(k == 0 ? "" : " ").append(value);
        }
        return all.toString();
    }

    private static String four(int number) {
        return (number & 255) + " " + (number >> 8 & 255) + " " + (number >> 16 & 255) + " " + (number >>> 24);
    }

    private static String sumOf(String numbers) {
        return four(with(numbers).sum());
    }

    private static void packs(String text, int way, String block) {
        TagPress x = withText(text);
        x.pack(way);
        due("block of '" + text + "' in way " + way, out(x), block);
    }

    private static void unpacks(String block, int most, int answer, int place) {
        TagPress x = with(block);
        x.pack(0);
        String before = out(x);
        due("unpack(" + most + ") of " + block, x.unpack(most), answer);
        due("place after unpack(" + most + ") of " + block, x.place(), place);
        if (answer < 0) {
            due("OUT after a fault", out(x), before);
        }
    }

    private static void unchunks(String stream, int most, int answer, int place) {
        TagPress x = with(stream);
        x.pack(0);
        String before = out(x);
        due("unchunk(" + most + ") of " + stream, x.unchunk(most), answer);
        due("place after unchunk(" + most + ") of " + stream, x.place(), place);
        if (answer < 0) {
            due("OUT after a fault", out(x), before);
        }
    }

    /**
     * IN with n bytes in which no four that stand together come twice. (The long ones take more
     * than 512 calls: the only way to a block that is too long, and this class does not tire.)
     */
    private static TagPress withoutMatch(int n) {
        TagPress x = new TagPress();
        for (int k = 0; k < n; k += 8) {
            long eight = 0;
            for (int place = k; place < k + 8; place++) {
                eight = eight << 8 | unlike(place);
            }
            due("write", x.write(eight, Math.min(8, n - k)), true);
        }
        return x;
    }

    private static int unlike(int place) {
        return place % 2 == 0 ? place / 2 % 128 : 128 + place / 256;
    }

    // ---- the face

    private static void face() {
        part = "the face";
        due("public", Modifier.isPublic(TagPress.class.getModifiers()), true);
        due("final", Modifier.isFinal(TagPress.class.getModifiers()), true);
        TreeSet<String> methods = new TreeSet<>();
        for (Method method : TagPress.class.getDeclaredMethods()) {
            if (!Modifier.isPrivate(method.getModifiers()) && !method.isSynthetic()) {
                methods.add(method.getReturnType().getSimpleName() + " " + method.getName() + Arrays.toString(method.getParameterTypes()));
            }
        }
        due("methods", methods.toString(), new TreeSet<>(Arrays.asList(
            "boolean write[long, int]", "boolean again[int, int]", "void clear[]", "void turn[]", "int pack[int]",
            "int unpack[int]", "int chunks[int, int, int]", "int unchunk[int]", "int place[]", "int sum[]",
            "int size[]", "int byteAt[int]")).toString());
        Constructor<?>[] made = TagPress.class.getDeclaredConstructors();
        due("constructors", made.length, 1);
        due("constructor's parameters", made[0].getParameterCount(), 0);
        due("fields that can be seen", Arrays.stream(TagPress.class.getDeclaredFields())
            .filter(field -> !Modifier.isPrivate(field.getModifiers())).count(), 0);
    }

    // ---- promises 1 to 5

    private static void newObject() {
        part = "promise 1";
        TagPress x = new TagPress();
        due("size()", x.size(), 0);
        due("place()", x.place(), 0);
        due("byteAt(0)", x.byteAt(0), -1);
        due("again(1, 1)", x.again(1, 1), false);
        due("pack(0)", x.pack(0), 1);
        due("OUT", out(x), "0");
        TagPress other = new TagPress();
        due("another object's size()", other.size(), 0);
    }

    private static void writing() {
        part = "promise 2";
        TagPress x = new TagPress();
        due("n 0", x.write(-1L, 0), false);
        due("n -1", x.write(-1L, -1), false);
        due("n 9", x.write(-1L, 9), false);
        due("n least", x.write(-1L, Integer.MIN_VALUE), false);
        due("n most", x.write(-1L, Integer.MAX_VALUE), false);
        due("n 3", x.write(0xFF8001AABBCCDDEEL, 3), true);
        due("n 8", x.write(0x0102030405060708L, 8), true);
        x.pack(0);
        due("OUT", out(x), "11 40 255 128 1 1 2 3 4 5 6 7 8");
        x = with("1 2 3 4 5");
        due("up to 9,995", x.again(5, 1998), true);
        due("6 too many by one", x.write(0L, 6), false);
        due("5 that fit", x.write(0x0909090909000000L, 5), true);
        due("one too many", x.write(0L, 1), false);
        due("pack(2)", x.pack(2) > 0, true);
        x.turn();
        due("unpack", x.unpack(10000), 10000);
        due("the last", x.byteAt(9999), 9);
        due("the last but five", x.byteAt(9994), 5);
    }

    private static void appendingAgain() {
        part = "promise 3";
        TagPress x = with("7 8 9");
        due("m 0", x.again(0, 1), false);
        due("m -1", x.again(-1, 1), false);
        due("m 4", x.again(4, 1), false);
        due("m 4, n 0", x.again(4, 0), false);
        due("n -1", x.again(1, -1), false);
        due("n least", x.again(1, Integer.MIN_VALUE), false);
        due("n most", x.again(3, Integer.MAX_VALUE), false);
        due("m * n is 2^32 + 2", x.again(2, Integer.MAX_VALUE), false);
        due("n 0", x.again(3, 0), true);
        due("2 of 2", x.again(2, 2), true);
        x.pack(0);
        due("OUT: 7 8 9, and 4 bytes from 2 back", out(x), "7 8 7 8 9 1 2");
        due("10,001", x.again(1, 9994), false);
        due("10,000", x.again(1, 9993), true);
        due("full, n 0", x.again(10000, 0), true);
        due("full, n 1", x.again(1, 1), false);
        TagPress y = new TagPress();
        due("empty, n 0", y.again(1, 0), false);
        due("empty, m 0", y.again(0, 0), false);
    }

    private static void clearing() {
        part = "promise 4";
        TagPress x = with("1 0 5");
        due("unpack", x.unpack(1), 1);
        x.clear();
        due("OUT stays", out(x), "5");
        due("PLACE stays", x.place(), 3);
        due("again", x.again(1, 1), false);
        due("sum", x.sum(), new TagPress().sum());
        add(x, "9");
        x.pack(0);
        due("OUT", out(x), "1 0 9");
        // what stood in IN before it was cleared is no match
        x = withText("abcdefgh");
        x.pack(0);
        x.clear();
        add(x, codes("efgh"));
        x.pack(2);
        due("OUT", out(x), "4 12 " + codes("efgh"));
    }

    private static void turning() {
        part = "promise 5";
        TagPress x = with("1 2 3");
        x.pack(0);
        x.turn();
        due("OUT stays", out(x), "3 8 1 2 3");
        x.pack(0);
        due("IN was OUT", out(x), "5 16 3 8 1 2 3");
        add(x, "77");
        due("OUT is another row", out(x), "5 16 3 8 1 2 3");
        x.turn();
        due("sum", x.sum(), with("5 16 3 8 1 2 3").sum());
        TagPress y = with("1");
        y.turn();
        due("empty", y.again(1, 1), false);
    }

    // ---- promise 6

    private static void packingRows() {
        part = "promise 6";
        packs("", 0, "0");
        packs("a", 0, "1 0 97");
        packs("abcdabc", 0, "7 24 " + codes("abcdabc"));
        packs("abcdabcd", 0, "8 12 97 98 99 100 1 4");
        packs("aaaa", 0, "4 12 97 97 97 97");
        packs("aaaaa", 0, "5 0 97 1 1");
        TagPress x = withText("abcdabcd");
        due("answer", x.pack(3), 8);
        for (int way : new int[] {-1, 4, 100, Integer.MIN_VALUE, Integer.MAX_VALUE}) {
            due("way " + way, x.pack(way), -1);
            due("OUT stays", out(x), "8 12 97 98 99 100 1 4");
        }
        TagPress y = with("1 0 5");
        y.unpack(5);
        y.pack(0);
        due("PLACE stays", y.place(), 3);
        x = with("3");
        x.again(1, 126);
        x.pack(0);
        due("length 127", x.byteAt(0), 127);
        x.again(1, 1);
        x.pack(0);
        due("length 128", x.byteAt(0) + 256 * x.byteAt(1), 128 + 256);
        x.again(1, 9872);
        x.pack(0);
        due("length 10000", x.byteAt(0) + 256 * x.byteAt(1), 10000 % 128 + 128 + 256 * (10000 / 128));
    }

    private static void packingWays() {
        part = "promise 6, ways";
        // at the last 'abcdefgh': nearest 'abcdX' (4 bytes), then 'abcdefghY' (8), then 'abcdefghij' (10)
        String text = "abcdefghij1abcdefgh2abcd3abcdefghij";
        TagPress x = withText(text);
        due("way 0", x.pack(0), x.size());
        // 11 literals, copy 8 from 11, '2', copy 4 from 9, '3', copy 4 from 5, copy .. of 'efghij': 'efgh' from 14, 'ij'
        due("way 0", out(x), "35 40 " + codes("abcdefghij1") + " 17 11 0 50 1 9 0 51 1 5 1 14 4 105 106");
        x.pack(1);
        // copy 8 from 14 (the nearest of eight or more), then 'ij'
        due("way 1", out(x), "35 40 " + codes("abcdefghij1") + " 17 11 0 50 1 9 0 51 17 14 4 105 106");
        x.pack(2);
        due("way 2", out(x), "35 40 " + codes("abcdefghij1") + " 17 11 0 50 1 9 0 51 25 25");
        x.pack(3);
        due("way 3", out(x), "35 40 " + codes("abcdefghij1") + " 17 11 0 50 1 9 0 51 25 25");
        // of the longest the nearest
        packs("abcdX1abcdX2abcdX3", 2, "18 20 " + codes("abcdX1") + " 5 6 0 50 5 6 0 51");
        // at 'z': zabc (4); at the next: abcdefg (7): way 2 takes the first, way 3 the second
        packs("zabc1abcdefg2zabcdefg", 2, "21 48 " + codes("zabc1abcdefg2") + " 1 13 1 9");
        packs("zabc1abcdefg2zabcdefg", 3, "21 52 " + codes("zabc1abcdefg2z") + " 13 9");
        // as long is not longer: zabcd (5) against abcde (5)
        packs("zabcd1abcde2zabcde", 3, "18 20 " + codes("zabcd1") + " 1 5 4 101 50 5 12 0 101");
        // a match may run on into what it makes
        packs("ababababab", 0, "10 4 97 98 17 2");
        packs("ababababab", 3, "10 4 97 98 17 2");
        // and it ends with the data: 3 bytes alike are none
        packs("abcdeabc", 2, "8 28 " + codes("abcdeabc"));
    }

    private static void packingCopies() {
        part = "promise 6, copies";
        copies(4, 1, "1 1");
        copies(11, 1, "29 1");
        copies(12, 1, "46 1 0");
        copies(64, 1, "254 1 0");
        // 64 and 1 would be six bytes; 61 and 4 are five
        copies(65, 1, "242 1 0 1 1");
        copies(66, 1, "246 1 0 1 1");
        copies(67, 1, "250 1 0 1 1");
        copies(68, 1, "254 1 0 1 1");
        copies(75, 1, "254 1 0 29 1");
        copies(76, 1, "254 1 0 46 1 0");
        copies(128, 1, "254 1 0 254 1 0");
        copies(129, 1, "254 1 0 242 1 0 1 1");
        farCopy(2047, 4, "225 255");
        farCopy(2047, 65, "242 255 7 225 255");
        farCopy(2048, 4, "14 0 8");
        farCopy(2048, 11, "42 0 8");
        farCopy(2048, 65, "254 0 8 2 0 8");
    }

    private static void copies(int length, int distance, String elements) {
        TagPress x = with("5");
        x.again(distance, length);
        x.pack(0);
        String all = out(x);
        String want = "0 5 " + elements;
        due("copies of " + length, all.substring(all.length() - want.length()), want);
        due("bytes", x.size(), want.split(" ").length + (length + 1 > 127 ? 2 : 1));
    }

    private static void farCopy(int distance, int length, String elements) {
        TagPress x = withoutMatch(distance);
        for (int k = 0; k < length; k++) {
            x.write((long) unlike(k) << 56, 1);
        }
        x.pack(2);
        StringBuilder end = new StringBuilder();
        int first = 2 + 3 + distance;
        for (int k = first; k < x.size(); k++) {
            end.append(k == first ? "" : " ").append(x.byteAt(k));
        }
        due("a match of " + length + " from " + distance, end.toString(), elements);
    }

    private static void packingLiterals() {
        part = "promise 6, literals";
        literals(1, "1 0");
        literals(60, "60 236");
        literals(61, "61 240 60");
        literals(256, "128 2 240 255");
        literals(257, "129 2 244 0 1");
        literals(2000, "208 15 244 207 7");
    }

    private static void literals(int n, String head) {
        TagPress x = withoutMatch(n);
        int headBytes = head.split(" ").length;
        due("block of " + n, x.pack(0), n + headBytes);
        String all = out(x) + " ";
        due("head of " + n, all.substring(0, head.length() + 1), head + " ");
        due("last of " + n, x.byteAt(n + headBytes - 1), unlike(n - 1));
    }

    private static void packingLimits() {
        part = "promise 6, limits";
        TagPress x = withoutMatch(9995);
        due("9,995 literals", x.pack(2), 10000);
        x.write(255L << 56, 1);
        due("9,996 literals", x.pack(2), -1);
        due("OUT stays", x.size(), 10000);
        due("OUT stays", x.byteAt(0), 9995 % 128 + 128);
        due("kept in one chunk", x.chunks(10000, 2, 0), -1);
        x = withoutMatch(9982);
        due("a chunk of 10,000", x.chunks(10000, 0, 0), 10000);
        due("kind", x.byteAt(10), 1);
        due("last", x.byteAt(9999), unlike(9981));
        x.write(255L << 56, 1);
        due("a chunk of 10,001", x.chunks(10000, 0, 0), -1);
        due("OUT stays", x.size(), 10000);
    }

    // ---- promise 7

    private static void unpackingGood() {
        part = "promise 7";
        TagPress x = with("0");
        due("empty", x.unpack(0), 0);
        due("place", x.place(), 1);
        x = with("12 8 1 2 3 1 3 11 2 0 0 0 6 3 0");
        due("copies of all kinds", x.unpack(12), 12);
        due("OUT", out(x), "1 2 3 1 2 3 1 3 1 3 3 1");
        due("place", x.place(), 15);
        unpacks("128 0", 0, 0, 2);
        unpacks("129 128 128 128 0 0 9", 1, 1, 7);
        unpacks("1 240 0 9", 1, 1, 4);
        unpacks("1 244 0 0 9", 1, 1, 5);
        unpacks("1 248 0 0 0 9", 1, 1, 6);
        unpacks("1 252 0 0 0 0 9", 1, 1, 7);
        x = with("6 0 200 18 1 0");
        due("copied again", x.unpack(10000), 6);
        due("OUT", out(x), "200 200 200 200 200 200");
        x = withoutMatch(1792);
        x.pack(0);
        x.turn();
        for (int most : new int[] {-1, 10001, Integer.MIN_VALUE, Integer.MAX_VALUE}) {
            due("most " + most, x.unpack(most), -20);
            due("place stays", x.place(), 0);
            due("OUT stays", x.size(), 1797);
        }
        near();
    }

    /** A copy of k 1 from 1,792 back, which its m tells, behind 1,792 literals. */
    private static void near() {
        TagPress x = withoutMatch(1792);
        x.pack(0);
        x.turn();
        add(x, "225 0");
        due("k 1 leads too far", x.unpack(10000), -5);
        due("place", x.place(), 1797);
        x = new TagPress();
        add(x, "132 14 244 255 6");
        x.write(0x0B0C0D0E00000000L, 8);
        x.again(1, 1784);
        add(x, "225 0");
        due("k 1 of 1,792", x.unpack(10000), 1796);
        due("the first again", x.byteAt(1792), 11);
        due("the fourth again", x.byteAt(1795), 14);
    }

    private static void unpackingFaults() {
        part = "promise 7, faults";
        unpacks("", 10000, -1, 0);
        unpacks("128", 10000, -1, 1);
        unpacks("255 255 255 255", 10000, -1, 4);
        unpacks("5 0", 10, -1, 2);
        unpacks("5 16 1 2 3 4", 10, -1, 6);
        unpacks("5 240", 10, -1, 2);
        unpacks("5 252 0 0 0", 10, -1, 5);
        unpacks("9 0 1 1", 10, -1, 4);
        unpacks("9 0 1 2 1", 10, -1, 5);
        unpacks("9 0 1 3 1 0 0", 10, -1, 7);
        unpacks("255 255 255 255 16", 10000, -2, 0);
        unpacks("128 128 128 128 128", 10000, -2, 0);
        unpacks("128 128 128 128 16 0", 10000, -2, 0);
        unpacks("255 255 255 255 15", 10000, -3, 0);
        unpacks("128 128 128 128 8", 10000, -3, 0);
        unpacks("2 4 1 1", 1, -3, 0);
        unpacks("2 4 1 1", 2, 2, 4);
        unpacks("145 78", 10000, -3, 0);
        unpacks("9 0 1 1 0", 10, -4, 3);
        unpacks("9 0 1 1 2", 10, -4, 3);
        unpacks("9 0 1 2 0 0", 10, -4, 3);
        unpacks("9 0 1 2 2 0", 10, -4, 3);
        unpacks("9 0 1 3 0 0 0 0", 10, -4, 3);
        unpacks("9 0 1 3 1 0 0 128", 10, -4, 3);
        unpacks("9 0 1 3 255 255 255 255", 10, -4, 3);
        unpacks("9 1 1", 10, -4, 1);
        unpacks("0 0", 10, -5, 1);
        unpacks("2 8 1 2 3", 10, -5, 1);
        unpacks("4 0 7 1 1", 10, -5, 3);
        unpacks("5 0 7 1 1", 10, 5, 5);
        unpacks("5 252 255 255 255 255", 10, -5, 1);
        unpacks("5", 10, -6, 1);
        unpacks("5 12 1 2 3 4", 10, -6, 6);
        unpacks("6 0 7 1 1", 10, -6, 5);
    }

    private static void unpackingOrder() {
        part = "promise 7, which fault comes first";
        // 4 before 5 of the same element
        unpacks("2 0 1 1 9", 10, -4, 3);
        unpacks("2 0 1 255 255 255 255 255", 10, -4, 3);
        // 5 before 1 of its literals, but 1 of what comes ahead of them before 5
        unpacks("2 20 1", 10, -5, 1);
        unpacks("2 244 9", 10, -1, 3);
        unpacks("0 2 0", 10, -1, 3);
        unpacks("0 1", 10, -1, 2);
        // 3 before all faults of the elements, 1 of the length before 3
        unpacks("11 1 0", 10, -3, 0);
        unpacks("255", 10, -1, 1);
        unpacks("255 255 255 255", 0, -1, 4);
        // the first element's fault before the second's
        unpacks("9 1 1 0 1", 10, -4, 1);
    }

    // ---- promise 8

    private static void chunksOrdinary() {
        part = "promise 8";
        TagPress x = new TagPress();
        due("empty", x.chunks(10000, 0, 255), 10);
        due("OUT", out(x), MARK);
        x = with("1 2 3 4 5");
        due("rows of 2", x.chunks(2, 0, 0), 10 + 10 + 10 + 9);
        due("OUT", out(x), MARK + " 1 6 0 0 " + sumOf("1 2") + " 1 2 1 6 0 0 " + sumOf("3 4") + " 3 4 1 5 0 0 " + sumOf("5") + " 5");
        due("spare", x.chunks(3, 1, 2), 10 + 11 + 6 + 10 + 6);
        due("OUT", out(x), MARK + " 1 7 0 0 " + sumOf("1 2 3") + " 1 2 3 254 2 0 0 0 0 1 6 0 0 " + sumOf("4 5") + " 4 5 254 2 0 0 0 0");
        x = with("9");
        x.again(1, 299);
        x.chunks(300, 2, 0);
        String block = "172 2 0 9 254 1 0 254 1 0 254 1 0 254 1 0 170 1 0";
        due("a block", out(x), MARK + " 0 23 0 0 " + sumOf(numbers(9, 300)) + " " + block);
        due("blocks have no match in the row before", x.chunks(100, 2, 0), 10 + 3 * (8 + 9));
        x = with("1 0 9");
        x.unpack(1);
        x.chunks(1, 0, 0);
        due("PLACE stays", x.place(), 3);
    }

    private static void chunksEdges() {
        part = "promise 8, edges";
        // a block of as many bytes as the row has is not fewer; of one fewer it is
        TagPress x = with("7 7 7 7 7");
        x.pack(0);
        due("block", x.size(), 5);
        due("as many", x.chunks(10000, 0, 0), 10 + 8 + 5);
        due("kind", x.byteAt(10), 1);
        x.again(1, 1);
        due("one fewer", x.chunks(10000, 0, 0), 10 + 8 + 5);
        due("kind", x.byteAt(10), 0);
        due("size", x.byteAt(11), 9);
        String before = out(x);
        int[][] wrongCalls = {{0, 0, 0}, {-1, 0, 0}, {10001, 0, 0}, {1, -1, 0}, {1, 4, 0}, {1, 0, -1}, {1, 0, 256},
            {Integer.MIN_VALUE, 0, 0}, {Integer.MAX_VALUE, 0, 0}, {1, Integer.MIN_VALUE, 0}, {1, 0, Integer.MAX_VALUE}};
        for (int[] call : wrongCalls) {
            due("chunks" + Arrays.toString(call), x.chunks(call[0], call[1], call[2]), -1);
            due("OUT stays", out(x), before);
        }
        due("spare 255", x.chunks(10000, 3, 255), 10 + 13 + 259);
        due("last but 255", x.byteAt(26), 0);
        due("kind", x.byteAt(23), 254);
        due("size", x.byteAt(24), 255);
        // 10 + 9 * 1,110 are 10,000
        x = with("1");
        x.again(1, 1109);
        due("1,110 rows of one", x.chunks(1, 2, 0), 10000);
        x.again(1, 1);
        due("1,111 rows of one", x.chunks(1, 2, 0), -1);
        due("OUT stays", x.size(), 10000);
        x.again(1, 8889);
        due("10,000 rows of one", x.chunks(1, 2, 255), -1);
        x = withoutMatch(9976);
        due("a spare chunk to the end", x.chunks(10000, 0, 2), 10000);
        due("a spare byte too many", x.chunks(10000, 0, 3), -1);
    }

    // ---- promise 9

    private static void unchunkingGood() {
        part = "promise 9";
        unchunks("", 0, 0, 0);
        unchunks(MARK, 0, 0, 10);
        unchunks(MARK + " " + MARK, 0, 0, 20);
        unchunks(MARK + " 128 0 0 0 254 1 0 0 9 200 2 0 0 1 1", 0, 0, 25);
        String plain = " 1 7 0 0 " + sumOf("5 6 7") + " 5 6 7";
        String packed = " 0 9 0 0 " + sumOf("7 7 7 7 7") + " 5 0 7 1 1";
        TagPress x = with(MARK + plain + packed + plain);
        due("three", x.unchunk(11), 11);
        due("OUT", out(x), "5 6 7 7 7 7 7 7 5 6 7");
        due("place", x.place(), 10 + 11 + 13 + 11);
        unchunks(MARK + " 1 4 0 0 " + sumOf("") + " 0 5 0 0 " + sumOf("") + " 0", 0, 0, 27);
        for (int most : new int[] {-1, 10001, Integer.MIN_VALUE, Integer.MAX_VALUE}) {
            due("most " + most, x.unchunk(most), -20);
            due("place stays", x.place(), 45);
            due("OUT stays", x.size(), 11);
        }
        // a block does not reach back into the chunk before
        unchunks(MARK + plain + " 0 7 0 0 0 0 0 0 4 1 1", 100, -4, 10 + 11 + 9);
    }

    private static void unchunkingFaults() {
        part = "promise 9, faults";
        String good = sumOf("7 7 7 7 7");
        unchunks("255", 100, -7, 1);
        unchunks("255 6 0", 100, -7, 3);
        unchunks("255 6 0 0 115 78 97 80 112", 100, -7, 9);
        unchunks(MARK + " 254 1 0 0", 100, -7, 14);
        unchunks(MARK + " 0", 100, -7, 11);
        unchunks(MARK + " 1 5 0 0 1 2 3 4", 100, -7, 18);
        unchunks(MARK + " 200 0 0 1", 100, -7, 14);
        unchunks("0", 100, -8, 0);
        unchunks("254 0 0 0", 100, -8, 0);
        unchunks("2 0 0 0", 100, -8, 0);
        unchunks("255 6 0 0 115 78 97 80 112 88", 100, -8, 0);
        unchunks("255 5 0 0 115 78 97 80 112", 100, -8, 0);
        unchunks("255 7 0 0 115 78 97 80 112 89 0", 100, -8, 0);
        unchunks("255 0 0 0", 100, -8, 0);
        unchunks(MARK + " 255 6 0 0 114 78 97 80 112 89", 100, -8, 10);
        unchunks(MARK + " 2 0 0 0", 100, -9, 10);
        unchunks(MARK + " 127", 100, -9, 10);
        unchunks(MARK + " 128", 100, -7, 11);
        unchunks(MARK + " 0 3 0 0 1 2 3", 100, -10, 10);
        unchunks(MARK + " 1 0 0 0", 100, -10, 10);
        unchunks(MARK + " 1 3 0 0 1 2 3", 100, -10, 10);
        unchunks(MARK + " 0 4 0 0 1 2 3 4", 100, -12, 18);
        unchunks(MARK + " 0 6 0 0 " + good + " 5 0", 100, -12, 20);
        unchunks(MARK + " 0 9 0 0 1 2 3 4 255 255 255 255 16", 100, -2, 18);
        unchunks(MARK + " 0 9 0 0 " + good + " 5 0 7 1 1", 4, -3, 18);
        unchunks(MARK + " 0 9 0 0 " + good + " 5 0 7 1 1", 5, 5, 23);
        unchunks(MARK + " 0 7 0 0 1 2 3 4 128 128 5", 10000, -3, 18);
        unchunks(MARK + " 0 9 0 0 " + good + " 5 0 7 1 2", 100, -4, 21);
        unchunks(MARK + " 0 9 0 0 " + good + " 4 0 7 1 1", 100, -5, 21);
        unchunks(MARK + " 0 9 0 0 " + good + " 6 0 7 1 1", 100, -6, 23);
        unchunks(MARK + " 0 9 0 0 " + good + " 5 0 8 1 1", 100, -11, 14);
        unchunks(MARK + " 1 6 0 0 " + sumOf("1 2") + " 1 2", 2, 2, 20);
        unchunks(MARK + " 1 6 0 0 " + sumOf("1 2") + " 1 2", 1, -3, 19);
        unchunks(MARK + " 1 6 0 0 " + sumOf("1 2") + " 1 2", 0, -3, 18);
        unchunks(MARK + " 1 6 0 0 " + sumOf("1 2") + " 2 1", 2, -11, 14);
        String two = MARK + " 1 6 0 0 " + sumOf("1 2") + " 1 2";
        unchunks(two + " 1 6 0 0 " + sumOf("1 2") + " 1 2", 3, -3, 29);
        unchunks(two + " 0 9 0 0 " + good + " 5 0 7 1 1", 6, -3, 28);
        unchunks(two + " 0 9 0 0 " + good + " 5 0 7 1 1", 7, 7, 33);
        unchunks(two + " 0 9 0 0 " + good + " 5 0 8 1 1", 7, -11, 24);
    }

    private static void unchunkingOrder() {
        part = "promise 9, which fault comes first";
        // 8 of the first KIND before 9 and 7; that of the mark only when it is there as a whole
        unchunks("5", 100, -8, 0);
        unchunks("255 7 0 0 1 2 3", 100, -7, 7);
        unchunks(MARK + " 255 5 0 0 1", 100, -7, 15);
        // 9 before 7, 7 before 10
        unchunks(MARK + " 9 255", 100, -9, 10);
        unchunks(MARK + " 0 3 0 0 1", 100, -7, 15);
        unchunks(MARK + " 1 5 0 1", 100, -7, 14);
        // 7 before the block's own faults, these before 11
        unchunks(MARK + " 0 10 0 0 1 2 3 4 255 255 255 255 255", 100, -7, 23);
        unchunks(MARK + " 1 6 0 0 0 0 0 0 1 2", 1, -3, 19);
        unchunks(MARK + " 0 7 0 0 0 0 0 0 3 1 1", 100, -4, 19);
        // the first chunk's fault before the second's
        unchunks(MARK + " 1 5 0 0 0 0 0 0 1 9 0 0 0", 100, -11, 14);
        // a block ends with its chunk, though IN goes on
        unchunks(MARK + " 0 6 0 0 0 0 0 0 5 16 128 0 0 0", 100, -12, 20);
    }

    // ---- promises 10 to 13

    private static void placing() {
        part = "promise 10";
        TagPress x = with("1 0 5");
        due("unpack", x.unpack(1), 1);
        due("place", x.place(), 3);
        x.unpack(-1);
        x.unchunk(10001);
        x.pack(9);
        x.pack(1);
        x.chunks(1, 1, 1);
        x.write(0L, 1);
        x.again(1, 1);
        x.turn();
        x.clear();
        x.sum();
        due("place stays", x.place(), 3);
        due("unchunk", x.unchunk(0), 0);
        due("place", x.place(), 0);
        add(x, "1 0 5 0 6");
        due("unpack", x.unpack(1), -5);
        due("place", x.place(), 3);
        due("unchunk", x.unchunk(1), -8);
        due("place", x.place(), 0);
    }

    private static void summing() {
        part = "promise 11";
        due("empty", new TagPress().sum(), (int) 2726488792L);
        // CRC-32C of "123456789" is E3069283; rotated to the left by 17, and the sum
        int crc = 0xE3069283;
        due("123456789", withText("123456789").sum(), Integer.rotateLeft(crc, 17) + (int) 2726488792L);
        // CRC-32C of 32 bytes 0 is 8A9136AA, of 32 bytes 255 it is 62A8AB43
        TagPress x = with("0");
        x.again(1, 31);
        due("32 bytes 0", x.sum(), Integer.rotateLeft(0x8A9136AA, 17) + (int) 2726488792L);
        x = with("255");
        x.again(1, 31);
        due("32 bytes 255", x.sum(), Integer.rotateLeft(0x62A8AB43, 17) + (int) 2726488792L);
        x.pack(0);
        due("of IN, not OUT", x.sum(), Integer.rotateLeft(0x62A8AB43, 17) + (int) 2726488792L);
        due("it is the last four bytes of a chunk's head", out(chunked()), MARK + " 1 5 0 0 " + sumOf("200") + " 200");
    }

    private static TagPress chunked() {
        TagPress x = with("200");
        x.chunks(1, 0, 0);
        return x;
    }

    private static void sizeAndByteAt() {
        part = "promises 12 and 13";
        TagPress x = with("255 128 0");
        due("size", x.size(), 0);
        due("pack", x.pack(0), 5);
        due("size", x.size(), 5);
        int[] want = {3, 8, 255, 128, 0};
        for (int k = 0; k < 5; k++) {
            due("byteAt(" + k + ")", x.byteAt(k), want[k]);
        }
        for (int k : new int[] {-1, 5, 6, 9999, 10000, Integer.MIN_VALUE, Integer.MAX_VALUE}) {
            due("byteAt(" + k + ")", x.byteAt(k), -1);
        }
        x.clear();
        due("pack", x.pack(0), 1);
        due("size", x.size(), 1);
        due("byteAt(1), of an older OUT", x.byteAt(1), -1);
        x.turn();
        due("unpack", x.unpack(0), 0);
        due("size", x.size(), 0);
        due("byteAt(0)", x.byteAt(0), -1);
    }
}
