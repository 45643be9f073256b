/** Promise 7, and of the terms what they say of reading a block. */
public final class UnpackTest {
    public static void main(String[] args) {
        Tests.begin();
        refusing();
        lengths();
        lengthFaults();
        most();
        literals();
        literalFaults();
        literalNumbersTooLarge();
        copyLengths();
        copyDistances();
        copiesOfCopies();
        distanceFaults();
        tooMany();
        tooFew();
        endsEarly();
        whichFirst();
        afterwards();
        fullRows();
        Tests.end();
    }

    private static void reads(String sentence, String in, int most, String out) {
        Tests.test("7: " + sentence, () -> {
            Press x = new Press(in);
            Tests.due("unpack", x.unpack(most), Bytes.count(out));
            x.duePlace(Bytes.count(in));
            x.dueIn(in);
            if (Bytes.count(out) < 300) {
                x.dueOut(out);
            } else {
                x.dueLongOut(out);
            }
        });
    }

    private static void faults(String sentence, String in, int most, int fault, int place) {
        Tests.test("7: fault " + fault + ": " + sentence, () -> {
            Press x = Press.settled();
            x.clear();
            x.put(in);
            Tests.due("unpack", x.unpack(most), -fault);
            x.duePlace(place);
            x.dueOut("1 2 3");
            x.dueIn(in);
        });
    }

    private static void refusing() {
        for (int most : new int[] {-1, -2, Integer.MIN_VALUE, 10001, 10002, 65536, Integer.MAX_VALUE}) {
            Tests.test("7: -20, refused, when most is " + most + ", not 0 .. 10,000", () -> {
                Press x = Press.settled();
                Tests.due("unpack", x.unpack(most), -20);
                x.dueSettled();
            });
            Tests.test("7: -20, refused, when most is " + most + " and IN is empty", () -> {
                Press x = new Press();
                Tests.due("unpack", x.unpack(most), -20);
                x.duePlace(0);
            });
        }
    }

    private static void lengths() {
        reads("LENGTH 0, most 0: OUT becomes empty", "0", 0, "");
        reads("LENGTH 0, most 10,000", "0", 10000, "");
        reads("LENGTH 1", "1 0 7", 1, "7");
        reads("LENGTH 127 in one byte", "127 0 3 254 1 0 246 1 0", 127, "127x3");
        reads("LENGTH 128 in two bytes", "128 1 0 3 254 1 0 250 1 0", 128, "128x3");
        reads("LENGTH 200 in two bytes, the lowest seven bits first", "200 1 0 3 " + Bytes.times(3, "254 1 0") + "26 1 0", 200, "200x3");
        reads("LENGTH 0 in two bytes", "128 0", 0, "");
        reads("LENGTH 0 in five bytes", "128 128 128 128 0", 0, "");
        reads("LENGTH 1 in two bytes", "129 0 0 7", 1, "7");
        reads("LENGTH 1 in three bytes", "129 128 0 0 7", 1, "7");
        reads("LENGTH 1 in four bytes", "129 128 128 0 0 7", 1, "7");
        reads("LENGTH 1 in five bytes", "129 128 128 128 0 0 7", 1, "7");
        reads("LENGTH 128 in five bytes", "128 129 128 128 0 0 3 254 1 0 250 1 0", 128, "128x3");
    }

    private static void lengthFaults() {
        faults("the block has no byte", "", 10000, 1, 0);
        faults("LENGTH ends behind its first byte", "128", 10000, 1, 1);
        faults("LENGTH ends behind its second byte", "255 255", 10000, 1, 2);
        faults("LENGTH ends behind its third byte", "129 128 128", 10000, 1, 3);
        faults("LENGTH ends behind its fourth byte", "255 255 255 255", 10000, 1, 4);
        faults("LENGTH ends, before it is more than may be", "255 255 255", 0, 1, 3);
        faults("LENGTH's fifth byte is 16", "128 128 128 128 16", 10000, 2, 0);
        faults("LENGTH's fifth byte is 16, the others make 1", "129 128 128 128 16 0 7", 10000, 2, 0);
        faults("LENGTH's fifth byte is 16, most 0", "255 255 255 255 16", 0, 2, 0);
        faults("LENGTH's fifth byte is 127", "128 128 128 128 127", 10000, 2, 0);
        faults("LENGTH's fifth byte is 128", "128 128 128 128 128 0", 10000, 2, 0);
        faults("LENGTH's fifth byte is 128 and the last there is", "129 128 128 128 128", 10000, 2, 0);
        faults("LENGTH's fifth byte is 255", "255 255 255 255 255", 10000, 2, 0);
        faults("LENGTH's fifth byte is 15, and it is 2^32 - 1", "255 255 255 255 15", 10000, 3, 0);
        faults("LENGTH is 15 * 2^28", "128 128 128 128 15", 10000, 3, 0);
        faults("LENGTH is 2^31", "128 128 128 128 8", 10000, 3, 0);
        faults("LENGTH is 2^31 + 1", "129 128 128 128 8 0 7", 10000, 3, 0);
        faults("LENGTH is 2^28", "128 128 128 128 1", 10000, 3, 0);
        faults("LENGTH is 2^28 - 1", "255 255 255 127", 10000, 3, 0);
        faults("LENGTH is 2^21", "128 128 128 1", 10000, 3, 0);
        faults("LENGTH is 2^16 + 1", "129 128 4 0 7", 10000, 3, 0);
        faults("LENGTH is 2^14", "128 128 1", 10000, 3, 0);
    }

    private static void most() {
        reads("LENGTH is as much as may be: 5", "5 0 7 1 1", 5, "5x7");
        reads("LENGTH is less than may be", "5 0 7 1 1", 6, "5x7");
        faults("LENGTH is 5, which is more than 4", "5 0 7 1 1", 4, 3, 0);
        faults("LENGTH is 5, which is more than 0", "5 0 7 1 1", 0, 3, 0);
        faults("LENGTH is 1, which is more than 0", "1 0 7", 0, 3, 0);
        faults("LENGTH is 10,001, which is more than 10,000", "145 78", 10000, 3, 0);
        faults("LENGTH is 10,000, which is more than 9,999", "144 78", 9999, 3, 0);
        faults("LENGTH is 10,000, which may be, but there is nothing", "144 78", 10000, 6, 2);
        faults("LENGTH is more than may be, before its elements' faults", "5 1 0", 4, 3, 0);
        faults("LENGTH in five bytes is more than may be: its place is where it begins", "133 128 128 128 0", 4, 3, 0);
    }

    private static void literals() {
        reads("k 0, m 0: one LITERAL", "1 0 255", 10, "255");
        reads("k 0, m 1: two LITERALS", "2 4 128 0", 10, "128 0");
        reads("k 0, m 59: 60 LITERALS", "60 236 " + Bytes.unlike(60), 60, Bytes.unlike(60));
        reads("k 0, m 60: a number of one byte, 0: one LITERAL", "1 240 0 7", 10, "7");
        reads("k 0, m 60: a number of one byte, 60: 61 LITERALS", "61 240 60 " + Bytes.unlike(61), 61, Bytes.unlike(61));
        reads("k 0, m 60: a number of one byte, 255: 256 LITERALS", "128 2 240 255 " + Bytes.unlike(256), 256, Bytes.unlike(256));
        reads("k 0, m 61: a number of two bytes, 0: one LITERAL", "1 244 0 0 7", 10, "7");
        reads("k 0, m 61: a number of two bytes, 256: 257 LITERALS", "129 2 244 0 1 " + Bytes.unlike(257), 257, Bytes.unlike(257));
        reads("k 0, m 61: a number of two bytes, 258: 259 LITERALS", "131 2 244 2 1 " + Bytes.unlike(259), 259, Bytes.unlike(259));
        reads("k 0, m 62: a number of three bytes, 0: one LITERAL", "1 248 0 0 0 7", 10, "7");
        reads("k 0, m 62: a number of three bytes, 256: 257 LITERALS", "129 2 248 0 1 0 " + Bytes.unlike(257), 257, Bytes.unlike(257));
        reads("k 0, m 63: a number of four bytes, 0: one LITERAL", "1 252 0 0 0 0 7", 10, "7");
        reads("k 0, m 63: a number of four bytes, 256: 257 LITERALS", "129 2 252 0 1 0 0 " + Bytes.unlike(257), 257, Bytes.unlike(257));
        reads("LITERALS in several elements", "4 0 1 4 2 3 240 0 4", 4, "1 2 3 4");
        reads("LITERALS that look like tags", "3 8 255 254 1", 3, "255 254 1");
    }

    private static void literalFaults() {
        faults("the block ends before the only LITERAL", "1 0", 9, 1, 2);
        faults("the block ends before the last LITERAL", "5 16 1 2 3 4", 9, 1, 6);
        faults("the block ends before the last of 60", "60 236 59x7", 60, 1, 61);
        faults("the block ends before the last of 61", "61 240 60 60x7", 61, 1, 63);
        faults("the block ends before a number of one byte", "5 240", 9, 1, 2);
        faults("the block ends before a number of two bytes", "5 244", 9, 1, 2);
        faults("the block ends within a number of two bytes", "5 244 0", 9, 1, 3);
        faults("the block ends before a number of three bytes", "5 248", 9, 1, 2);
        faults("the block ends within a number of three bytes", "5 248 0 0", 9, 1, 4);
        faults("the block ends before a number of four bytes", "5 252", 9, 1, 2);
        faults("the block ends within a number of four bytes", "5 252 0 0 0", 9, 1, 5);
        faults("the block ends behind a number of one byte", "5 240 4", 9, 1, 3);
        faults("the block ends behind a number of two bytes", "5 244 4 0", 9, 1, 4);
        faults("the block ends behind a number of three bytes", "5 248 4 0 0", 9, 1, 5);
        faults("the block ends behind a number of four bytes", "5 252 4 0 0 0", 9, 1, 6);
        faults("the block ends within a second element's LITERALS", "5 0 1 12 2 3", 9, 1, 6);
    }

    private static void literalNumbersTooLarge() {
        faults("2^16 LITERALS", "5 244 255 255 1 2 3 4 5", 9, 5, 1);
        faults("2^16 + 1 LITERALS", "5 248 0 0 1 1 2 3 4 5", 9, 5, 1);
        faults("2^24 LITERALS", "5 248 255 255 255 1 2 3 4 5", 9, 5, 1);
        faults("2^24 + 1 LITERALS", "5 252 0 0 0 1 1 2 3 4 5", 9, 5, 1);
        faults("2^31 LITERALS", "5 252 255 255 255 127 1 2 3 4 5", 9, 5, 1);
        faults("2^31 + 1 LITERALS", "5 252 0 0 0 128 1 2 3 4 5", 9, 5, 1);
        faults("2^32 - 3 LITERALS", "5 252 252 255 255 255 1 2 3 4 5", 9, 5, 1);
        faults("2^32 LITERALS", "5 252 255 255 255 255 1 2 3 4 5", 9, 5, 1);
        faults("2^32 LITERALS behind others", "5 4 1 2 252 255 255 255 255", 9, 5, 4);
        faults("2^32 LITERALS with LENGTH 0", "0 252 255 255 255 255", 9, 5, 1);
    }

    private static void copyLengths() {
        for (int n = 4; n <= 11; n++) {
            reads("k 1, m % 8 is " + (n - 4) + ": " + n + " bytes", n + 1 + " 0 7 " + (1 + 4 * (n - 4)) + " 1", n + 1, n + 1 + "x7");
        }
        for (int n : new int[] {1, 2, 3, 4, 11, 12, 32, 33, 63, 64}) {
            reads("k 2, m is " + (n - 1) + ": " + n + " bytes", n + 1 + " 0 7 " + (2 + 4 * (n - 1)) + " 1 0", n + 1, n + 1 + "x7");
            reads("k 3, m is " + (n - 1) + ": " + n + " bytes", n + 1 + " 0 7 " + (3 + 4 * (n - 1)) + " 1 0 0 0", n + 1, n + 1 + "x7");
        }
    }

    private static void copyDistances() {
        for (int distance : new int[] {1, 2, 255, 256, 257, 511, 512, 1024, 1791, 1792, 2046, 2047}) {
            comesFrom(distance, 4, 1 + 32 * (distance / 256) + " " + distance % 256);
        }
        for (int distance : new int[] {1, 2, 255, 256, 257, 2047, 2048, 4096, 8192, 9998, 9999}) {
            comesFrom(distance, 1, "2 " + Bytes.number(distance, 2));
            comesFrom(distance, 1, "3 " + Bytes.number(distance, 4));
        }
    }

    /** What has been made: 9, and 0 up to the distance; the element's first byte is then the 9. */
    private static void comesFrom(int distance, int length, String element) {
        String before = "0 9 " + (distance > 1 ? "0 0 " + zeros(distance - 2) : "");
        int n = distance + length;
        String head = n % 128 + 128 + " " + n / 128 + " ";
        String made = "9 " + (distance - 1) + "x0 ";
        String copied = distance >= length ? "9 " + (length - 1) + "x0" : distance == 1 ? length + "x9" : "9 0 9 0";
        reads("'" + element + "' copies " + length + " from " + distance + " back, as many as there are",
            head + before + element, n, made + copied);
        String fewer = distance > 2 ? "0 9 0 0 " + zeros(distance - 3) : distance == 2 ? "0 9 " : "";
        faults("'" + element + "' copies from " + distance + " back, where one fewer are there",
            head + fewer + element, n, 4, Bytes.count(head + fewer));
    }

    private static String zeros(int n) {
        return Bytes.times(n / 64, "254 1 0") + (n % 64 > 0 ? 2 + 4 * (n % 64 - 1) + " 1 0 " : "");
    }

    private static void copiesOfCopies() {
        reads("4 bytes from 1 back", "5 0 7 1 1", 5, "5x7");
        reads("4 bytes from 2 back", "6 4 7 8 1 2", 6, "7 8 7 8 7 8");
        reads("4 bytes from 3 back", "7 8 7 8 9 1 3", 7, "7 8 9 7 8 9 7");
        reads("4 bytes from 4 back", "8 12 1 2 3 4 1 4", 8, "1 2 3 4 1 2 3 4");
        reads("4 bytes from 5 back", "9 16 1 2 3 4 5 1 5", 9, "1 2 3 4 5 1 2 3 4");
        reads("4 bytes from 2 of 3 back", "7 8 1 2 3 1 2", 7, "1 2 3 2 3 2 3");
        reads("11 bytes from 10 back", "21 36 1 2 3 4 5 6 7 8 9 10 29 10", 21, "1 2 3 4 5 6 7 8 9 10 1 2 3 4 5 6 7 8 9 10 1");
        reads("64 bytes from 3 back, k 2", "67 8 1 2 3 254 3 0", 67, Bytes.times(22, "1 2 3") + "1");
        reads("64 bytes from 3 back, k 3", "67 8 1 2 3 255 3 0 0 0", 67, Bytes.times(22, "1 2 3") + "1");
        reads("a copy of what has been copied", "13 12 1 2 3 4 1 4 5 6", 13, "1 2 3 4 1 2 3 4 3 4 1 2 3");
    }

    private static void distanceFaults() {
        faults("DISTANCE 0, k 1", "5 0 7 1 0", 9, 4, 3);
        faults("DISTANCE 0, k 2", "2 0 7 2 0 0", 9, 4, 3);
        faults("DISTANCE 0, k 3", "2 0 7 3 0 0 0 0", 9, 4, 3);
        faults("DISTANCE 0 where nothing has been made, k 1", "4 1 0", 9, 4, 1);
        faults("DISTANCE 1 where nothing has been made, k 1", "4 1 1", 9, 4, 1);
        faults("DISTANCE 1 where nothing has been made, k 2", "1 2 1 0", 9, 4, 1);
        faults("DISTANCE 1 where nothing has been made, k 3", "1 3 1 0 0 0", 9, 4, 1);
        faults("DISTANCE 2 where one byte has been made, k 1", "5 0 7 1 2", 9, 4, 3);
        faults("DISTANCE 2 where one byte has been made, k 2", "2 0 7 2 2 0", 9, 4, 3);
        faults("DISTANCE 2 where one byte has been made, k 3", "2 0 7 3 2 0 0 0", 9, 4, 3);
        faults("DISTANCE 257, k 1", "5 0 7 33 1", 9, 4, 3);
        faults("DISTANCE 2047, k 1", "5 0 7 225 255", 9, 4, 3);
        faults("DISTANCE 257, k 2", "2 0 7 2 1 1", 9, 4, 3);
        faults("DISTANCE 32769, k 2", "2 0 7 2 1 128", 9, 4, 3);
        faults("DISTANCE 65535, k 2", "2 0 7 2 255 255", 9, 4, 3);
        faults("DISTANCE 257, k 3", "2 0 7 3 1 1 0 0", 9, 4, 3);
        faults("DISTANCE 2^16 + 1, k 3", "2 0 7 3 1 0 1 0", 9, 4, 3);
        faults("DISTANCE 2^24 + 1, k 3", "2 0 7 3 1 0 0 1", 9, 4, 3);
        faults("DISTANCE 2^31, k 3", "2 0 7 3 0 0 0 128", 9, 4, 3);
        faults("DISTANCE 2^31 + 1, k 3", "2 0 7 3 1 0 0 128", 9, 4, 3);
        faults("DISTANCE 2^32 - 1, k 3", "2 0 7 3 255 255 255 255", 9, 4, 3);
        faults("a DISTANCE into the LENGTH's and the element's own bytes", "5 0 7 1 4", 9, 4, 3);
        faults("the place is where the second copy begins", "13 0 7 1 1 254 9 0", 99, 4, 5);
    }

    private static void tooMany() {
        faults("two LITERALS, LENGTH 1", "1 4 7 8", 9, 5, 1);
        faults("a second LITERAL, LENGTH 1", "1 0 7 0 8", 9, 5, 3);
        faults("60 LITERALS, LENGTH 59", "59 236 60x7", 99, 5, 1);
        faults("61 LITERALS, LENGTH 60", "60 240 60 61x7", 99, 5, 1);
        faults("a LITERAL, LENGTH 0", "0 0 7", 9, 5, 1);
        faults("4 bytes copied, k 1, where 3 are left", "4 0 7 1 1", 9, 5, 3);
        faults("11 bytes copied, k 1, where 10 are left", "11 0 7 29 1", 99, 5, 3);
        faults("1 byte copied, k 2, where none is left", "1 0 7 2 1 0", 9, 5, 3);
        faults("64 bytes copied, k 2, where 63 are left", "64 0 7 254 1 0", 99, 5, 3);
        faults("1 byte copied, k 3, where none is left", "1 0 7 3 1 0 0 0", 9, 5, 3);
        faults("64 bytes copied, k 3, where 63 are left", "64 0 7 255 1 0 0 0", 99, 5, 3);
        faults("more than LENGTH, though not more than may be", "4 0 7 1 1", 10000, 5, 3);
        faults("an element behind the LENGTH's last byte", "5 0 7 1 1 0 7", 9, 5, 5);
    }

    private static void tooFew() {
        faults("no element, LENGTH 1", "1", 9, 6, 1);
        faults("no element, LENGTH 128", "128 1", 999, 6, 2);
        faults("LENGTH 1 in five bytes and no element", "129 128 128 128 0", 9, 6, 5);
        faults("one LITERAL, LENGTH 2", "2 0 7", 9, 6, 3);
        faults("5 bytes, LENGTH 6", "6 0 7 1 1", 9, 6, 5);
        faults("64 bytes, LENGTH 65", "65 4 7 8 246 1 0", 99, 6, 7);
    }

    private static void endsEarly() {
        faults("the block ends behind a TAG of k 1", "5 0 7 1", 9, 1, 4);
        faults("the block ends behind a TAG of k 2", "5 0 7 2", 9, 1, 4);
        faults("the block ends within a DISTANCE of k 2", "5 0 7 2 1", 9, 1, 5);
        faults("the block ends behind a TAG of k 3", "5 0 7 3", 9, 1, 4);
        faults("the block ends behind one byte of a DISTANCE of k 3", "5 0 7 3 1", 9, 1, 5);
        faults("the block ends behind two bytes of a DISTANCE of k 3", "5 0 7 3 1 0", 9, 1, 6);
        faults("the block ends behind three bytes of a DISTANCE of k 3", "5 0 7 3 1 0 0", 9, 1, 7);
        faults("the block ends behind a TAG of k 3 with m 63", "5 0 7 255", 9, 1, 4);
    }

    private static void whichFirst() {
        faults("before 5: a DISTANCE of 0, k 1", "1 0 7 1 0", 9, 4, 3);
        faults("before 5: a DISTANCE too far, k 1", "1 0 7 1 2", 9, 4, 3);
        faults("before 5: a DISTANCE of 0, k 2", "2 0 7 254 0 0", 9, 4, 3);
        faults("before 5: a DISTANCE too far, k 2", "2 0 7 254 2 0", 9, 4, 3);
        faults("before 5: a DISTANCE too far, k 3", "2 0 7 255 2 0 0 0", 9, 4, 3);
        faults("before 5: a copy where LENGTH is 0", "0 1 1", 9, 4, 1);
        faults("before 1 of its LITERALS: no LITERAL is there", "1 4", 9, 5, 1);
        faults("before 1 of its LITERALS: one of two is there", "1 4 7", 9, 5, 1);
        faults("before 1 of its LITERALS: a number of one byte", "5 240 5", 9, 5, 1);
        faults("before 1 of its LITERALS: a number of four bytes", "5 252 5 0 0 0 1", 9, 5, 1);
        faults("before 1 of its LITERALS: LENGTH 0", "0 0", 9, 5, 1);
        faults("before 5: the number is not there, LENGTH 0", "0 240", 9, 1, 2);
        faults("before 5: the number is not there as a whole", "1 0 7 244 9", 9, 1, 5);
        faults("before 4 and 5: the DISTANCE is not there, k 1", "1 0 7 1", 9, 1, 4);
        faults("before 4: the DISTANCE is not there as a whole, k 2", "5 0 7 2 0", 9, 1, 5);
        faults("before 4: the DISTANCE is not there as a whole, k 3", "5 0 7 3 0 0 0", 9, 1, 7);
        faults("before 4 of the first element: nothing is there", "4 1", 9, 1, 2);
        faults("before 6: the block ends where LITERALS have to come", "9 4 1", 9, 1, 3);
        faults("of an earlier element before 1 of a later one", "5 0 7 1 0 2 1", 9, 4, 3);
        faults("of an earlier element before 4 of a later one", "1 4 7 8 1 0", 9, 5, 1);
    }

    private static void afterwards() {
        Tests.test("7: a fault leaves nothing that a later call could find", () -> {
            Press x = new Press("9 12 1 2 3 4 0");
            Tests.due("fault", x.unpack(9), -1);
            x.dueOut("");
            x.clear();
            x.put("5 0 7 1 1");
            Tests.due("unpack", x.unpack(5), 5);
            x.dueOut("5x7");
            x.clear();
            x.put("4 1 1");
            Tests.due("what was made before is not to be copied", x.unpack(5), -4);
            x.dueOut("5x7");
        });
        Tests.test("7: IN may be read again, with another most", () -> {
            Press x = new Press("5 0 7 1 1");
            Tests.due("unpack(4)", x.unpack(4), -3);
            x.duePlace(0);
            Tests.due("unpack(5)", x.unpack(5), 5);
            x.duePlace(5);
            Tests.due("unpack(0)", x.unpack(0), -3);
            x.duePlace(0);
            Tests.due("unpack(10000)", x.unpack(10000), 5);
            x.dueOut("5x7");
        });
        Tests.test("7: a shorter OUT takes the place of a longer one", () -> {
            Press x = new Press("5 0 7 1 1");
            x.unpack(5);
            x.clear();
            x.put("1 0 9");
            Tests.due("unpack", x.unpack(5), 1);
            x.dueOut("9");
        });
    }

    private static void fullRows() {
        Tests.test("7: a full IN, 9,995 LITERALS in one element", () -> {
            Press x = new Press("139 78 244 10 39 6");
            x.again(1, 9993);
            x.put("8");
            Tests.due("full", x.write(0L, 1), false);
            Tests.due("unpack(9994)", x.unpack(9994), -3);
            x.duePlace(0);
            Tests.due("unpack(9995)", x.unpack(9995), 9995);
            x.duePlace(10000);
            x.dueLongOut("9994x6 8");
        });
        Tests.test("7: a full IN that ends before the last LITERAL", () -> {
            Press x = new Press("140 78 244 11 39 6");
            x.again(1, 9994);
            Tests.due("unpack", x.unpack(10000), -1);
            x.duePlace(10000);
            Tests.due("size()", x.size(), 0);
        });
        Tests.test("7: a full IN with one LITERAL too many", () -> {
            Press x = new Press("138 78 244 10 39 6");
            x.again(1, 9994);
            Tests.due("unpack", x.unpack(10000), -5);
            x.duePlace(2);
        });
        Tests.test("7: a full IN of single LITERALS, with one fewer than LENGTH", () -> {
            Press x = new Press("136 39 0 7");
            x.again(2, 4998);
            Tests.due("unpack", x.unpack(10000), -6);
            x.duePlace(10000);
        });
        Tests.test("7: a full IN of single LITERALS", () -> {
            Press x = new Press("135 39 0 7");
            x.again(2, 4998);
            Tests.due("unpack", x.unpack(10000), 4999);
            x.duePlace(10000);
            x.dueLongOut("4999x7");
        });
        Tests.test("7: a full OUT", () -> {
            Press x = new Press("144 78 0 9 " + Bytes.times(156, "254 1 0") + "58 1 0");
            Tests.due("unpack(9999)", x.unpack(9999), -3);
            Tests.due("unpack(10000)", x.unpack(10000), 10000);
            x.duePlace(475);
            x.dueLongOut("10000x9");
        });
        Tests.test("7: one byte more than a full OUT", () -> {
            Press x = new Press("144 78 0 9 " + Bytes.times(156, "254 1 0") + "62 1 0");
            Tests.due("unpack(10000)", x.unpack(10000), -5);
            x.duePlace(472);
            Tests.due("size()", x.size(), 0);
        });
    }
}
