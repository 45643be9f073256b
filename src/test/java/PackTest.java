/** Promise 6, and of the terms what they say of a block that is WRITTEN. */
public final class PackTest {
    public static void main(String[] args) {
        Tests.begin();
        refusing();
        lengths();
        literals();
        leastMatch();
        wayNearest();
        wayOfEight();
        wayLongest();
        wayWaiting();
        nearCopies();
        farCopies();
        manyMatches();
        fullRows();
        Tests.end();
    }

    private static void packs(String sentence, int way, String in, String out) {
        Tests.test("6: " + sentence + ", way " + way, () -> {
            Press x = new Press(in);
            Tests.due("pack", x.pack(way), Bytes.count(out));
            x.dueOut(out);
            x.dueIn(in);
            x.duePlace(0);
        });
    }

    private static void packsInAllWays(String sentence, String in, String out) {
        for (int way = 0; way <= 3; way++) {
            packs(sentence, way, in, out);
        }
    }

    private static void refusing() {
        for (int way : new int[] {-1, 4, 5, 255, Integer.MIN_VALUE, Integer.MAX_VALUE}) {
            Tests.test("6: -1, refused, when the way is " + way + ", not 0 .. 3", () -> {
                Press x = Press.settled();
                Tests.due("pack", x.pack(way), -1);
                x.dueSettled();
            });
        }
        for (int way = 0; way <= 3; way++) {
            int each = way;
            Tests.test("6: PLACE and IN stay, way " + way, () -> {
                Press x = Press.settled();
                Tests.due("pack", x.pack(each), 9);
                x.dueOut("7 24 3 8 1 2 3 3 9");
                x.duePlace(5);
                x.dueIn("3 8 1 2 3 3 9");
            });
            Tests.test("6: a block of 10,000 bytes is not refused, way " + way, () -> {
                Press x = Press.unlike(9995);
                Tests.due("pack", x.pack(each), 10000);
                Tests.due("size()", x.size(), 10000);
                Tests.due("byteAt(0)", x.byteAt(0), 139);
                Tests.due("byteAt(1)", x.byteAt(1), 78);
                Tests.due("byteAt(2)", x.byteAt(2), 244);
                Tests.due("byteAt(3)", x.byteAt(3), 10);
                Tests.due("byteAt(4)", x.byteAt(4), 39);
                int sum = x.sum();
                x.turn();
                Tests.due("unpack", x.unpack(9995), 9995);
                x.duePlace(10000);
                x.turn();
                Tests.due("sum of what was packed", x.sum(), sum);
            });
            Tests.test("6: -1, refused, when the block would have 10,001 bytes, and OUT stays, way " + way, () -> {
                Press x = Press.unlike(9995).put("255");
                int sum = x.sum();
                int place = x.place();
                Tests.due("pack", x.pack(each), -1);
                x.duePlace(place);
                Tests.due("sum of IN", x.sum(), sum);
                Tests.due("size()", x.size(), 9995);
                Tests.due("byteAt(0)", x.byteAt(0), 0);
                Tests.due("byteAt(1)", x.byteAt(1), 128);
                Tests.due("byteAt(2)", x.byteAt(2), 1);
                Tests.due("byteAt(9995)", x.byteAt(9995), -1);
            });
            Tests.test("6: -1, refused, when the block of a full IN would have 10,005 bytes, way " + way, () -> {
                Press x = Press.unlike(9995).put("255 255 254 255 253");
                Tests.due("write", x.write(0L, 1), false);
                Tests.due("pack", x.pack(each), -1);
                Tests.due("size()", x.size(), 9995);
                x.clear();
                x.put("1");
                Tests.due("pack of one byte after that", x.pack(each), 3);
                x.dueOut("1 0 1");
            });
        }
    }

    private static void lengths() {
        packsInAllWays("no bytes: LENGTH 0 and no element", "", "0");
        packsInAllWays("one byte", "200", "1 0 200");
        packsInAllWays("LENGTH 127 in one byte", "127x3", "127 0 3 254 1 0 246 1 0");
        packsInAllWays("LENGTH 128 in two bytes", "128x3", "128 1 0 3 254 1 0 250 1 0");
        packsInAllWays("LENGTH 129 in two bytes", "129x3", "129 1 0 3 254 1 0 254 1 0");
        packsInAllWays("LENGTH 256 in two bytes", "256x3", "128 2 0 3 " + Bytes.times(3, "254 1 0") + "250 1 0");
    }

    private static void literals() {
        packsInAllWays("59 LITERALS", Bytes.unlike(59), "59 232 " + Bytes.unlike(59));
        packsInAllWays("60 LITERALS with the TAG alone", Bytes.unlike(60), "60 236 " + Bytes.unlike(60));
        packsInAllWays("61 LITERALS with one byte more", Bytes.unlike(61), "61 240 60 " + Bytes.unlike(61));
        packsInAllWays("62 LITERALS", Bytes.unlike(62), "62 240 61 " + Bytes.unlike(62));
        packsInAllWays("255 LITERALS", Bytes.unlike(255), "255 1 240 254 " + Bytes.unlike(255));
        packsInAllWays("256 LITERALS with one byte more", Bytes.unlike(256), "128 2 240 255 " + Bytes.unlike(256));
        packsInAllWays("257 LITERALS with two bytes more", Bytes.unlike(257), "129 2 244 0 1 " + Bytes.unlike(257));
        packsInAllWays("258 LITERALS", Bytes.unlike(258), "130 2 244 1 1 " + Bytes.unlike(258));
        packsInAllWays("LITERALS on both sides of a match are two elements",
            "'abcd' 1 2 'abcd' 3 4 5", "13 20 'abcd' 1 2 1 6 8 3 4 5");
        packsInAllWays("no element without LITERALS between two matches",
            "'abcd1efgh2efghabcd'", "18 36 'abcd1efgh2' 1 5 1 14");
        packsInAllWays("60 LITERALS behind a match", "5x200 " + Bytes.unlike(60), "65 0 200 1 1 236 " + Bytes.unlike(60));
        packsInAllWays("61 LITERALS behind a match", "5x200 " + Bytes.unlike(61), "66 0 200 1 1 240 60 " + Bytes.unlike(61));
    }

    private static void leastMatch() {
        packsInAllWays("three bytes alike are no match", "'abcd1abc2'", "9 32 'abcd1abc2'");
        packsInAllWays("three bytes alike at the end are no match", "'abcdabc'", "7 24 'abcdabc'");
        packsInAllWays("four bytes alike are a match", "'abcd1abcd2'", "10 16 'abcd1' 1 5 0 '2'");
        packsInAllWays("four bytes alike at the end are a match", "'abcdabcd'", "8 12 'abcd' 1 4");
        packsInAllWays("five bytes alike", "'abcdeabcde'", "10 16 'abcde' 5 5");
        packsInAllWays("four bytes alike, none apart, are no match", "4x97", "4 12 4x97");
        packsInAllWays("five: four of them are those from one back", "5x97", "5 0 97 1 1");
        packsInAllWays("a match that runs on into its own bytes", "'ababababab'", "10 4 'ab' 17 2");
        packsInAllWays("a match that ends where its own bytes begin", "'abcdeabcde1'", "11 16 'abcde' 5 5 0 '1'");
        packsInAllWays("bytes of 128 and more are alike as others are", "255 128 254 129 255 128 254 129", "8 12 255 128 254 129 1 4");
        packsInAllWays("bytes that differ by 128 are not alike", "1 2 3 4 129 130 131 132", "8 28 1 2 3 4 129 130 131 132");
        packsInAllWays("four bytes of which the first is another are no match", "'abcd1xbcd2'", "10 36 'abcd1xbcd2'");
        packsInAllWays("four bytes of which the second is another are no match", "'abcd1axcd2'", "10 36 'abcd1axcd2'");
        packsInAllWays("four bytes of which the third is another are no match", "'abcd1abxd2'", "10 36 'abcd1abxd2'");
        packsInAllWays("four bytes of which the last is another are no match", "'abcd1abcx2'", "10 36 'abcd1abcx2'");
        packsInAllWays("four bytes in another order are no match", "'abcd1dcba'", "9 32 'abcd1dcba'");
        packsInAllWays("a match begins at the first place that has one", "'1abcd2abcd'", "10 20 '1abcd2' 1 5");
        packsInAllWays("it goes on behind the match, not within it", "'abcdbcde1abcdbcde'", "17 32 'abcdbcde1' 17 9");
        packsInAllWays("zero bytes match too", "9 4x0 8 4x0", "10 20 9 4x0 8 1 5");
    }

    private static void wayNearest() {
        String text = "'abcdefgh1abcdefg2abcdefgh'";
        packs("the nearest, of 7 bytes, though there is one of 8", 0, text, "25 32 'abcdefgh1' 13 9 0 '2' 13 8 0 'h'");
        packs("the nearest of all, of 4 bytes, though there is one of 10", 0,
            "'abcdefghij1abcd2abcdefghij'", "26 40 'abcdefghij1' 1 11 0 '2' 1 5 9 16");
        packs("the nearest of three", 0, "'abcd1abcd2abcd3abcd'", "19 16 'abcd1' 1 5 0 '2' 1 5 0 '3' 1 5");
        packs("nearest is one back", 0, "'aaaa1aaaaaaaa'", "13 16 'aaaa1' 1 5 1 1");
        packs("it does not wait for a longer one", 0, "'zabc1abcde2zabcde'", "17 40 'zabc1abcde2' 1 11 4 'de'");
    }

    private static void wayOfEight() {
        packs("one of 8 bytes, though one of 7 is nearer", 1,
            "'abcdefgh1abcdefg2abcdefgh'", "25 32 'abcdefgh1' 13 9 0 '2' 17 17");
        packs("one of 8 bytes, with more behind it, though one of 7 is nearer", 1,
            "'abcdefgh1abcdefg2abcdefgh3'", "26 32 'abcdefgh1' 13 9 0 '2' 17 17 0 '3'");
        packs("the nearest of those of 8 bytes or more, though one of 9 is farther", 1,
            "'abcdefghi1abcdefgh2abcdefghi'", "28 36 'abcdefghi1' 17 10 0 '2' 17 9 0 'i'");
        packs("one of 9 bytes, though one of 4 is nearer", 1,
            "'abcdefghi1abcd2abcdefghi'", "24 36 'abcdefghi1' 1 10 0 '2' 21 15");
        packs("none of 8: the nearest, of 5 bytes, though there is one of 7", 1,
            "'abcdefg1abcde2abcdefg'", "21 28 'abcdefg1' 5 8 0 '2' 5 6 4 'fg'");
        packs("none of 8: the nearest of 4", 1, "'abcd1abcd2abcd'", "14 16 'abcd1' 1 5 0 '2' 1 5");
        packs("8 bytes that run on into their own", 1, "9x97", "9 0 97 17 1");
        packs("it does not wait for a longer one", 1, "'zabc1abcde2zabcde'", "17 40 'zabc1abcde2' 1 11 4 'de'");
    }

    private static void wayLongest() {
        packs("one of 8, though one of 7 is nearer", 2, "'abcdefgh1abcdefg2abcdefgh'", "25 32 'abcdefgh1' 13 9 0 '2' 17 17");
        packs("one of 9, though one of 8 is nearer", 2, "'abcdefghi1abcdefgh2abcdefghi'", "28 36 'abcdefghi1' 17 10 0 '2' 21 19");
        packs("one of 7, though one of 5 is nearer", 2, "'abcdefg1abcde2abcdefg'", "21 28 'abcdefg1' 5 8 0 '2' 13 14");
        packs("one of 5, though one of 4 is nearer", 2, "'abcde1abcd2abcde'", "16 20 'abcde1' 1 6 0 '2' 5 11");
        packs("of those as long the nearest", 2, "'abcd1abcd2abcd3abcd'", "19 16 'abcd1' 1 5 0 '2' 1 5 0 '3' 1 5");
        packs("of those as long the nearest, a shorter one nearer still", 2,
            "'abcdef1abcdef2abcd3abcdef'", "25 24 'abcdef1' 9 7 0 '2' 1 7 0 '3' 9 12");
        packs("of those as long, to the end, the nearest", 2, "'abcde1abcdf2abcd'", "16 20 'abcde1' 1 6 4 'f2' 1 6");
        packs("it does not wait for a longer one", 2, "'zabc1abcde2zabcde'", "17 40 'zabc1abcde2' 1 11 4 'de'");
        packs("the longest may run on into its own bytes", 2, "'bbbb1bbbbbbbb'", "13 16 'bbbb1' 1 5 1 1");
    }

    private static void wayWaiting() {
        packs("none, when the longest one further is longer by one", 3, "'zabc1abcde2zabcde'", "17 44 'zabc1abcde2z' 5 7");
        packs("none, when the longest one further is longer by three", 3, "'zabc1abcdefg2zabcdefg'", "21 52 'zabc1abcdefg2z' 13 9");
        packs("there is one, when the longest one further is as long", 3, "'zabc1abcd2zabcd'", "15 36 'zabc1abcd2' 1 10 0 'd'");
        packs("there is one, when the longest one further is shorter", 3, "'zabcd1abcd2zabcd'", "16 20 'zabcd1' 1 5 0 '2' 5 11");
        packs("the longest one further counts, whatever comes after that", 3,
            "'yzab1zabcd2abcdef3yzabcdef'", "26 40 'yzab1zabcd2' 1 5 16 'ef3yz' 9 9");
        packs("a longer one two further does not count", 3,
            "'yzab1abcdef2yzabcdef'", "20 44 'yzab1abcdef2' 1 12 1 9");
        packs("the longest one further may begin at the place itself", 3, "'bbbb1bbbbbbbb'", "13 20 'bbbb1b' 13 1");
        packs("the longest one further counts, though one of 4 is nearer", 3,
            "'zabc1abcdef2abcd3zabcdef'", "24 44 'zabc1abcdef2' 1 7 4 '3z' 9 13");
        packs("the longest one further counts, though one of 8 is nearer", 3,
            "'zabcdefg1abcdefghij2abcdefgh3zabcdefghij'", "40 32 'zabcdefg1' 13 8 12 'hij2' 17 11 4 '3z' 25 21");
        packs("the longest one further may be from place 0", 3, "'abcde1zabc2zabcde'", "17 44 'abcde1zabc2z' 5 12");
        packs("otherwise as way 2: the longest", 3, "'abcdefghi1abcdefgh2abcdefghi'", "28 36 'abcdefghi1' 17 10 0 '2' 21 19");
        packs("otherwise as way 2: of those as long the nearest", 3, "'abcd1abcd2abcd3abcd'", "19 16 'abcd1' 1 5 0 '2' 1 5 0 '3' 1 5");
    }

    /** Copies of one byte from one back. */
    private static void nearCopies() {
        copies(4, "1 1");
        copies(5, "5 1");
        copies(10, "25 1");
        copies(11, "29 1");
        copies(12, "46 1 0");
        copies(13, "50 1 0");
        copies(22, "86 1 0");
        copies(63, "250 1 0");
        copies(64, "254 1 0");
        copies(65, "242 1 0 1 1");
        copies(66, "246 1 0 1 1");
        copies(67, "250 1 0 1 1");
        copies(68, "254 1 0 1 1");
        copies(69, "254 1 0 5 1");
        copies(75, "254 1 0 29 1");
        copies(76, "254 1 0 46 1 0");
        copies(127, "254 1 0 250 1 0");
        copies(128, "254 1 0 254 1 0");
        copies(129, "254 1 0 242 1 0 1 1");
        copies(131, "254 1 0 250 1 0 1 1");
        copies(132, "254 1 0 254 1 0 1 1");
        copies(139, "254 1 0 254 1 0 29 1");
        copies(140, "254 1 0 254 1 0 46 1 0");
        copies(193, "254 1 0 254 1 0 242 1 0 1 1");
    }

    private static void copies(int length, String elements) {
        String head = length < 127 ? length + 1 + " " : (length + 1) % 128 + 128 + " " + (length + 1) / 128 + " ";
        packsInAllWays("a near match of " + length + " with the fewest bytes, the longer copy first",
            length + 1 + "x5", head + "0 5 " + elements);
    }

    private static void farCopies() {
        from(255, 4, "1 255");
        from(256, 4, "33 0");
        from(257, 4, "33 1");
        from(511, 11, "61 255");
        from(512, 4, "65 0");
        from(1024, 4, "129 0");
        from(2046, 4, "225 254");
        from(2047, 4, "225 255");
        from(2047, 11, "253 255");
        from(2047, 12, "46 255 7");
        from(2047, 64, "254 255 7");
        from(2047, 65, "242 255 7 225 255");
        from(2047, 67, "250 255 7 225 255");
        from(2048, 4, "14 0 8");
        from(2048, 11, "42 0 8");
        from(2048, 12, "46 0 8");
        from(2048, 64, "254 0 8");
        from(2048, 65, "254 0 8 2 0 8");
        from(2048, 66, "254 0 8 6 0 8");
        from(2048, 67, "254 0 8 10 0 8");
        from(2048, 68, "254 0 8 14 0 8");
        from(2048, 75, "254 0 8 42 0 8");
        from(2048, 129, "254 0 8 254 0 8 2 0 8");
        from(2049, 4, "14 1 8");
        from(2303, 4, "14 255 8");
        from(2304, 4, "14 0 9");
    }

    private static void from(int distance, int length, String elements) {
        for (int way = 0; way <= 3; way++) {
            int each = way;
            Tests.test("6: a match of " + length + " from " + distance + " back, way " + way, () -> {
                String data = Bytes.unlike(distance);
                Press x = new Press(data).put(Bytes.unlike(length));
                int n = distance + length;
                String literals = distance <= 256 ? "240 " + (distance - 1) : "244 " + Bytes.number(distance - 1, 2);
                x.pack(each);
                x.dueLongOut(n % 128 + 128 + " " + n / 128 + " " + literals + " " + data + elements);
            });
        }
    }

    /** 1,991 matches of 4 bytes are nearer than the only one of 10. */
    private static void manyMatches() {
        String head = "249 77 40 'abcdefghij1' 1 11 0 '2' " + Bytes.times(155, "254 5 0") + "118 5 0 0 '3' ";
        farAmongMany(0, head + "1 6 22 239 38");
        farAmongMany(1, head + "38 239 38");
        farAmongMany(2, head + "38 239 38");
        farAmongMany(3, head + "38 239 38");
    }

    private static void farAmongMany(int way, String out) {
        Tests.test("6: of all matches, however many they are, way " + way, () -> {
            Press x = new Press("'abcdefghij1abcd2'");
            x.again(5, 1990);
            x.put("'3abcdefghij'");
            Tests.due("pack", x.pack(way), Bytes.count(out));
            x.dueLongOut(out);
        });
    }

    private static void fullRows() {
        for (int way = 0; way <= 3; way++) {
            int each = way;
            Tests.test("6: 10,000 bytes alike: the longest match there can be, way " + way, () -> {
                Press x = Press.filled(10000, 9);
                Tests.due("pack", x.pack(each), 475);
                x.dueLongOut("144 78 0 9 " + Bytes.times(156, "254 1 0") + "58 1 0");
                x.dueIn("144 78 0 9 " + Bytes.times(156, "254 1 0") + "58 1 0");
            });
            Tests.test("6: the last four of 10,000 are the first four, way " + way, () -> {
                Press x = new Press("'abcd' 0");
                x.again(1, 9991);
                x.put("'abcd'");
                Tests.due("full", x.write(0L, 1), false);
                // 9,991 bytes from one back: 155 times 64, 64 and 7; 9,996 back: 12 + 39 * 256
                Tests.due("pack", x.pack(each), 2 + 6 + 3 * 156 + 2 + 3);
                x.dueLongOut("144 78 16 'abcd' 0 " + Bytes.times(156, "254 1 0") + "13 1 14 12 39");
            });
            Tests.test("6: 5,000 bytes come again, way " + way, () -> {
                Press x = Press.unlike(5000);
                int literals = 2 + 3 + 5000;
                x.again(5000, 1);
                // 78 copies of 64 and one of 8, from 5,000 back
                Tests.due("pack", x.pack(each), literals + 3 * 79);
                int sum = x.sum();
                Tests.due("first copy", x.byteAt(literals), 254);
                Tests.due("distance", x.byteAt(literals + 1) + 256 * x.byteAt(literals + 2), 5000);
                Tests.due("last copy", x.byteAt(literals + 3 * 78), 30);
                x.turn();
                Tests.due("unpack", x.unpack(10000), 10000);
                x.turn();
                Tests.due("sum", x.sum(), sum);
            });
        }
    }
}
