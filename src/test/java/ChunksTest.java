/** Promise 8, and of the terms what they say of a stream that is written. */
public final class ChunksTest {
    private static final String MARK = Bytes.MARK;

    public static void main(String[] args) {
        Tests.begin();
        refusing();
        cuts();
        kinds();
        sizesAndSums();
        rowsAlone();
        ways();
        spares();
        tooMany();
        atTheLimit();
        Tests.end();
    }

    private static void writes(String sentence, String in, int cut, int way, int spare, String out) {
        Tests.test("8: " + sentence, () -> {
            Press x = new Press(in);
            Tests.due("chunks", x.chunks(cut, way, spare), Bytes.count(out));
            x.duePlace(0);
            x.dueIn(in);
            if (Bytes.count(out) < 400) {
                x.dueOut(out);
            } else {
                x.dueLongOut(out);
            }
        });
    }

    private static void refuses(String sentence, int cut, int way, int spare) {
        Tests.test("8: -1, refused, when " + sentence, () -> {
            Press x = Press.settled();
            Tests.due("chunks", x.chunks(cut, way, spare), -1);
            x.dueSettled();
        });
        Tests.test("8: -1, refused, when " + sentence + " and IN is empty", () -> {
            Press x = new Press();
            Tests.due("chunks", x.chunks(cut, way, spare), -1);
            Tests.due("size()", x.size(), 0);
        });
    }

    private static void refusing() {
        for (int cut : new int[] {0, -1, Integer.MIN_VALUE, 10001, 65536, Integer.MAX_VALUE}) {
            refuses("cut is " + cut + ", not 1 .. 10,000", cut, 0, 0);
        }
        for (int way : new int[] {-1, Integer.MIN_VALUE, 4, 5, Integer.MAX_VALUE}) {
            refuses("the way is " + way + ", not 0 .. 3", 10, way, 0);
        }
        for (int spare : new int[] {-1, Integer.MIN_VALUE, 256, 257, Integer.MAX_VALUE}) {
            refuses("spare is " + spare + ", not 0 .. 255", 10, 0, spare);
        }
        for (int way = 0; way <= 3; way++) {
            int each = way;
            Tests.test("8: PLACE and IN stay, way " + way, () -> {
                Press x = Press.settled();
                Tests.due("chunks", x.chunks(10000, each, 0), 25);
                x.dueOut(MARK + Bytes.plain("3 8 1 2 3 3 9"));
                x.duePlace(5);
                x.dueIn("3 8 1 2 3 3 9");
            });
        }
    }

    private static void cuts() {
        writes("the mark alone when IN is empty", "", 1, 0, 0, MARK);
        writes("the mark alone when IN is empty, cut 10,000", "", 10000, 3, 0, MARK);
        writes("nothing behind the mark, though spare is 255", "", 1, 0, 255, MARK);
        writes("cut 1, one byte", "7", 1, 0, 0, MARK + Bytes.plain("7"));
        writes("cut 1, three bytes", "7 8 9", 1, 0, 0, MARK + Bytes.plain("7") + Bytes.plain("8") + Bytes.plain("9"));
        writes("the last row with what is left: one of two", "7 8 9", 2, 0, 0, MARK + Bytes.plain("7 8") + Bytes.plain("9"));
        writes("the last row with what is left: two of three", "1 2 3 4 5", 3, 0, 0, MARK + Bytes.plain("1 2 3") + Bytes.plain("4 5"));
        writes("no empty row when cut divides", "1 2 3 4", 2, 0, 0, MARK + Bytes.plain("1 2") + Bytes.plain("3 4"));
        writes("cut is as many as IN has", "7 8 9", 3, 0, 0, MARK + Bytes.plain("7 8 9"));
        writes("cut is one more than IN has", "7 8 9", 4, 0, 0, MARK + Bytes.plain("7 8 9"));
        writes("cut 10,000", "7 8 9", 10000, 0, 0, MARK + Bytes.plain("7 8 9"));
        writes("cut 255 of 256", Bytes.unlike(256), 255, 0, 0, MARK + Bytes.plain(Bytes.unlike(255)) + Bytes.plain("128"));
    }

    private static void kinds() {
        for (int way = 0; way <= 3; way++) {
            writes("KIND 1 when the block has more bytes, way " + way, "4x7", 9, way, 0, MARK + Bytes.plain("4x7"));
            writes("KIND 1 when the block has as many bytes, way " + way, "5x7", 9, way, 0, MARK + Bytes.plain("5x7"));
            writes("KIND 0 when the block has one byte fewer, way " + way, "6x7", 9, way, 0, MARK + Bytes.packed("6x7", "6 0 7 5 1"));
        }
        writes("KIND 1 when the block of 10 has 11", "'abcd1abc2d'", 10, 0, 0, MARK + Bytes.plain("'abcd1abc2d'"));
        writes("each row for itself: KIND 1, 0 and 1", "1 2 3 4 5 6 6x7 7 7", 6, 0, 0,
            MARK + Bytes.plain("1 2 3 4 5 6") + Bytes.packed("6x7", "6 0 7 5 1") + Bytes.plain("7 7"));
        writes("each row for itself: KIND 0 and 0", "20x7", 10, 2, 0,
            MARK + Bytes.packed("10x7", "10 0 7 21 1") + Bytes.packed("10x7", "10 0 7 21 1"));
    }

    private static void sizesAndSums() {
        writes("a SIZE of 255", Bytes.unlike(251), 9999, 0, 0, MARK + Bytes.plain(Bytes.unlike(251)));
        writes("a SIZE of 256, the lowest byte first", Bytes.unlike(252), 9999, 0, 0, MARK + Bytes.plain(Bytes.unlike(252)));
        writes("a SIZE of 2052", Bytes.unlike(2048), 9999, 0, 0, MARK + Bytes.plain(Bytes.unlike(2048)));
        Tests.test("8: a SIZE of 479 with KIND 0, IN full, cut 10,000", () -> {
            Press x = Press.filled(10000, 9);
            Tests.due("chunks", x.chunks(10000, 0, 0), 10 + 8 + 475);
            x.dueLongOut(MARK + Bytes.packed("10000x9", "144 78 0 9 " + Bytes.times(156, "254 1 0") + "58 1 0"));
        });
        Tests.test("8: IN full, cut 9,999: the last row has one byte", () -> {
            Press x = Press.filled(10000, 9);
            // 9,998 from one back: 156 times 64 and 14
            Tests.due("chunks", x.chunks(9999, 0, 0), 10 + 8 + 475 + 9);
            x.dueLongOut(MARK + Bytes.packed("9999x9", "143 78 0 9 " + Bytes.times(156, "254 1 0") + "54 1 0") + Bytes.plain("9"));
        });
        for (String row : new String[] {"0", "255", "128 1", "1 128", "'123456789'", "8x0"}) {
            Tests.test("8: the SUM is that of the row " + row, () -> {
                Press x = new Press(row);
                x.chunks(10000, 0, 0);
                int sum = x.sum();
                for (int k = 0; k < 4; k++) {
                    Tests.due("its byte " + k, x.byteAt(14 + k), sum >> 8 * k & 255);
                }
            });
        }
    }

    private static void rowsAlone() {
        writes("no match in an earlier row", "'abcdefghabcdefgh'", 8, 2, 0, MARK + Bytes.plain("'abcdefgh'") + Bytes.plain("'abcdefgh'"));
        for (int way = 0; way <= 3; way++) {
            writes("no match that runs on into the next row, way " + way, "14x7", 7, way, 0,
                MARK + Bytes.packed("7x7", "7 0 7 9 1") + Bytes.packed("7x7", "7 0 7 9 1"));
            writes("a match ends with its row, though IN goes on alike, way " + way, "'abcdabcdabcdabcd'", 9, way, 0,
                MARK + Bytes.packed("'abcdabcda'", "9 12 'abcd' 5 4") + Bytes.plain("'bcdabcd'"));
            writes("a row's own match, though an earlier row has the same bytes, way " + way, "'abcdeabcdeabcdeabcde'", 10, way, 0,
                MARK + Bytes.packed("'abcdeabcde'", "10 16 'abcde' 5 5") + Bytes.packed("'abcdeabcde'", "10 16 'abcde' 5 5"));
        }
        writes("8 bytes for way 1 that go beyond the row are not there", "'abcdefgh1abcdefg2abcdefghi'", 24, 1, 0,
            MARK + Bytes.packed("'abcdefgh1abcdefg2abcdefg'", "24 32 'abcdefgh1' 13 9 0 '2' 13 8") + Bytes.plain("'hi'"));
        writes("8 bytes for way 1 that end with the row are there", "'abcdefgh1abcdefg2abcdefghi'", 25, 1, 0,
            MARK + Bytes.packed("'abcdefgh1abcdefg2abcdefgh'", "25 32 'abcdefgh1' 13 9 0 '2' 17 17") + Bytes.plain("'i'"));
        writes("way 3 does not look beyond the row", "10x9 'zabc1abcde2zabcde'", 26, 3, 0,
            MARK + Bytes.packed("10x9 'zabc1abcde2zabcd'", "26 0 9 21 1 40 'zabc1abcde2' 1 11 0 'd'") + Bytes.plain("'e'"));
        writes("way 3 looks as far as the row goes", "10x9 'zabc1abcde2zabcde'", 27, 3, 0,
            MARK + Bytes.packed("10x9 'zabc1abcde2zabcde'", "27 0 9 21 1 44 'zabc1abcde2z' 5 7"));
    }

    private static void ways() {
        String text = "'abcdefghij1abcdefgh2abcd3abcdefghij'";
        String head = "35 40 'abcdefghij1' 17 11 0 '2' 1 9 0 '3' ";
        writes("in way 0", text, 100, 0, 0, MARK + Bytes.packed(text, head + "1 5 1 14 4 'ij'"));
        writes("in way 1", text, 100, 1, 0, MARK + Bytes.packed(text, head + "17 14 4 'ij'"));
        writes("in way 2", text, 100, 2, 0, MARK + Bytes.packed(text, head + "25 25"));
        text = "'zabc1abcdefg2zabcdefg'";
        writes("in way 2, not 3", text, 100, 2, 0, MARK + Bytes.packed(text, "21 48 'zabc1abcdefg2' 1 13 1 9"));
        writes("in way 3, not 2", text, 100, 3, 0, MARK + Bytes.packed(text, "21 52 'zabc1abcdefg2z' 13 9"));
    }

    private static void spares() {
        writes("spare 0: no chunk more", "7 8", 1, 0, 0, MARK + Bytes.plain("7") + Bytes.plain("8"));
        writes("spare 1, behind each chunk but the mark", "7 8", 1, 0, 1,
            MARK + Bytes.plain("7") + " 254 1 0 0 0 " + Bytes.plain("8") + " 254 1 0 0 0");
        writes("spare 2, behind the only chunk", "7 8", 2, 0, 2, MARK + Bytes.plain("7 8") + " 254 2 0 0 0 0");
        writes("spare 254", "7", 1, 0, 254, MARK + Bytes.plain("7") + " 254 254 0 0 254x0");
        writes("spare 255", "7", 1, 0, 255, MARK + Bytes.plain("7") + " 254 255 0 0 255x0");
        writes("spare 3 behind a chunk of KIND 0", "6x7", 6, 0, 3, MARK + Bytes.packed("6x7", "6 0 7 5 1") + " 254 3 0 0 0 0 0");
        Tests.test("8: spare bytes are 0, whatever was there before", () -> {
            Press x = new Press("200x255");
            x.pack(0);
            x.chunks(200, 0, 0);
            x.clear();
            x.put("7");
            x.chunks(1, 0, 100);
            x.dueOut(MARK + Bytes.plain("7") + " 254 100 0 0 100x0");
        });
    }

    private static void tooMany() {
        counts("1,110 rows of one byte", 1110, 1, 0, 10000);
        counts("1,111 rows of one byte would be 10,009", 1111, 1, 0, -1);
        counts("45 rows of one byte, spare 209", 45, 1, 209, 10000);
        counts("97 rows of one byte, spare 90, would be 10,001", 97, 1, 90, -1);
        counts("97 rows of one byte, spare 89", 97, 1, 89, 9904);
        counts("37 rows of one byte, spare 255", 37, 1, 255, 9926);
        counts("38 rows of one byte, spare 255, would be 10,194", 38, 1, 255, -1);
        counts("10,000 rows of one byte", 10000, 1, 0, -1);
        counts("10,000 rows of one byte, spare 255", 10000, 1, 255, -1);
        Tests.test("8: -1, refused, when there would be more than 10,000: IN, OUT and PLACE stay", () -> {
            Press x = Press.settled();
            x.clear();
            x.put("5");
            x.again(1, 9999);
            Tests.due("chunks", x.chunks(1, 0, 0), -1);
            Tests.due("chunks", x.chunks(2, 3, 255), -1);
            x.dueOut("1 2 3");
            x.duePlace(5);
            x.dueIn("10000x5");
            Tests.due("chunks that are not too many after that", x.chunks(10000, 0, 0), 493);
        });
    }

    private static void counts(String sentence, int n, int cut, int spare, int answer) {
        Tests.test("8: " + sentence, () -> {
            Press x = Press.filled(n, 5);
            Tests.due("chunks", x.chunks(cut, 0, spare), answer);
            Tests.due("size()", x.size(), Math.max(answer, 0));
            Tests.due("byteAt(9)", x.byteAt(9), answer < 0 ? -1 : 89);
            Tests.due("the last byte", x.byteAt(answer - 1), answer < 0 ? -1 : spare > 0 ? 0 : 5);
            x.dueIn(n + "x5");
        });
    }

    private static void atTheLimit() {
        for (int way = 0; way <= 3; way++) {
            int each = way;
            Tests.test("8: 10,000 with KIND 1 are not refused, though with KIND 0 there would be more, way " + way, () -> {
                Press x = Press.unlike(9982);
                int sum = x.sum();
                Tests.due("chunks", x.chunks(10000, each, 0), 10000);
                Tests.due("KIND", x.byteAt(10), 1);
                Tests.due("SIZE", x.byteAt(11) + 256 * x.byteAt(12) + 65536 * x.byteAt(13), 9986);
                Tests.due("the first", x.byteAt(18), 0);
                Tests.due("the second", x.byteAt(19), 128);
                x.turn();
                Tests.due("unchunk", x.unchunk(9982), 9982);
                x.duePlace(10000);
                x.turn();
                Tests.due("sum", x.sum(), sum);
            });
            Tests.test("8: -1, refused, when with KIND 1 there would be 10,001, way " + way, () -> {
                Press x = Press.unlike(9983);
                int place = x.place();
                Tests.due("chunks", x.chunks(10000, each, 0), -1);
                Tests.due("size()", x.size(), 9983);
                Tests.due("byteAt(0)", x.byteAt(0), 0);
                x.duePlace(place);
            });
            Tests.test("8: -1, refused, when the chunk fits but not what is behind it, way " + way, () -> {
                Press x = Press.unlike(9982);
                Tests.due("chunks", x.chunks(10000, each, 1), -1);
                Tests.due("size()", x.size(), 9982);
            });
            Tests.test("8: two chunks of KIND 1 make 10,000, way " + way, () -> {
                Press x = Press.unlike(9974);
                int sum = x.sum();
                Tests.due("chunks", x.chunks(9973, each, 0), 10000);
                Tests.due("KIND", x.byteAt(10 + 8 + 9973), 1);
                Tests.due("SIZE", x.byteAt(10 + 8 + 9973 + 1), 5);
                x.turn();
                Tests.due("unchunk", x.unchunk(10000), 9974);
                x.turn();
                Tests.due("sum", x.sum(), sum);
            });
        }
    }
}
