/** Promises 1 to 5 and 10 to 13: the rows IN and OUT, PLACE and the SUM, and what each call leaves alone. */
public final class RowsTest {
    private static final int LEAST = Integer.MIN_VALUE;
    private static final int GREATEST = Integer.MAX_VALUE;

    public static void main(String[] args) {
        Tests.begin();
        newObject();
        writing();
        writingRefused();
        appending();
        appendingRefused();
        clearing();
        turning();
        placing();
        summing();
        looking();
        Tests.end();
    }

    // ---- promise 1

    private static void newObject() {
        Tests.test("1: IN is empty at first, so it has no last byte", () -> {
            Press x = new Press();
            Tests.due("again(1, 0)", x.again(1, 0), false);
        });
        Tests.test("1: IN is empty at first, so it is packed as LENGTH 0", () -> {
            Press x = new Press();
            Tests.due("pack(0)", x.pack(0), 1);
            x.dueOut("0");
        });
        Tests.test("1: IN is empty at first, so its SUM is that of no bytes", () -> new Press().dueIn(""));
        Tests.test("1: OUT is empty at first", () -> new Press().dueOut(""));
        Tests.test("1: PLACE is 0 at first", () -> new Press().duePlace(0));
        Tests.test("1: a new object is as said though others have been used", () -> {
            Press.settled();
            Press x = new Press();
            x.dueIn("");
            x.dueOut("");
            x.duePlace(0);
        });
        Tests.test("1: each object has IN, OUT and PLACE of its own", () -> {
            Press x = Press.settled();
            Press y = new Press("5 5 5 5");
            y.pack(0);
            y.unpack(10000);
            y.clear();
            x.dueSettled();
        });
    }

    // ---- promise 2

    private static void writing() {
        int[] bytes = {255, 128, 1, 0, 127, 254, 2, 129};
        for (int n = 1; n <= 8; n++) {
            int count = n;
            Tests.test("2: the " + n + " highest bytes, the highest first", () -> {
                Press x = new Press("77");
                Tests.due("write", x.write(0xFF8001007FFE0281L, count), true);
                StringBuilder told = new StringBuilder("77");
                for (int k = 0; k < count; k++) {
                    told.append(' ').append(bytes[k]);
                }
                x.dueIn(told.toString());
                Tests.due("all of them again", x.again(count + 1, 0), true);
                Tests.due("one more than there are", x.again(count + 2, 0), false);
            });
        }
        Tests.test("2: bytes are appended behind those that are there", () -> {
            Press x = new Press();
            x.write(1L << 56, 1);
            x.write(2L << 56 | 3L << 48, 2);
            x.dueIn("1 2 3");
        });
        for (int n = 1; n <= 8; n++) {
            int count = n;
            Tests.test("2: true when there would be 10,000 with " + n + " more", () -> {
                Press x = Press.filled(10000 - count, 4);
                Tests.due("write", x.write(0x0909090909090909L, count), true);
                x.dueIn(10000 - count + "x4 " + count + "x9");
                Tests.due("one more", x.again(1, 1), false);
            });
        }
        Tests.test("2: OUT and PLACE stay", () -> {
            Press x = Press.settled();
            Tests.due("write", x.write(-1L, 8), true);
            x.dueOut("1 2 3");
            x.duePlace(5);
        });
    }

    private static void writingRefused() {
        for (int n : new int[] {0, -1, -8, LEAST, 9, 16, 64, GREATEST}) {
            Tests.test("2: refused when n is " + n + ", not 1 .. 8", () -> {
                Press x = Press.settled();
                Tests.due("write", x.write(0x0102030405060708L, n), false);
                x.dueSettled();
            });
        }
        for (int n : new int[] {0, -1}) {
            Tests.test("2: refused when n is " + n + " though IN is empty", () -> {
                Press x = new Press();
                Tests.due("write", x.write(0L, n), false);
                x.dueIn("");
            });
        }
        for (int n = 1; n <= 8; n++) {
            int count = n;
            Tests.test("2: refused when there would be 10,001 with " + n + " more, and IN stays", () -> {
                Press x = Press.filled(10001 - count, 4);
                Tests.due("write", x.write(0x0909090909090909L, count), false);
                x.dueIn(10001 - count + "x4");
                if (count > 1) {
                    Tests.due("one fewer", x.write(0x0909090909090909L, count - 1), true);
                    x.dueIn(10001 - count + "x4 " + (count - 1) + "x9");
                }
            });
        }
        for (int n : new int[] {1, 8, 0, GREATEST}) {
            Tests.test("2: refused, n " + n + ", when IN is full", () -> {
                Press x = Press.filled(10000, 4);
                Tests.due("write", x.write(0L, n), false);
                x.dueIn("10000x4");
            });
        }
    }

    // ---- promise 3

    private static void appending() {
        appends("7 8 9", 1, 1, "7 8 9 9");
        appends("7 8 9", 2, 1, "7 8 9 8 9");
        appends("7 8 9", 2, 3, "7 8 9 8 9 8 9 8 9");
        appends("7 8 9", 3, 1, "7 8 9 7 8 9");
        appends("7 8 9", 3, 2, "7 8 9 7 8 9 7 8 9");
        appends("7", 1, 1, "7 7");
        appends("7 8 9", 1, 0, "7 8 9");
        appends("7 8 9", 3, 0, "7 8 9");
        Tests.test("3: true when there would be 10,000: one byte 9,999 times", () -> {
            Press x = new Press("6");
            Tests.due("again", x.again(1, 9999), true);
            x.dueIn("10000x6");
        });
        Tests.test("3: true when there would be 10,000: all of them once more", () -> {
            Press x = Press.filled(4999, 6).put("7");
            Tests.due("again", x.again(5000, 1), true);
            x.dueIn("4999x6 7 4999x6 7");
        });
        Tests.test("3: true when IN is full and n is 0", () -> {
            Press x = Press.filled(10000, 6);
            Tests.due("again(1, 0)", x.again(1, 0), true);
            Tests.due("again(10000, 0)", x.again(10000, 0), true);
            x.dueIn("10000x6");
        });
        Tests.test("3: OUT and PLACE stay", () -> {
            Press x = Press.settled();
            Tests.due("again", x.again(7, 100), true);
            x.dueOut("1 2 3");
            x.duePlace(5);
        });
    }

    private static void appends(String in, int m, int n, String all) {
        Tests.test("3: of " + in + " its last " + m + ", " + n + " times", () -> {
            Press x = new Press(in);
            Tests.due("again", x.again(m, n), true);
            x.dueIn(all);
            Tests.due("all of them", x.again(Bytes.count(all), 0), true);
            Tests.due("more than there are", x.again(Bytes.count(all) + 1, 0), false);
        });
    }

    private static void appendingRefused() {
        for (int m : new int[] {0, -1, LEAST, 8, 9, 10000, GREATEST}) {
            for (int n : new int[] {0, 1, 2}) {
                Tests.test("3: refused when m is " + m + ", not 1 .. 7, with n " + n, () -> {
                    Press x = Press.settled();
                    Tests.due("again", x.again(m, n), false);
                    x.dueSettled();
                });
            }
        }
        for (int m : new int[] {-1, 0, 1}) {
            for (int n : new int[] {0, 1}) {
                Tests.test("3: refused with m " + m + " and n " + n + " when IN is empty", () -> {
                    Press x = new Press();
                    Tests.due("again", x.again(m, n), false);
                    x.dueIn("");
                });
            }
        }
        for (int n : new int[] {-1, -2, LEAST}) {
            for (int m : new int[] {1, 7}) {
                Tests.test("3: refused when n is " + n + ", below 0, with m " + m, () -> {
                    Press x = Press.settled();
                    Tests.due("again", x.again(m, n), false);
                    x.dueSettled();
                });
            }
        }
        // 7 * 613566757 is 2^32 + 3, 4 * 2^30 is 2^32, 2 * (2^31 - 1) is 2^32 - 2
        int[][] tooMany = {{1, 9994}, {7, 1428}, {3, 3332}, {7, 613566757}, {4, 1 << 30}, {2, GREATEST}, {1, GREATEST}, {7, GREATEST}};
        for (int[] pair : tooMany) {
            Tests.test("3: refused when there would be more than 10,000: 7 + " + pair[0] + " * " + pair[1], () -> {
                Press x = Press.settled();
                Tests.due("again", x.again(pair[0], pair[1]), false);
                x.dueSettled();
            });
        }
        int[][] asMany = {{1, 9993}, {3, 3331}, {7, 1427}};
        for (int[] pair : asMany) {
            Tests.test("3: not refused when there would be 10,000 or some fewer: 7 + " + pair[0] + " * " + pair[1], () -> {
                Press x = Press.settled();
                Tests.due("again", x.again(pair[0], pair[1]), true);
                Tests.due("all", x.again(7 + pair[0] * pair[1], 0), true);
                Tests.due("more", x.again(8 + pair[0] * pair[1], 0), false);
            });
        }
        Tests.test("3: refused when there would be 10,001: all of 5,001 but one once more", () -> {
            Press x = Press.filled(5001, 6);
            Tests.due("again(5000, 1)", x.again(5000, 1), false);
            Tests.due("again(5001, 1)", x.again(5001, 1), false);
            x.dueIn("5001x6");
        });
        Tests.test("3: refused when IN is full", () -> {
            Press x = Press.filled(10000, 6);
            Tests.due("again(1, 1)", x.again(1, 1), false);
            Tests.due("again(10000, 1)", x.again(10000, 1), false);
            Tests.due("again(10001, 0)", x.again(10001, 0), false);
            x.dueIn("10000x6");
        });
    }

    // ---- promise 4

    private static void clearing() {
        Tests.test("4: IN becomes empty; OUT and PLACE stay", () -> {
            Press x = Press.settled();
            x.clear();
            x.dueIn("");
            Tests.due("again(1, 0)", x.again(1, 0), false);
            x.dueOut("1 2 3");
            x.duePlace(5);
        });
        Tests.test("4: an empty IN becomes empty", () -> {
            Press x = new Press();
            x.clear();
            x.clear();
            x.dueIn("");
            x.put("1");
            x.dueIn("1");
        });
        Tests.test("4: a full IN becomes empty, and may be filled again", () -> {
            Press x = Press.filled(10000, 6);
            x.clear();
            x.dueIn("");
            x.put("5");
            Tests.due("again", x.again(1, 9999), true);
            x.dueIn("10000x5");
        });
        Tests.test("4: what was in IN before is no match", () -> {
            Press x = new Press("'abcdefgh'");
            x.pack(2);
            x.clear();
            x.put("'efgh'");
            x.pack(2);
            x.dueOut("4 12 'efgh'");
        });
    }

    // ---- promise 5

    private static void turning() {
        Tests.test("5: IN becomes OUT; OUT and PLACE stay", () -> {
            Press x = Press.settled();
            x.turn();
            x.dueIn("1 2 3");
            Tests.due("its bytes", x.again(3, 0), true);
            Tests.due("and no more", x.again(4, 0), false);
            x.dueOut("1 2 3");
            x.duePlace(5);
        });
        Tests.test("5: IN becomes empty when OUT is", () -> {
            Press x = new Press("1 2 3");
            x.turn();
            x.dueIn("");
            Tests.due("again(1, 0)", x.again(1, 0), false);
        });
        Tests.test("5: an IN of more bytes than before", () -> {
            Press x = new Press("5 0 7 1 1");
            x.unpack(5);
            x.clear();
            x.turn();
            x.dueIn("5x7");
        });
        Tests.test("5: a full IN when OUT is full", () -> {
            Press x = new Press("144 78 0 9 " + Bytes.times(156, "254 1 0") + "58 1 0");
            Tests.due("unpack", x.unpack(10000), 10000);
            x.turn();
            x.dueIn("10000x9");
            Tests.due("write", x.write(0L, 1), false);
            Tests.due("again", x.again(10000, 0), true);
            Tests.due("size()", x.size(), 10000);
        });
        Tests.test("5: the two rows are not one: what is written to IN is not in OUT", () -> {
            Press x = Press.settled();
            x.turn();
            x.put("4");
            x.dueOut("1 2 3");
            x.clear();
            x.put("5 5 5");
            x.dueOut("1 2 3");
        });
        Tests.test("5: the two rows are not one: a new OUT is not in IN", () -> {
            Press x = Press.settled();
            x.turn();
            x.pack(0);
            x.dueOut("3 8 1 2 3");
            x.dueIn("1 2 3");
        });
        Tests.test("5: twice is as once", () -> {
            Press x = Press.settled();
            x.turn();
            x.turn();
            x.dueIn("1 2 3");
            x.dueOut("1 2 3");
        });
    }

    // ---- promise 10

    private static void placing() {
        Tests.test("10: the end after an unpack without fault", () -> {
            Press x = new Press("1 0 5");
            x.unpack(1);
            x.duePlace(3);
        });
        Tests.test("10: the fault's place after an unpack with one", () -> {
            Press x = new Press("1 0 5 0 6");
            Tests.due("unpack", x.unpack(1), -5);
            x.duePlace(3);
        });
        Tests.test("10: the end after an unchunk without fault", () -> {
            Press x = new Press(Bytes.MARK);
            x.unchunk(1);
            x.duePlace(10);
        });
        Tests.test("10: the fault's place after an unchunk with one", () -> {
            Press x = new Press(Bytes.MARK + " 2");
            Tests.due("unchunk", x.unchunk(1), -9);
            x.duePlace(10);
        });
        Tests.test("10: 0 after an unchunk of no bytes, whatever was before", () -> {
            Press x = Press.settled();
            x.clear();
            Tests.due("unchunk", x.unchunk(0), 0);
            x.duePlace(0);
        });
        Tests.test("10: of the latest: unpack, unchunk, unpack", () -> {
            Press x = new Press("0");
            Tests.due("unpack", x.unpack(0), 0);
            x.duePlace(1);
            Tests.due("unchunk", x.unchunk(0), -8);
            x.duePlace(0);
            x.put("0 5");
            Tests.due("unpack", x.unpack(0), -5);
            x.duePlace(1);
            Tests.due("unchunk", x.unchunk(0), -8);
            x.duePlace(0);
        });
        Tests.test("10: the end in a full IN is 10,000", () -> {
            Press x = new Press("139 78 244 10 39 7");
            x.again(1, 9994);
            Tests.due("unpack", x.unpack(10000), 9995);
            x.duePlace(10000);
        });
        Tests.test("10: it stays with a refused unpack and a refused unchunk", () -> {
            Press x = Press.settled();
            x.unpack(-1);
            x.unpack(10001);
            x.unchunk(-1);
            x.unchunk(10001);
            x.duePlace(5);
        });
        Tests.test("10: it stays with every other call, refused or not", () -> {
            Press x = Press.settled();
            x.write(0L, 1);
            x.write(0L, 9);
            x.again(1, 1);
            x.again(0, 1);
            x.pack(0);
            x.pack(4);
            x.chunks(1, 0, 0);
            x.chunks(0, 0, 0);
            x.turn();
            x.clear();
            x.sum();
            x.size();
            x.byteAt(0);
            x.place();
            x.duePlace(5);
        });
    }

    // ---- promise 11

    private static void summing() {
        Tests.test("11: the SUM of no bytes is 2726488792", () -> Tests.due("sum()", new Press().sum(), (int) 2726488792L));
        // CRC-32C of "123456789" is E3069283, of 32 bytes 0 8A9136AA, of 32 bytes 255 62A8AB43
        sums("49 50 51 52 53 54 55 56 57", 0xE3069283);
        sums("32x0", 0x8A9136AA);
        sums("32x255", 0x62A8AB43);
        for (int value = 0; value < 256; value++) {
            String told = String.valueOf(value);
            Tests.test("11: the SUM of the byte " + value, () -> new Press(told).dueIn(told));
        }
        Tests.test("11: the SUM of a full IN", () -> {
            Press.filled(10000, 0).dueIn("10000x0");
            Press.filled(10000, 255).dueIn("10000x255");
            Press.filled(9999, 255).put("1").dueIn("9999x255 1");
        });
        Tests.test("11: it follows IN, not OUT", () -> {
            Press x = Press.settled();
            x.dueIn("3 8 1 2 3 3 9");
            x.put("200");
            x.dueIn("3 8 1 2 3 3 9 200");
            x.turn();
            x.dueIn("1 2 3");
            x.pack(0);
            x.dueIn("1 2 3");
            x.clear();
            x.dueIn("");
        });
        Tests.test("11: it leaves IN, OUT and PLACE alone", () -> {
            Press x = Press.settled();
            Tests.due("once more", x.sum(), x.sum());
            x.dueSettled();
        });
    }

    private static void sums(String told, int crc) {
        Tests.test("11: the SUM of " + told, () ->
            Tests.due("sum()", new Press(told).sum(), (crc << 17 | crc >>> 15) + (int) 2726488792L));
    }

    // ---- promises 12 and 13

    private static void looking() {
        for (int k : new int[] {-1, -2, LEAST, 5, 6, 255, 9999, 10000, 10001, GREATEST}) {
            Tests.test("13: -1 for byte " + k + ", as OUT has 0 .. 4", () -> {
                Press x = new Press("255 128 0");
                x.pack(0);
                Tests.due("byteAt", x.byteAt(k), -1);
            });
            Tests.test("13: -1 for byte " + k + " of an empty OUT", () ->
                Tests.due("byteAt", new Press("1 2 3").byteAt(k), -1));
        }
        Tests.test("13: -1 for byte 0 of an empty OUT", () -> Tests.due("byteAt", new Press("1").byteAt(0), -1));
        Tests.test("13: bytes are 0 .. 255", () -> {
            Press x = new Press("255 128 127 0");
            x.pack(0);
            x.dueOut("4 12 255 128 127 0");
        });
        Tests.test("12, 13: a full OUT has 10,000 bytes, 0 .. 9999", () -> {
            Press x = new Press("144 78 0 9 " + Bytes.times(156, "254 1 0") + "54 1 0 0 200");
            Tests.due("unpack", x.unpack(10000), 10000);
            Tests.due("size()", x.size(), 10000);
            Tests.due("byteAt(0)", x.byteAt(0), 9);
            Tests.due("byteAt(9998)", x.byteAt(9998), 9);
            Tests.due("byteAt(9999)", x.byteAt(9999), 200);
            Tests.due("byteAt(10000)", x.byteAt(10000), -1);
            Tests.due("byteAt(-1)", x.byteAt(-1), -1);
        });
        Tests.test("12, 13: what an older, longer OUT had is not there any more", () -> {
            Press x = new Press("1 2 3");
            x.pack(0);
            x.clear();
            x.pack(0);
            x.dueOut("0");
            Tests.due("byteAt(2)", x.byteAt(2), -1);
            x.turn();
            Tests.due("unpack", x.unpack(0), 0);
            x.dueOut("");
        });
        Tests.test("12: size is that of OUT, not of IN", () -> {
            Press x = new Press("1 2 3");
            Tests.due("size()", x.size(), 0);
            x.pack(0);
            Tests.due("size()", x.size(), 5);
            x.clear();
            Tests.due("size()", x.size(), 5);
        });
        Tests.test("12: size of what each of the four calls makes", () -> {
            Press x = new Press("7 8");
            Tests.due("pack", x.pack(0), 4);
            Tests.due("size()", x.size(), 4);
            Tests.due("chunks", x.chunks(2, 0, 0), 20);
            Tests.due("size()", x.size(), 20);
            x.turn();
            Tests.due("unchunk", x.unchunk(2), 2);
            Tests.due("size()", x.size(), 2);
            x.clear();
            x.put("1 0 9");
            Tests.due("unpack", x.unpack(1), 1);
            Tests.due("size()", x.size(), 1);
        });
        Tests.test("12, 13: they leave IN, OUT and PLACE alone", () -> {
            Press x = Press.settled();
            x.size();
            x.byteAt(1);
            x.byteAt(3);
            x.byteAt(-1);
            x.dueSettled();
        });
    }
}
