/** Promise 9, and of the terms what they say of reading a stream. */
public final class UnchunkTest {
    private static final String MARK = Bytes.MARK;
    private static final String FIVE = Bytes.packed("5x7", "5 0 7 1 1");
    private static final String TWO = Bytes.plain("1 2");

    public static void main(String[] args) {
        Tests.begin();
        refusing();
        reading();
        kindsThatCountForNothing();
        endsWithinChunk();
        noMark();
        kindsThatAreNot();
        sizes();
        blocksFaults();
        mayStillBe();
        sums();
        whichFirst();
        afterwards();
        fullRows();
        Tests.end();
    }

    private static void reads(String sentence, String in, int most, String out) {
        Tests.test("9: " + sentence, () -> {
            Press x = new Press(in);
            Tests.due("unchunk", x.unchunk(most), Bytes.count(out));
            x.duePlace(Bytes.count(in));
            x.dueIn(in);
            x.dueOut(out);
        });
    }

    private static void faults(String sentence, String in, int most, int fault, int place) {
        Tests.test("9: fault " + fault + ": " + sentence, () -> {
            Press x = Press.settled();
            x.clear();
            x.put(in);
            Tests.due("unchunk", x.unchunk(most), -fault);
            x.duePlace(place);
            x.dueOut("1 2 3");
            x.dueIn(in);
        });
    }

    /** The fault of a block in a chunk of its own, behind the mark; its place counts from the block's first byte. */
    private static void faultsInBlock(String sentence, String block, int most, int fault, int place) {
        String stream = MARK + Bytes.packed("", block);
        faults(sentence, stream, most, fault, 18 + place);
        faults(sentence + ", though IN goes on", stream + "0 0 0 0 0 0", most, fault, 18 + place);
    }

    private static void refusing() {
        for (int most : new int[] {-1, -2, Integer.MIN_VALUE, 10001, 10002, 65536, Integer.MAX_VALUE}) {
            Tests.test("9: -20, refused, when most is " + most + ", not 0 .. 10,000", () -> {
                Press x = Press.settled();
                Tests.due("unchunk", x.unchunk(most), -20);
                x.dueSettled();
            });
            Tests.test("9: -20, refused, when most is " + most + " and IN is empty", () -> {
                Press x = new Press();
                Tests.due("unchunk", x.unchunk(most), -20);
                x.duePlace(0);
            });
        }
    }

    private static void reading() {
        reads("no bytes at all, most 0", "", 0, "");
        reads("no bytes at all, most 10,000", "", 10000, "");
        reads("the mark alone", MARK, 0, "");
        reads("the mark twice", MARK + " " + MARK, 0, "");
        reads("the mark between chunks", MARK + TWO + MARK + TWO + MARK, 4, "1 2 1 2");
        reads("a chunk of KIND 1", MARK + TWO, 2, "1 2");
        reads("a chunk of KIND 0", MARK + FIVE, 5, "5x7");
        reads("one behind the other", MARK + TWO + FIVE + TWO, 9, "1 2 5x7 1 2");
        reads("KIND 1 without bytes", MARK + Bytes.plain(""), 0, "");
        reads("KIND 0 with a block of LENGTH 0", MARK + Bytes.packed("", "0"), 0, "");
        reads("KIND 0 with a LENGTH of five bytes", MARK + Bytes.packed("7", "129 128 128 128 0 0 7"), 1, "7");
        reads("KIND 0 with a block that has more bytes than it stands for", MARK + Bytes.packed("7", "1 240 0 7"), 1, "7");
        reads("a SIZE of 255", MARK + Bytes.plain(Bytes.unlike(251)), 251, Bytes.unlike(251));
        reads("a SIZE of 256, the lowest byte first", MARK + Bytes.plain(Bytes.unlike(252)), 252, Bytes.unlike(252));
        reads("copies in a second block, as far back as it has bytes", MARK + TWO + Bytes.packed("7 8 7", "3 4 7 8 2 2 0"), 5, "1 2 7 8 7");
        faults("a copy in a second block, further back than it has bytes", MARK + TWO + Bytes.packed("7 8 2", "3 4 7 8 2 3 0"), 5, 4, 32);
    }

    private static void kindsThatCountForNothing() {
        for (int kind = 128; kind <= 254; kind++) {
            reads("KIND " + kind + " counts for nothing", MARK + " " + kind + " 2 0 0 9 9 " + TWO, 2, "1 2");
        }
        reads("KIND 128 without bytes", MARK + " 128 0 0 0", 0, "");
        reads("KIND 254 without bytes", MARK + " 254 0 0 0", 0, "");
        reads("KIND 254 with 256 bytes", MARK + " 254 0 1 0 256x1", 0, "");
        reads("KIND 200 with fewer bytes than a SUM", MARK + " 200 3 0 0 1 2 3", 0, "");
        reads("between the mark and others, and at the end", MARK + " 254 1 0 0 0" + FIVE + " 128 1 0 0 255 " + TWO + " 254 2 0 0 0 0", 7, "5x7 1 2");
        reads("its bytes may look like a chunk", MARK + " 254 10 0 0 " + Bytes.plain("9 9"), 0, "");
    }

    private static void endsWithinChunk() {
        faults("the first chunk's KIND alone", "255", 9, 7, 1);
        faults("the first chunk's SIZE is not whole, one byte", "255 6", 9, 7, 2);
        faults("the first chunk's SIZE is not whole, two bytes", "255 6 0", 9, 7, 3);
        faults("the first chunk's SIZE alone", "255 6 0 0", 9, 7, 4);
        faults("the mark but one byte", "255 6 0 0 115 78 97 80 112", 9, 7, 9);
        for (int kind : new int[] {0, 1, 128, 200, 254, 255}) {
            faults("KIND " + kind + " alone", MARK + " " + kind, 9, 7, 11);
            faults("KIND " + kind + " with a byte of SIZE", MARK + " " + kind + " 0", 9, 7, 12);
            faults("KIND " + kind + " with two bytes of SIZE", MARK + " " + kind + " 0 0", 9, 7, 13);
            faults("KIND " + kind + " with one byte of 6", MARK + " " + kind + " 6 0 0 1", 9, 7, 15);
            faults("KIND " + kind + " with five bytes of 6", MARK + " " + kind + " 6 0 0 1 2 3 4 5", 9, 7, 19);
            faults("KIND " + kind + " with none of 256", MARK + " " + kind + " 0 1 0", 9, 7, 14);
            faults("KIND " + kind + " with none of 65,536", MARK + " " + kind + " 0 0 1", 9, 7, 14);
            faults("KIND " + kind + " with none of 8,388,608", MARK + " " + kind + " 0 0 128", 9, 7, 14);
            faults("KIND " + kind + " with four of 16,777,215", MARK + " " + kind + " 255 255 255 1 2 3 4", 9, 7, 18);
        }
        faults("a last byte behind good chunks", MARK + TWO + FIVE + " 254", 9, 7, 34);
        faults("KIND 1, one byte missing", MARK + " 1 6 0 0 " + Bytes.sum("1 2") + " 1", 9, 7, 19);
        faults("KIND 0, one byte missing", MARK + " 0 9 0 0 " + Bytes.sum("5x7") + " 5 0 7 1", 9, 7, 22);
    }

    private static void noMark() {
        for (int kind : new int[] {0, 1, 2, 9, 127, 128, 254}) {
            faults("the first chunk is of KIND " + kind, kind + " 0 0 0", 9, 8, 0);
            faults("the first chunk is of KIND " + kind + ", and IN ends", "" + kind, 9, 8, 0);
        }
        faults("the first chunk is a good one, but not the mark", Bytes.plain("1 2") + MARK, 9, 8, 0);
        faults("the mark comes only second", "254 0 0 0 " + MARK, 9, 8, 0);
        int[] mark = {115, 78, 97, 80, 112, 89};
        for (int wrong = 0; wrong < 6; wrong++) {
            StringBuilder other = new StringBuilder("255 6 0 0");
            for (int k = 0; k < 6; k++) {
                other.append(' ').append(k == wrong ? mark[k] ^ 32 : mark[k]);
            }
            faults("the mark's byte " + wrong + " is another one", other.toString(), 9, 8, 0);
            faults("a later mark's byte " + wrong + " is another one", MARK + TWO + other, 9, 8, 20);
        }
        faults("the mark without bytes", "255 0 0 0", 9, 8, 0);
        faults("the mark without its last byte", "255 5 0 0 115 78 97 80 112", 9, 8, 0);
        faults("the mark with a byte more", "255 7 0 0 115 78 97 80 112 89 0", 9, 8, 0);
        faults("a later mark without bytes", MARK + " 255 0 0 0", 9, 8, 10);
        faults("a later mark without its last byte", MARK + " 255 5 0 0 115 78 97 80 112", 9, 8, 10);
        faults("a later mark with a byte more", MARK + " 255 7 0 0 115 78 97 80 112 89 0", 9, 8, 10);
    }

    private static void kindsThatAreNot() {
        for (int kind = 2; kind <= 127; kind++) {
            faults("KIND " + kind, MARK + TWO + kind + " 0 0 0", 9, 9, 20);
        }
    }

    private static void sizes() {
        for (int size = 0; size <= 3; size++) {
            String bytes = size + " 0 0 " + size + "x1 ";
            faults("SIZE " + size + " with KIND 0", MARK + " 0 " + bytes, 9, 10, 10);
            faults("SIZE " + size + " with KIND 1", MARK + " 1 " + bytes, 9, 10, 10);
            faults("SIZE " + size + " with KIND 0, though IN goes on", MARK + TWO + "0 " + bytes + TWO, 9, 10, 20);
            faults("SIZE " + size + " with KIND 1, though IN goes on", MARK + TWO + "1 " + bytes + TWO, 9, 10, 20);
        }
        faults("SIZE 4 with KIND 0 is not 10: the block has no byte", MARK + " 0 4 0 0 " + Bytes.sum(""), 9, 12, 18);
        faults("SIZE 4 with KIND 1 is not 10: the SUM is another one", MARK + " 1 4 0 0 1 2 3 4", 9, 11, 14);
    }

    private static void blocksFaults() {
        faultsInBlock("the block has no byte", "", 9, 12, 0);
        faultsInBlock("LENGTH is not whole", "128", 9, 12, 1);
        faultsInBlock("LENGTH is not whole, four bytes", "255 255 255 255", 9, 12, 4);
        faultsInBlock("the DISTANCE is not there, k 1", "5 0 7 1", 9, 12, 4);
        faultsInBlock("the DISTANCE is not whole, k 2", "5 0 7 2 1", 9, 12, 5);
        faultsInBlock("the DISTANCE is not whole, k 3", "5 0 7 3 1 0 0", 9, 12, 7);
        faultsInBlock("the number is not there", "5 240", 9, 12, 2);
        faultsInBlock("the number is not whole", "5 252 0 0 0", 9, 12, 5);
        faultsInBlock("the LITERALS are not there", "5 16", 9, 12, 2);
        faultsInBlock("the last LITERAL is not there", "5 16 1 2 3 4", 9, 12, 6);
        faultsInBlock("LENGTH's fifth byte is 16", "255 255 255 255 16", 9, 2, 0);
        faultsInBlock("LENGTH's fifth byte is 128", "128 128 128 128 128", 9, 2, 0);
        faultsInBlock("LENGTH's fifth byte is 15", "255 255 255 255 15", 9, 3, 0);
        faultsInBlock("LENGTH is 65,537", "129 128 4", 10000, 3, 0);
        faultsInBlock("LENGTH is 65,536, but not so many may be", "128 128 4", 10000, 3, 0);
        faultsInBlock("LENGTH is 10,001", "145 78", 10000, 3, 0);
        faultsInBlock("LENGTH is 5, and 4 may be", "5 0 7 1 1", 4, 3, 0);
        faultsInBlock("LENGTH is 1, and none may be", "1 0 7", 0, 3, 0);
        faultsInBlock("DISTANCE 0", "5 0 7 1 0", 9, 4, 3);
        faultsInBlock("DISTANCE 2, and there is one byte", "5 0 7 1 2", 9, 4, 3);
        faultsInBlock("DISTANCE 1, and there is none", "4 1 1", 9, 4, 1);
        faultsInBlock("DISTANCE 2^32 - 1", "5 0 7 3 255 255 255 255", 9, 4, 3);
        faultsInBlock("LITERALS lead to more than LENGTH", "1 4 7 8", 9, 5, 1);
        faultsInBlock("a copy leads to more than LENGTH", "4 0 7 1 1", 9, 5, 3);
        faultsInBlock("4 before 5", "2 0 7 254 2 0", 9, 4, 3);
        faultsInBlock("5 before 12 of its LITERALS", "1 4 7", 9, 5, 1);
        faultsInBlock("12 before 5", "1 0 7 1", 9, 12, 4);
        faultsInBlock("no element", "1", 9, 6, 1);
        faultsInBlock("one byte fewer", "6 0 7 1 1", 9, 6, 5);
        faults("in a second chunk", MARK + TWO + Bytes.packed("", "5 0 7 1 0"), 9, 4, 31);
        faults("in a second chunk, its end", MARK + TWO + Bytes.packed("", "6 0 7 1 1") + TWO, 9, 6, 33);
    }

    private static void mayStillBe() {
        reads("KIND 1: as many as may be", MARK + TWO, 2, "1 2");
        faults("KIND 1: one too many, the second", MARK + TWO, 1, 3, 19);
        faults("KIND 1: none may be, the first is too many", MARK + TWO, 0, 3, 18);
        reads("KIND 1: as many as may still be", MARK + TWO + TWO, 4, "1 2 1 2");
        faults("KIND 1: one more than may still be", MARK + TWO + TWO, 3, 3, 29);
        faults("KIND 1: none may be any more", MARK + TWO + TWO, 2, 3, 28);
        faults("KIND 1 behind KIND 0", MARK + FIVE + TWO, 6, 3, 32);
        reads("KIND 1 without bytes, when none may be any more", MARK + TWO + Bytes.plain(""), 2, "1 2");
        reads("KIND 0: as many as may be", MARK + FIVE, 5, "5x7");
        faults("KIND 0: one more than may be", MARK + FIVE, 4, 3, 18);
        reads("KIND 0: as many as may still be", MARK + TWO + FIVE, 7, "1 2 5x7");
        faults("KIND 0: one more than may still be", MARK + TWO + FIVE, 6, 3, 28);
        faults("KIND 0: none may be any more", MARK + FIVE + FIVE, 5, 3, 31);
        reads("KIND 0 of LENGTH 0, when none may be any more", MARK + TWO + Bytes.packed("", "0"), 2, "1 2");
        reads("chunks that count for nothing take nothing of what may be", MARK + " 254 9 0 0 9x0 " + TWO, 2, "1 2");
    }

    private static void sums() {
        for (int k = 0; k < 4; k++) {
            faults("the SUM's byte " + k + " is another one, KIND 1", MARK + wrongSum(TWO, k), 9, 11, 14);
            faults("the SUM's byte " + k + " is another one, KIND 0", MARK + wrongSum(FIVE, k), 9, 11, 14);
            faults("the SUM's byte " + k + " is another one, a second chunk", MARK + FIVE + wrongSum(FIVE, k), 99, 11, 27);
            faults("the SUM's byte " + k + " is another one, no bytes, KIND 1", MARK + wrongSum(Bytes.plain(""), k), 9, 11, 14);
            faults("the SUM's byte " + k + " is another one, no bytes, KIND 0", MARK + wrongSum(Bytes.packed("", "0"), k), 9, 11, 14);
        }
        faults("the SUM is that of other bytes, KIND 1", MARK + " 1 6 0 0 " + Bytes.sum("2 1") + " 1 2", 9, 11, 14);
        faults("the SUM is that of the block, not of what it stands for", MARK + Bytes.packed("5 0 7 1 1", "5 0 7 1 1"), 9, 11, 14);
        faults("the SUM is that of all so far, not of the chunk's own", MARK + TWO + Bytes.packed("1 2 5x7", "5 0 7 1 1"), 9, 11, 24);
        faults("the SUM of all so far, KIND 1", MARK + TWO + " 1 5 0 0 " + Bytes.sum("1 2 3") + " 3", 9, 11, 24);
    }

    /** The chunk with byte k of its SUM turned over. */
    private static String wrongSum(String chunk, int k) {
        int[] bytes = Bytes.of(chunk);
        bytes[4 + k] ^= 1;
        StringBuilder all = new StringBuilder();
        for (int value : bytes) {
            all.append(' ').append(value);
        }
        return all.append(' ').toString();
    }

    private static void whichFirst() {
        faults("8 of the first KIND before 9", "5 0 0 0", 9, 8, 0);
        faults("8 of the first KIND before 7", "1 9 0", 9, 8, 0);
        faults("8 of the first KIND before 10", "0 3 0 0 1 2 3", 9, 8, 0);
        faults("7 before 8 of a mark that is not whole: other bytes", "255 6 0 0 1 2 3", 9, 7, 7);
        faults("7 before 8 of a mark that is not whole: another SIZE", "255 7 0 0 115 78 97 80 112 89", 9, 7, 10);
        faults("7 before 8 of a later mark that is not whole", MARK + " 255 5 0 0 1", 9, 7, 15);
        faults("9 before 7: KIND alone", MARK + " 9", 9, 9, 10);
        faults("9 before 7: KIND 2 alone", MARK + " 2", 9, 9, 10);
        faults("9 before 7: KIND 127 alone", MARK + " 127", 9, 9, 10);
        faults("9 before 7: SIZE is more than there is", MARK + " 9 255 255 255 1", 9, 9, 10);
        faults("9 before 7: SIZE is not whole", MARK + " 9 0", 9, 9, 10);
        faults("7 before 10: SIZE 3, KIND 0", MARK + " 0 3 0 0 1 2", 9, 7, 16);
        faults("7 before 10: SIZE 1, KIND 1", MARK + " 1 1 0 0", 9, 7, 14);
        faults("7 before 10: SIZE 65,541, KIND 1", MARK + " 1 5 0 1 1 2 3", 9, 7, 17);
        faults("7 before 2", MARK + " 0 10 0 0 1 2 3 4 255 255 255 255 255", 9, 7, 23);
        faults("7 before 3, KIND 0", MARK + " 0 9 0 0 1 2 3 4 99", 9, 7, 19);
        faults("7 before 3, KIND 1", MARK + " 1 9 0 0 1 2 3 4 1 2", 1, 7, 20);
        faults("7 before 4", MARK + " 0 9 0 0 1 2 3 4 4 1 1", 9, 7, 21);
        faults("7 before 11", MARK + " 1 9 0 0 1 2 3 4 1 2 3 4", 9, 7, 22);
        faults("3 before 11, KIND 1", MARK + " 1 6 0 0 0 0 0 0 1 2", 1, 3, 19);
        faults("3 before 11, KIND 0", MARK + " 0 9 0 0 0 0 0 0 5 0 7 1 1", 4, 3, 18);
        faults("6 before 11", MARK + " 0 9 0 0 0 0 0 0 6 0 7 1 1", 9, 6, 23);
        faults("an earlier chunk's 11 before a later one's 9", MARK + " 1 5 0 0 0 0 0 0 1 9 0 0 0", 9, 11, 14);
        faults("an earlier chunk's 11 before a later one's 7", MARK + " 1 5 0 0 0 0 0 0 1 0", 9, 11, 14);
        faults("an earlier chunk's 3 before a later one's 8", MARK + TWO + " 255 0 0 0", 1, 3, 19);
        faults("an earlier chunk's 10 before a later one's 7", MARK + " 1 0 0 0 1", 9, 10, 10);
        faults("an earlier chunk's 12 before a later one's 9", MARK + " 0 4 0 0 0 0 0 0 9", 9, 12, 18);
        faults("the mark's 8 before a later chunk's 9", "255 0 0 0 9", 9, 8, 0);
    }

    private static void afterwards() {
        Tests.test("9: OUT stays with a fault behind good chunks, and IN is read anew after that", () -> {
            Press x = Press.settled();
            x.clear();
            x.put(MARK + TWO + FIVE + " 2");
            Tests.due("unchunk", x.unchunk(99), -9);
            x.dueOut("1 2 3");
            x.clear();
            x.put(MARK + TWO);
            Tests.due("unchunk", x.unchunk(99), 2);
            x.dueOut("1 2");
            x.duePlace(20);
            Tests.due("unchunk once more", x.unchunk(2), 2);
            x.dueOut("1 2");
        });
        Tests.test("9: OUT becomes empty with a stream of no bytes", () -> {
            Press x = Press.settled();
            x.clear();
            Tests.due("unchunk", x.unchunk(9), 0);
            x.dueOut("");
            x.duePlace(0);
        });
        Tests.test("9: a fault of a block does not last", () -> {
            Press x = new Press(MARK + Bytes.packed("", "5 0 7 1 0"));
            Tests.due("unchunk", x.unchunk(9), -4);
            x.clear();
            x.put(MARK + TWO);
            Tests.due("unchunk", x.unchunk(9), 2);
            x.clear();
            x.put("4 1 1");
            Tests.due("unpack", x.unpack(9), -4);
            x.duePlace(1);
            x.clear();
            x.put(MARK + FIVE);
            Tests.due("unchunk", x.unchunk(9), 5);
        });
    }

    private static void fullRows() {
        Tests.test("9: a full IN, with a chunk that counts for nothing", () -> {
            Press x = new Press(MARK + " 254 " + Bytes.number(9986, 3) + " 3");
            x.again(1, 9985);
            Tests.due("full", x.write(0L, 1), false);
            Tests.due("unchunk", x.unchunk(0), 0);
            x.duePlace(10000);
        });
        Tests.test("9: a full IN that ends within a chunk by one byte", () -> {
            Press x = new Press(MARK + " 254 " + Bytes.number(9987, 3) + " 3");
            x.again(1, 9985);
            Tests.due("unchunk", x.unchunk(0), -7);
            x.duePlace(10000);
        });
        Tests.test("9: a full IN, with one chunk of KIND 1", () -> {
            String data = "9982x3";
            Press x = new Press(MARK + " 1 " + Bytes.number(9986, 3) + " " + Bytes.sum(data) + " 3");
            x.again(1, 9981);
            Tests.due("unchunk(9981)", x.unchunk(9981), -3);
            x.duePlace(9999);
            Tests.due("unchunk(9982)", x.unchunk(9982), 9982);
            x.duePlace(10000);
            x.dueLongOut(data);
        });
        Tests.test("9: a full IN of chunks without bytes", () -> {
            Press x = new Press(MARK + " 254 2 0 0 9 9 128 0 0 0");
            x.again(4, 2495);
            Tests.due("full but for bytes", x.write(0L, 5), false);
            Tests.due("unchunk", x.unchunk(0), 0);
            x.duePlace(10 + 6 + 4 * 2496);
        });
        Tests.test("9: a full OUT from one chunk of KIND 0", () -> {
            String block = "144 78 0 9 " + Bytes.times(156, "254 1 0") + "58 1 0";
            Press x = new Press(MARK + Bytes.packed("10000x9", block));
            Tests.due("unchunk(9999)", x.unchunk(9999), -3);
            x.duePlace(18);
            Tests.due("unchunk(10000)", x.unchunk(10000), 10000);
            x.duePlace(18 + 475);
            x.dueLongOut("10000x9");
        });
        Tests.test("9: a full OUT from two chunks, and one byte more", () -> {
            String block = "143 78 0 9 " + Bytes.times(156, "254 1 0") + "54 1 0";
            Press x = new Press(MARK + Bytes.packed("9999x9", block) + Bytes.plain("8"));
            Tests.due("unchunk(9999)", x.unchunk(9999), -3);
            x.duePlace(18 + 475 + 8);
            Tests.due("unchunk(10000)", x.unchunk(10000), 10000);
            x.put(Bytes.plain("7"));
            Tests.due("unchunk(10000)", x.unchunk(10000), -3);
            x.duePlace(18 + 475 + 9 + 8);
            x.dueLongOut("9999x9 8");
        });
    }
}
