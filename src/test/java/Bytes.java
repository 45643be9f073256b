import java.util.zip.CRC32C;

/**
 * Rows of bytes as the tests tell them: parts with spaces between, each a number (7), a number
 * of times another (60x7), or a text ('abc').
 */
final class Bytes {
    static final String MARK = "255 6 0 0 115 78 97 80 112 89";

    private Bytes() {
    }

    static int[] of(String told) {
        int[] all = new int[20000];
        int n = 0;
        for (String part : told.trim().split(" +")) {
            if (part.startsWith("'")) {
                for (int k = 1; k < part.length() - 1; k++) {
                    all[n++] = part.charAt(k);
                }
            } else if (!part.isEmpty()) {
                int x = part.indexOf('x');
                int times = x < 0 ? 1 : Integer.parseInt(part.substring(0, x));
                for (int k = 0; k < times; k++) {
                    all[n++] = Integer.parseInt(part.substring(x + 1));
                }
            }
        }
        return java.util.Arrays.copyOf(all, n);
    }

    static int count(String told) {
        return of(told).length;
    }

    /** A number in so many bytes, the lowest first. */
    static String number(long value, int bytes) {
        StringBuilder all = new StringBuilder();
        for (int k = 0; k < bytes; k++) {
            all.append(k == 0 ? "" : " ").append(value >> 8 * k & 255);
        }
        return all.toString();
    }

    /** THE SUM is CRC-32C, rotated to the left by 17, + 2726488792. */
    static int sumOf(String told) {
        CRC32C crc = new CRC32C();
        for (int value : of(told)) {
            crc.update(value);
        }
        return Integer.rotateLeft((int) crc.getValue(), 17) + (int) 2726488792L;
    }

    static String sum(String told) {
        return number(sumOf(told), 4);
    }

    /** A chunk of KIND 1. */
    static String plain(String data) {
        return " 1 " + number(4 + count(data), 3) + " " + sum(data) + " " + data + " ";
    }

    /** A chunk of KIND 0 with the sum of the data and this block. */
    static String packed(String data, String block) {
        return " 0 " + number(4 + count(block), 3) + " " + sum(data) + " " + block + " ";
    }

    static String times(int n, String told) {
        return (told + " ").repeat(n);
    }

    /** The first n bytes of a row in which no four that stand together come twice. */
    static String unlike(int n) {
        StringBuilder all = new StringBuilder();
        for (int k = 0; k < n; k++) {
            all.append(k % 2 == 0 ? k / 2 % 128 : 128 + k / 256).append(' ');
        }
        return all.toString();
    }
}
