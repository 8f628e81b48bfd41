/**
 * Coding and decoding as the document tells them, by other means than the program's: texts of bits, and a search
 * from the end of the row, so that the least of the nearest rows is read off from its first bit on.
 */
final class ModelCode {
    private static final int NEVER = 1000;

    private ModelCode() {
    }

    static long check(int block) {
        int register = 4095;
        for (char bit : bits(block, 20).toCharArray()) {
            boolean unlike = bits(register, 12).charAt(0) != bit;
            register = (unlike ? 2 * register ^ 2063 : 2 * register) % 4096;
        }
        return register;
    }

    static long coded(int block, int colour) {
        return codedRow((long) block << 16 | check(block) << 4, colour);
    }

    static long codedRow(long row, int colour) {
        String word = "0000" + bits(row, 36);
        StringBuilder sums = new StringBuilder();
        for (int i = 4; i < 40; i++) {
            sums.append(sum(word, i, 0, 3, 4)).append(sum(word, i, 0, 1, 2, 4));
        }
        long burst = 0;
        int kept = 0;
        for (int i = 0; i < 72; i++) {
            if (i % 4 != 3) {
                burst |= (long) (sums.charAt(i) - '0') << 17 * kept++ % 54;
            }
        }
        return burst ^ colourRow(colour);
    }

    static int decoded(long burst, int colour) {
        long row = nearest(burst, colour);
        int block = (int) (row >> 16);
        return row >> 4 == ((long) block << 12 | check(block)) ? block : -1;
    }

    static int distance(long burst, int colour) {
        return Long.bitCount((codedRow(nearest(burst, colour), colour) ^ burst) << 10);
    }

    private static String bits(long number, int count) {
        StringBuilder text = new StringBuilder(Long.toBinaryString(number));
        while (text.length() < count) {
            text.insert(0, '0');
        }
        return text.toString();
    }

    private static int sum(String word, int at, int... back) {
        int ones = 0;
        for (int b : back) {
            ones += word.charAt(at - b) - '0';
        }
        return ones % 2;
    }

    private static long colourRow(int colour) {
        int register = 9 * colour + 1;
        long row = 0;
        for (int j = 0; j < 54; j++) {
            row |= (register % 2L) << j;
            register = register / 2 + (register % 2 != register / 8 % 2 ? 64 : 0);
        }
        return row;
    }

    /** rest[i][s]: how few places the bits from i on can be unlike, the four bits before them being s. */
    private static long nearest(long burst, int colour) {
        long plain = burst ^ colourRow(colour);
        int[][] rest = new int[37][16];
        java.util.Arrays.fill(rest[36], NEVER);
        rest[36][0] = 0;
        for (int i = 35; i >= 0; i--) {
            for (int before = 0; before < 16; before++) {
                rest[i][before] = Math.min(through(rest, plain, i, before, 0), through(rest, plain, i, before, 1));
            }
        }
        long row = 0;
        int before = 0;
        for (int i = 0; i < 36; i++) {
            int bit = through(rest, plain, i, before, 0) == rest[i][before] ? 0 : 1;
            row = 2 * row + bit;
            before = (2 * before + bit) % 16;
        }
        return row;
    }

    private static int through(int[][] rest, long plain, int i, int before, int bit) {
        String seen = bits(before, 4) + bit;
        int unlike = 0;
        int first = i / 2 * 3 + i % 2 * 2;
        unlike += sum(seen, 4, 0, 3, 4) != (plain >> 17 * first % 54 & 1) ? 1 : 0;
        if (i % 2 == 0) {
            unlike += sum(seen, 4, 0, 1, 2, 4) != (plain >> 17 * (first + 1) % 54 & 1) ? 1 : 0;
        }
        return unlike + rest[i + 1][(2 * before + bit) % 16];
    }
}
