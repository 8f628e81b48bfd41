import java.util.Random;

/** Promises 18 to 20: coded, decoded, distance. */
public final class CodingTest {
    private static final Checks C = new Checks("CodingTest");

    public static void main(String[] args) {
        codedAnswersTheDocumentsBurst();
        codedTakesLowestBitsAlone();
        decodedUndoesCoded();
        decodedMendsFewFaults();
        decodedTakesLowestBitsAlone();
        decodedIsLostWhenTheCheckIsWrong();
        decodedMayBeAnotherBlock();
        nearestRowIsTheLeastOfSeveral();
        answersHangOnNoEarlierCall();
        C.end();
    }

    /** A new one for each call, but where a test says otherwise. */
    private static TrunkCells x() {
        return new TrunkCells();
    }

    private static void codedAnswersTheDocumentsBurst() {
        C.due("coded(0, 1)", x().coded(0, 1), 14086559603854720L);
        C.due("coded(1048575, 1)", x().coded(1048575, 1), 11592670287821649L);
        C.due("coded(74565, 3)", x().coded(74565, 3), 17491445942885414L);
        Random random = new Random(18);
        for (int i = 0; i < 2000; i++) {
            int block = random.nextInt(1 << 20);
            int colour = i % 8;
            C.due("coded(" + block + ", " + colour + ")", x().coded(block, colour), ModelCode.coded(block, colour));
        }
    }

    /** "a block (its lowest 20 bits) in a colour (its lowest 3 bits)" */
    private static void codedTakesLowestBitsAlone() {
        C.due("block above 20 bits", x().coded(5 + (1 << 20), 2), x().coded(5, 2));
        C.due("block -1", x().coded(-1, 2), x().coded(1048575, 2));
        C.due("colour 8", x().coded(5, 8), x().coded(5, 0));
        C.due("colour -1", x().coded(5, -1), x().coded(5, 7));
    }

    private static void decodedUndoesCoded() {
        for (int block = 0; block < 1 << 20; block += 511) {
            long burst = x().coded(block, block % 8);
            C.due("decoded of " + block, x().decoded(burst, block % 8), block);
            C.due("distance of " + block, x().distance(burst, block % 8), 0);
        }
    }

    private static void decodedMendsFewFaults() {
        for (int place = 0; place < 54; place++) {
            long burst = x().coded(777777, 3) ^ 1L << place;
            C.due("decoded with place " + place + " turned", x().decoded(burst, 3), 777777);
            C.due("distance with place " + place + " turned", x().distance(burst, 3), 1);
        }
    }

    /** "the lowest 54 bits of a burst ... in a colour (its lowest 3 bits)" */
    private static void decodedTakesLowestBitsAlone() {
        long burst = x().coded(4321, 6);
        C.due("burst above 54 bits", x().decoded(burst | -1L << 54, 6), 4321);
        C.due("distance above 54 bits", x().distance(burst | -1L << 54, 6), 0);
        C.due("colour 14", x().decoded(burst, 14), 4321);
        C.due("colour -2", x().decoded(burst, -2), 4321);
        C.due("distance colour -2", x().distance(burst, -2), 0);
    }

    /** "NONE if it is LOST" */
    private static void decodedIsLostWhenTheCheckIsWrong() {
        C.due("decoded(0, 1)", x().decoded(0, 1), Checks.NONE);
        C.due("distance(0, 1)", x().distance(0, 1), 5);
        C.due("decoded(123456789123, 5)", x().decoded(123456789123L, 5), Checks.NONE);
        C.due("distance(123456789123, 5)", x().distance(123456789123L, 5), 7);
        C.due("decoded(-1, 7)", x().decoded(-1, 7), Checks.NONE);
        long otherCheck = ModelCode.codedRow((long) 99 << 16 | (ModelCode.check(99) ^ 1) << 4, 2);
        C.due("a check with one bit wrong", x().decoded(otherCheck, 2), Checks.NONE);
        C.due("its distance, before the check", x().distance(otherCheck, 2), 0);
        C.due("another cell's colour", x().decoded(x().coded(99, 1), 2), Checks.NONE);
    }

    /** "(A block may be another one than was sent.)" */
    private static void decodedMayBeAnotherBlock() {
        C.due("turned into another", x().decoded(x().coded(1, 4) ^ Checks.turning(1, 99999), 4), 99999);
    }

    /** "(of several the least as a number)" */
    private static void nearestRowIsTheLeastOfSeveral() {
        Random random = new Random(19);
        int found = 0;
        for (int i = 0; i < 3000; i++) {
            int colour = random.nextInt(8);
            long burst = random.nextLong();
            for (int k = 0; i % 2 == 0 && k < 6; k++) {
                // Few faults on a true burst: there the check is right often enough to be seen.
                burst = (k == 0 ? x().coded(random.nextInt(), colour) : burst) ^ 1L << random.nextInt(54);
            }
            C.due("decoded(" + burst + ", " + colour + ")", x().decoded(burst, colour),
                    ModelCode.decoded(burst, colour));
            C.due("distance(" + burst + ", " + colour + ")", x().distance(burst, colour),
                    ModelCode.distance(burst, colour));
            found += x().decoded(burst, colour) == Checks.NONE ? 0 : 1;
        }
        C.due("some are found", found > 50 ? 1 : 0, 1);
    }

    private static void answersHangOnNoEarlierCall() {
        Random random = new Random(20);
        for (int i = 0; i < 300; i++) {
            long burst = random.nextLong();
            TrunkCells x = new TrunkCells();
            int want = ModelCode.distance(burst, 1);
            C.due("distance(" + burst + ", 1) as the first call", x.distance(burst, 1), want);
            x.distance(x.coded(i, 2), 2);
            C.due("distance(" + burst + ", 1) behind another", x.distance(burst, 1), want);
        }
    }
}
