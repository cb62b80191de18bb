/** Terms: how bytes are added, multiplied and divided, as far as shares and messages show it. */
public final class BytesTest {
    public static void main(String[] args) {
        Check check = new Check();
        check.sentence("Terms: bytes are added by exclusive or", BytesTest::sums);
        check.sentence("Terms: products that have no x^8", BytesTest::shortProducts);
        check.sentence("Terms: products less multiples of x^8 + x^4 + x^3 + x + 1", BytesTest::longProducts);
        check.sentence("Terms: every product of a byte and a box's number", BytesTest::allProducts);
        check.sentence("Terms: every power of x below k", BytesTest::powers);
        check.sentence("Terms: a / b is the byte whose product with b is a", BytesTest::quotients);
        check.sentence("Terms: a degree below k: k shares determine a byte", BytesTest::degrees);
        check.end();
    }

    /** The shares of box i are c0 + c1 i. */
    private static SplitVault line(int c0, int c1) {
        SplitVault x = new SplitVault(2, 9);
        x.feed(c1, 1);
        x.store(0, c0, 1);
        return x;
    }

    private static void sums(Check check) {
        for (int a : new int[] {0, 1, 0x55, 0x80, 0xaa, 0xff}) {
            for (int b = 0; b < 256; b++) {
                check.due(a + " + " + b, a ^ b, line(a, b).share(1, 0, 0));
            }
        }
    }

    private static void shortProducts(Check check) {
        check.due("0 times 9", 0, line(0, 0).share(9, 0, 0));
        check.due("1 times 9", 9, line(0, 1).share(9, 0, 0));
        check.due("3 times 3", 5, line(0, 3).share(3, 0, 0));
        check.due("1f times 8", 0xf8, line(0, 0x1f).share(8, 0, 0));
        check.due("7f times 2", 0xfe, line(0, 0x7f).share(2, 0, 0));
    }

    private static void longProducts(Check check) {
        check.due("80 times 2", 0x1b, line(0, 0x80).share(2, 0, 0));
        check.due("80 times 3", 0x9b, line(0, 0x80).share(3, 0, 0));
        check.due("57 times 4", 0x47, line(0, 0x57).share(4, 0, 0));
        check.due("57 times 8", 0x8e, line(0, 0x57).share(8, 0, 0));
        check.due("ff times 9", Model.product(0xff, 9), line(0, 0xff).share(9, 0, 0));
    }

    private static void allProducts(Check check) {
        for (int c1 = 0; c1 < 256; c1++) {
            SplitVault x = line(0, c1);
            for (int box = 1; box <= 9; box++) {
                check.due(c1 + " times " + box, Model.product(c1, box), x.share(box, 0, 0));
            }
        }
    }

    /** Of all coefficients just one is not 0. */
    private static void powers(Check check) {
        for (int power = 1; power <= 8; power++) {
            for (int c : new int[] {1, 2, 0x80, 0xff}) {
                SplitVault x = new SplitVault(9, 9);
                x.feed((long) c << 8 * (power - 1), 8);
                x.store(0, 0, 1);
                for (int box = 1; box <= 9; box++) {
                    int want = c;
                    for (int j = 0; j < power; j++) {
                        want = Model.product(want, box);
                    }
                    check.due(c + " times " + box + " to the power " + power, want, x.share(box, 0, 0));
                }
            }
        }
    }

    /** The two pieces of helper g add up to its share times (i + h) / (g + h). */
    private static void quotients(Check check) {
        for (int i = 1; i <= 9; i++) {
            for (int g = 1; g <= 9; g++) {
                for (int h = g + 1; h <= 9; h++) {
                    if (i != g && i != h) {
                        quotient(check, i, g, h);
                    }
                }
            }
        }
    }

    private static void quotient(Check check, int i, int g, int h) {
        SplitVault x = line(0x35, 0xc4);
        int ofG = x.share(g, 0, 0);
        int ofH = x.share(h, 0, 0);
        x.empty(i);
        x.feed(0x7a96, 2);
        x.rebuild(i, 1 << g | 1 << h);
        int termOfG = x.message(7, 2) ^ x.message(6, 2);
        int termOfH = x.message(5, 2) ^ x.message(4, 2);
        check.due("term of " + g, Model.product(ofG, i ^ h), Model.product(termOfG, g ^ h));
        check.due("term of " + h, Model.product(ofH, i ^ g), Model.product(termOfH, g ^ h));
    }

    private static void degrees(Check check) {
        for (int k = 2; k <= 9; k++) {
            SplitVault x = Vaults.fed(k, 9, k - 1);
            x.store(0, 0xb2, 1);
            for (int first = 1; first + k - 1 <= 9; first++) {
                check.due("by boxes " + first + " and up", 0xb2, x.restore(0, -1 << first));
                check.due("by k boxes", 0xb2, x.restore(0, (1 << k) - 1 << first));
            }
        }
    }
}
