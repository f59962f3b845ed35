import java.math.BigInteger;

/** Promise 21: every chance, against binomials. */
public final class ChanceTest {
    private static final Due due = new Due("ChanceTest");

    public static void main(String[] args) {
        named();
        every();
        wrong();
        due.end();
    }

    private static void named() {
        MothAudit x = new MothAudit();
        due.is("promise 21: 7 of 10", x.chance(1, 7, 1, 0), 7);
        due.is("promise 21: 7 of 10", x.chance(1, 7, 1, 1), 10);
        due.is("promise 21: two halves", x.chance(2, 5, 1, 0), 3);
        due.is("promise 21: two halves", x.chance(2, 5, 1, 1), 4);
        due.is("promise 21: never", x.chance(16, 0, 1, 0), 0);
        due.is("promise 21: never", x.chance(16, 0, 1, 1), 1);
        due.is("promise 21: always", x.chance(16, 10, 16, 0), 1);
        due.is("promise 21: always", x.chance(16, 10, 16, 1), 1);
    }

    private static void every() {
        for (int n = 0; n <= 16; n++) {
            for (int t = 0; t <= 10; t++) {
                MothAudit x = new MothAudit();
                for (int k = 0; k <= 16; k++) {
                    BigInteger some = BigInteger.ZERO;
                    for (int eaten = k; eaten <= n; eaten++) {
                        some = some.add(choose(n, eaten).multiply(BigInteger.valueOf(t).pow(eaten))
                                .multiply(BigInteger.valueOf(10 - t).pow(n - eaten)));
                    }
                    BigInteger all = BigInteger.TEN.pow(n);
                    BigInteger divisor = some.gcd(all);
                    String call = "promise 21: " + n + ", " + t + ", " + k;
                    due.is(call, x.chance(n, t, k, 0), some.divide(divisor).longValueExact());
                    due.is(call, x.chance(n, t, k, 1), all.divide(divisor).longValueExact());
                }
            }
        }
    }

    private static BigInteger choose(int n, int k) {
        BigInteger ways = BigInteger.ONE;
        for (int i = 1; i <= k; i++) {
            ways = ways.multiply(BigInteger.valueOf(n - k + i)).divide(BigInteger.valueOf(i));
        }
        return ways;
    }

    private static void wrong() {
        MothAudit x = new MothAudit();
        long refused = -1000000000000000002L;
        int[] wrong = {-1, 17, Integer.MIN_VALUE, Integer.MAX_VALUE};
        for (int bad : wrong) {
            due.is("promise 21: n", x.chance(bad, 5, 1, 0), refused);
            due.is("promise 21: t", x.chance(3, bad, 1, 0), refused);
            due.is("promise 21: k", x.chance(3, 5, bad, 0), refused);
            due.is("promise 21: part", x.chance(3, 5, 1, bad), refused);
        }
        due.is("promise 21: t 11", x.chance(3, 11, 1, 0), refused);
        due.is("promise 21: part 2", x.chance(3, 5, 1, 2), refused);
    }
}
