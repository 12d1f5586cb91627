/** Promises 28 to 30: the rounding. */
public final class RoundingTest {
    private static final int LOW = Integer.MIN_VALUE;
    private static final int HIGH = Integer.MAX_VALUE;

    public static void main(String[] args) {
        promise28Rounded();
        promise29RoundedTotal();
        promise30RoundedUp();
        followsChangesAndDivisors();
        Check.end("RoundingTest");
    }

    private static void promise28Rounded() {
        // Quotients 1.5 0.5 and 1 2: job 0 has the sum 2, machine 1 has room for both, and 1 1 is
        // less than 2 0 at the first place.
        sameRounding(Shops.small(), 2, new int[][] {{1, 1}, {1, 2}});
        // One third in each place of the diagonal: the sum of all is 1, so the last is rounded up.
        sameRounding(diagonal(), 3, new int[][] {{0, 0, 0}, {0, 0, 0}, {0, 0, 1}});
        // Halves everywhere: each job and each machine has the sum 1.
        sameRounding(Shops.of(new int[][] {{1, 1}, {1, 1}}), 2, new int[][] {{0, 1}, {1, 0}});
        // 1.5 and 0.5 and 0.5: job and machine sums 2.5 may be 2 or 3, and all is 2 or 3.
        sameRounding(Shops.of(new int[][] {{3, 1, 1}}), 2, new int[][] {{1, 0, 1}});
        sameRounding(Shops.of(new int[][] {{3}, {1}, {1}}), 2, new int[][] {{1}, {0}, {1}});
        // The divisor 1 leaves all as it is, and 100 leaves 0 or 1.
        int[][] table = {{99, 0, 50}, {1, 98, 51}};
        sameRounding(Shops.of(table), 1, table);
        // Sums 1.49 and 1.5, on the machines 1, 0.98 and 1.01, in all 2.99: machine 0 needs 1.
        sameRounding(Shops.of(table), 100, new int[][] {{0, 0, 1}, {1, 0, 0}});
        sameRounding(Shops.of(new int[][] {{99}}), 100, new int[][] {{0}});
        sameRounding(Shops.of(new int[][] {{98}}), 7, new int[][] {{14}});
        OpenShop shop = Shops.of(new int[][] {{5, 5, 5}, {5, 5, 5}});
        for (int wrong : new int[] {-1, 3, 5, LOW, HIGH}) {
            Check.noIndex("rounded(" + wrong + ", 0, 2)", () -> shop.rounded(wrong, 0, 2));
            Check.noIndex("rounded(0, " + wrong + ", 2)", () -> shop.rounded(0, wrong, 2));
            Check.noIndex("rounded(" + wrong + ", 0, 0)", () -> shop.rounded(wrong, 0, 0));
        }
        Check.noIndex("rounded(2, 0, 2)", () -> shop.rounded(2, 0, 2));
        for (int wrong : new int[] {0, -1, 101, LOW, HIGH}) {
            Check.noRange("rounded(0, 0, " + wrong + ")", () -> shop.rounded(0, 0, wrong));
        }
    }

    private static OpenShop diagonal() {
        return Shops.of(new int[][] {{1, 0, 0}, {0, 1, 0}, {0, 0, 1}});
    }

    private static void sameRounding(OpenShop shop, int divisor, int[][] due) {
        for (int job = 0; job < due.length; job++) {
            for (int machine = 0; machine < due[0].length; machine++) {
                Check.same("rounded(" + job + ", " + machine + ", " + divisor + ")",
                        shop.rounded(job, machine, divisor), due[job][machine]);
            }
        }
    }

    private static void promise29RoundedTotal() {
        Check.same("roundedTotal(2)", Shops.small().roundedTotal(2), 5);
        Check.same("roundedTotal(1)", Shops.small().roundedTotal(1), 10);
        Check.same("roundedTotal(3) of the diagonal", diagonal().roundedTotal(3), 1);
        Check.same("roundedTotal(2) of the diagonal", diagonal().roundedTotal(2), 1);
        Check.same("roundedTotal(100) of the diagonal", diagonal().roundedTotal(100), 0);
        Check.same("roundedTotal(9) without operations", new OpenShop().roundedTotal(9), 0);
        OpenShop shop = new OpenShop();
        for (int wrong : new int[] {0, -1, 101, LOW, HIGH}) {
            Check.noRange("roundedTotal(" + wrong + ")", () -> shop.roundedTotal(wrong));
        }
    }

    private static void promise30RoundedUp() {
        Check.same("roundedUp(2)", Shops.small().roundedUp(2), 1);
        Check.same("roundedUp(1)", Shops.small().roundedUp(1), 0);
        Check.same("roundedUp(3) of the diagonal", diagonal().roundedUp(3), 1);
        Check.same("roundedUp(100) of the diagonal", diagonal().roundedUp(100), 0);
        Check.same("roundedUp(2) of halves",
                Shops.of(new int[][] {{3, 5}, {7, 9}}).roundedUp(2), 2);
        Check.same("roundedUp(9) without operations", new OpenShop().roundedUp(9), 0);
        OpenShop shop = new OpenShop();
        for (int wrong : new int[] {0, -1, 101, LOW, HIGH}) {
            Check.noRange("roundedUp(" + wrong + ")", () -> shop.roundedUp(wrong));
        }
    }

    private static void followsChangesAndDivisors() {
        OpenShop shop = Shops.of(new int[][] {{3, 1}, {2, 4}, {5, 5}});
        shop.rounded(0, 0, 2);
        shop.setSize(1, 2);
        shop.setJob(0, 3, 2);
        sameRounding(shop, 2, new int[][] {{1, 3}});
        sameRounding(shop, 4, new int[][] {{0, 2}});
        sameRounding(shop, 2, new int[][] {{1, 3}});
        Check.same("roundedTotal(2) after setSize", shop.roundedTotal(2), 4);
        Check.same("roundedUp(2) after setSize", shop.roundedUp(2), 1);
        shop.transpose();
        sameRounding(shop, 2, new int[][] {{1}, {3}});
    }
}
