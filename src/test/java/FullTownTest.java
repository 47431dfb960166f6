import java.util.Random;

/**
 * Promises 29 to 32, 34, 43, 44, 49 and 51 in full towns, where every BARGAIN may be GOOD by five:
 * each answer against a walk through every WEEK that CAN be.
 */
public final class FullTownTest {
    private static final int MANY = 7;
    private static int wrong = 0;

    public static void main(String[] args) {
        for (int seed = 1; seed <= 120 && wrong < 10; seed++) {
            check(seed);
        }
        System.out.println(wrong == 0 ? "as every WEEK has it" : wrong + " answers are not as every WEEK has it");
        if (wrong != 0) {
            System.exit(1);
        }
    }

    private static void due(int seed, String call, int got, int want) {
        if (got != want) {
            wrong++;
            System.out.println("town " + seed + ": " + call + " answered " + got + ", due is " + want);
        }
    }

    private static void check(int seed) {
        Random random = new Random(seed);
        NeedsALoser x = new NeedsALoser();
        Walk walk = new Walk();
        build(x, walk, random);
        walk.run();
        due(seed, "best", x.best(), walk.best);
        due(seed, "fewest", x.fewest(), walk.fewest);
        int dearest = 0;
        int worst = 0;
        for (int i = 0; i < MANY; i++) {
            due(seed, "bestOf " + i, x.bestOf(i), walk.bestRow[i]);
            due(seed, "worth " + i, x.worth(i), walk.best - walk.bestWithout[i]);
            due(seed, "harm " + i, x.harm(i), walk.harms[i]);
            dearest = walk.bestWithout[i] < walk.bestWithout[dearest] ? i : dearest;
            worst = walk.harms[i] > walk.harms[worst] ? i : worst;
        }
        due(seed, "dearest", x.dearest(), dearest);
        due(seed, "worst", x.worst(), worst);
        checkOthers(seed, x, walk, random);
    }

    /** Laws and LOSSES that are not so. */
    private static void checkOthers(int seed, NeedsALoser x, Walk walk, Random random) {
        int best = walk.best;
        int least = walk.least;
        walk.least = 1 + random.nextInt(8);
        walk.run();
        due(seed, "under " + walk.least, x.under(walk.least), walk.best);
        walk.least = least;
        int b = random.nextInt(MANY);
        int t = random.nextInt(MANY);
        if (t != walk.parties[b][0] && t != walk.parties[b][1]) {
            walk.losses[b][t] = least;
            walk.run();
            due(seed, "hiding " + b + " " + t, x.hiding(b, t), walk.best - best);
        }
    }

    private static void build(NeedsALoser x, Walk walk, Random random) {
        // Small numbers make many WEEKS of one VALUE.
        int mostGain = random.nextBoolean() ? 4 : 40;
        int mostLoss = random.nextBoolean() ? 4 : 40;
        for (int t = 0; t < MANY; t++) {
            x.one();
        }
        for (int b = 0; b < MANY; b++) {
            int p = random.nextInt(MANY);
            int q = (p + 1 + random.nextInt(MANY - 1)) % MANY;
            int gainOfP = random.nextInt(mostGain);
            int gainOfQ = random.nextInt(mostGain);
            x.bargain(p, q, gainOfP, gainOfQ);
            walk.parties[b] = new int[] {p, q};
            walk.gains[b] = gainOfP + gainOfQ;
            for (int t = 0; t < MANY; t++) {
                walk.losses[b][t] = random.nextInt(mostLoss + 1);
                x.hurts(b, t, walk.losses[b][t]);
            }
        }
        for (int bars = random.nextInt(6); bars > 0; bars--) {
            int b = random.nextInt(MANY);
            int c = (b + 1 + random.nextInt(MANY - 1)) % MANY;
            x.bars(b, c, true);
            walk.bars[b][c] = true;
            walk.bars[c][b] = true;
        }
        walk.once = random.nextInt(3) == 0 ? 0 : 1;
        walk.least = 1 + random.nextInt(3);
        x.ask(1, walk.once);
        x.ask(0, walk.least);
    }

    /** Every WEEK in the order of the rows. */
    private static final class Walk {
        final int[][] parties = new int[MANY][2];
        final int[] gains = new int[MANY];
        final int[][] losses = new int[MANY][MANY];
        final boolean[][] bars = new boolean[MANY][MANY];
        int once;
        int least;

        final int[] row = new int[MANY];
        final int[] bestRow = new int[MANY];
        final int[] bestWithout = new int[MANY];
        final int[] harms = new int[MANY];
        int best;
        int fewest;

        void run() {
            best = -1;
            for (int t = 0; t < MANY; t++) {
                bestWithout[t] = 0;
                harms[t] = 0;
            }
            step(0, 0, 0);
        }

        private void step(int b, int sum, int named) {
            if (b == MANY) {
                end(sum, named);
                return;
            }
            row[b] = -1;
            step(b + 1, sum, named);
            for (int t = 0; t < MANY; t++) {
                if (can(b, t, named)) {
                    row[b] = t;
                    step(b + 1, sum + gains[b] - losses[b][t], named | 1 << t);
                }
            }
            row[b] = -1;
        }

        private boolean can(int b, int t, int named) {
            boolean is = t != parties[b][0] && t != parties[b][1] && losses[b][t] >= least
                    && (once == 0 || (named >> t & 1) == 0);
            for (int c = 0; c < b; c++) {
                is &= row[c] == -1 || !bars[b][c];
            }
            return is;
        }

        private void end(int sum, int named) {
            if (sum > best) {
                best = sum;
                fewest = named;
                System.arraycopy(row, 0, bestRow, 0, MANY);
            }
            int fewer = Integer.compare(Integer.bitCount(named), Integer.bitCount(fewest));
            if (sum == best && (fewer < 0 || fewer == 0 && named < fewest)) {
                fewest = named;
            }
            int[] lost = new int[MANY];
            for (int b = 0; b < MANY; b++) {
                if (row[b] != -1) {
                    lost[row[b]] += losses[b][row[b]];
                }
            }
            for (int t = 0; t < MANY; t++) {
                harms[t] = Math.max(harms[t], lost[t]);
                if ((named >> t & 1) == 0) {
                    bestWithout[t] = Math.max(bestWithout[t], sum);
                }
            }
        }
    }
}
