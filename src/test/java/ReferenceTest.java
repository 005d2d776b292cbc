import java.util.Random;

/** Runs of calls drawn from fixed seeds, each answer compared with the one of ReferenceGrid. */
public final class ReferenceTest {
    private static final int RUNS = 120;
    private static final int CALLS = 150;
    private static final Check CHECK = new Check();

    private final Random random;
    private final HeadGrid grid = new HeadGrid();
    private final ReferenceGrid reference = new ReferenceGrid();
    private final String name;
    private final int zeroLinks;
    private final int mostLevel;
    private final int mostHead;

    private ReferenceTest(int seed) {
        random = new Random(seed);
        name = "run " + seed;
        zeroLinks = seed % 4;
        mostLevel = seed % 3 == 0 ? 1000 : 60 * (seed % 3);
        mostHead = seed % 5 == 0 ? 0 : 1000;
    }

    public static void main(String[] args) {
        for (int seed = 0; seed < RUNS && CHECK.wrong() == 0; seed++) {
            new ReferenceTest(seed).run();
        }
        CHECK.finish();
    }

    private void run() {
        for (int i = 0; i < CALLS && CHECK.wrong() == 0; i++) {
            int kind = random.nextInt(100);
            if (kind < 50) {
                change();
            } else {
                ask();
            }
            same("digest()", () -> grid.digest(), () -> reference.digest());
        }
    }

    private void same(String call, Check.Call got, Check.Call want) {
        CHECK.due(name + ": " + call, Check.outcome(got), Check.outcome(want));
    }

    /** Mostly inside 0 to count - 1, sometimes just or far outside. */
    private int pick(int count) {
        int dice = random.nextInt(40);
        if (dice == 0) {
            return -1;
        }
        if (dice == 1) {
            return count;
        }
        return dice == 2 ? random.nextInt() : random.nextInt(count);
    }

    private int conductance() {
        int dice = random.nextInt(10);
        return dice < zeroLinks ? 0 : dice == 9 ? pick(3) : 1 + random.nextInt(2);
    }

    private void change() {
        int a = pick(9);
        int v = pick(random.nextInt(4) == 0 ? 1001 : 100);
        switch (random.nextInt(9)) {
            case 0: case 1: case 2: {
                int link = pick(24);
                int c = conductance();
                same("setLink(" + link + ", " + c + ")", () -> grid.setLink(link, c), () -> reference.setLink(link, c));
                break;
            }
            case 3: {
                int point = pick(12);
                int head = pick(mostHead + 1);
                same("setEdge(" + point + ", " + head + ")",
                        () -> grid.setEdge(point, head), () -> reference.setEdge(point, head));
                break;
            }
            case 4:
                same("setRecharge(" + a + ", " + v + ")",
                        () -> grid.setRecharge(a, v), () -> reference.setRecharge(a, v));
                break;
            case 5:
                same("setRate(" + a + ", " + v + ")", () -> grid.setRate(a, v), () -> reference.setRate(a, v));
                break;
            case 6: {
                int floor = pick(mostLevel + 1);
                int limit = pick(mostLevel + 1);
                same("setLevels(" + a + ", " + floor + ", " + limit + ")",
                        () -> grid.setLevels(a, floor, limit), () -> reference.setLevels(a, floor, limit));
                break;
            }
            case 7: {
                int sweeps = random.nextInt(3) == 0 ? pick(101) : pick(4);
                same("relax(" + sweeps + ")", () -> grid.relax(sweeps), () -> reference.relax(sweeps));
                break;
            }
            default:
                same("undo()", () -> grid.undo(), () -> reference.undo());
                break;
        }
    }

    private void ask() {
        int a = pick(9);
        int b = pick(9);
        int part = pick(2);
        boolean yes = random.nextBoolean();
        switch (random.nextInt(16)) {
            case 0:
                same("isLoose()", () -> grid.isLoose(), () -> reference.isLoose());
                break;
            case 1:
                same("head(" + a + ", " + part + ")", () -> grid.head(a, part), () -> reference.head(a, part));
                break;
            case 2: {
                int link = pick(24);
                same("flow(" + link + ", " + part + ")",
                        () -> grid.flow(link, part), () -> reference.flow(link, part));
                break;
            }
            case 3: {
                int side = pick(4);
                same("inflow(" + side + ", " + part + ")",
                        () -> grid.inflow(side, part), () -> reference.inflow(side, part));
                break;
            }
            case 4:
                same("influence(" + a + ", " + b + ", " + part + ")",
                        () -> grid.influence(a, b, part), () -> reference.influence(a, b, part));
                break;
            case 5:
                same("drawdown(" + a + ", " + part + ")",
                        () -> grid.drawdown(a, part), () -> reference.drawdown(a, part));
                break;
            case 6:
                same("determinant()", () -> grid.determinant(), () -> reference.determinant());
                break;
            case 7:
                same("extreme(" + yes + ")", () -> grid.extreme(yes), () -> reference.extreme(yes));
                break;
            case 8:
                same("dry()", () -> grid.dry(), () -> reference.dry());
                break;
            case 9:
                same("isAllowed()", () -> grid.isAllowed(), () -> reference.isAllowed());
                break;
            case 10:
                same("greatestRate(" + a + ")", () -> grid.greatestRate(a), () -> reference.greatestRate(a));
                break;
            case 11: {
                int cells = pick(512);
                same("greatestEqual(" + cells + ")",
                        () -> grid.greatestEqual(cells), () -> reference.greatestEqual(cells));
                break;
            }
            case 12: case 13:
                same("bestPair(" + a + ", " + b + ")", () -> grid.bestPair(a, b), () -> reference.bestPair(a, b));
                break;
            case 14:
                same("relaxed(" + a + ")", () -> grid.relaxed(a), () -> reference.relaxed(a));
                break;
            default:
                same("error()", () -> grid.error(), () -> reference.error());
                break;
        }
    }
}
