import java.util.Random;

/** Long runs of mixed calls, each answer held against the model's. */
public final class ModelRunsTest {
    private static final int CALLS = 512;
    private static final int RUNS = 600;

    private final Random random;
    private final String told;
    private final TreeDesk desk;
    private final Model model;
    private final int adds;
    private final int forks;
    private final int spoils;
    private final int pace;

    private ModelRunsTest(int run) {
        random = new Random(run);
        told = "run " + run + ": ";
        int room = random.nextInt(4) == 0 ? random.nextInt(310) - 5 : 300;
        int time = random.nextInt(6) == 0 ? random.nextInt() : random.nextInt(100000);
        desk = new TreeDesk(room, time);
        model = new Model(room, time);
        adds = 30 + random.nextInt(61);
        forks = random.nextInt(4) == 0 ? random.nextInt(60) : random.nextInt(5);
        spoils = random.nextInt(3) == 0 ? 20 : 1;
        pace = random.nextInt(6);
    }

    private void due(String call, long got, long want) {
        Check.due(told + call, got, want);
    }

    private boolean chance(int percent) {
        return random.nextInt(100) < percent;
    }

    /** Mostly a block that there is, often one of the newest. */
    private int block() {
        int size = model.size();
        switch (random.nextInt(12)) {
            case 0: return size + random.nextInt(3) - 1;
            case 1: return random.nextBoolean() ? -1 : random.nextInt();
            case 2: case 3: case 4: return Math.max(0, size - 1 - random.nextInt(12));
            default: return random.nextInt(size);
        }
    }

    private long timeAfter(int parent) {
        long median = model.median(parent);
        long time = Math.max(median, model.look(parent, 2));
        switch (chance(10) ? random.nextInt(6) : pace) {
            case 0: return median + 1;
            case 1: return time + 100 + random.nextInt(500);
            case 2: return time + 500 + random.nextInt(1000);
            case 3: return time + 2000 + random.nextInt(4000);
            case 4: return median + random.nextInt(6000);
            default: return chance(2) ? Model.MOST - random.nextInt(20) : median + 1 + random.nextInt(3000);
        }
    }

    private void add() {
        int parent = chance(forks) ? block() : model.tip();
        long time = timeAfter(parent);
        long bits = model.must(parent);
        if (chance(3)) {
            bits += random.nextInt(3) - 1;
        }
        if (chance(3)) {
            time = chance(50) ? model.median(parent) + random.nextInt(2) : Model.MOST + random.nextInt(3);
        }
        if (chance(1)) {
            time = random.nextLong();
        }
        due("add(" + parent + ", " + time + ", " + bits + ")", desk.add(parent, time, bits), model.add(parent, time, bits));
    }

    private void ask() {
        int a = block();
        int b = block();
        int small = random.nextInt(8) - 1;
        switch (random.nextInt(10)) {
            case 0: due("must(" + a + ")", desk.must(a), model.must(a)); break;
            case 1: due("median(" + a + ")", desk.median(a), model.median(a)); break;
            case 2: due("look(" + a + ", " + small + ")", desk.look(a, small), model.look(a, small)); break;
            case 3: due("work(" + a + ", " + small + ")", desk.work(a, small), model.work(a, small)); break;
            case 4: due("compare(" + a + ", " + b + ")", desk.compare(a, b), model.compare(a, b)); break;
            case 5: due("tip()", desk.tip(), model.tip()); break;
            case 6: due("size()", desk.size(), model.size()); break;
            case 7:
                int height = (int) model.look(a, 1) - random.nextInt(20) + 1;
                due("below(" + a + ", " + height + ")", desk.below(a, height), model.below(a, height));
                break;
            case 8: due("fork(" + a + ", " + b + ")", desk.fork(a, b), model.fork(a, b)); break;
            default:
                int k = random.nextInt(22) - 1;
                due("row(" + a + ", " + k + ")", desk.row(a, k), model.row(a, k));
        }
    }

    private void run() {
        for (int call = 0; call < CALLS; call++) {
            if (chance(adds)) {
                add();
            } else if (chance(spoils)) {
                int block = block();
                due("spoil(" + block + ")", desk.spoil(block), model.spoil(block));
            } else {
                ask();
            }
        }
    }

    /** The hardest targets that can be: every step as soon as may be, to the last block, then all that can be asked of it. */
    private static void hardest() {
        TreeDesk desk = new TreeDesk(300, 0);
        Model model = new Model(300, 0);
        for (int i = 0; i < 299; i++) {
            long time = model.median(i) + 1;
            long bits = model.must(i);
            Check.due("hardest: add " + i, desk.add(i, time, bits), model.add(i, time, bits));
        }
        Check.due("hardest: the model's work is above 64 bits", model.work(299, 2) != 0 ? 1 : 0, 1);
        for (int i = 250; i < 300; i++) {
            Check.due("hardest: work(" + i + ", 2)", desk.work(i, 2), model.work(i, 2));
            Check.due("hardest: work(" + i + ", 3)", desk.work(i, 3), model.work(i, 3));
        }
        for (int k = 0; k < 20; k++) {
            Check.due("hardest: row(299, " + k + ")", desk.row(299, k), model.row(299, k));
        }
        Check.due("hardest: add without room", desk.add(299, 5000, model.must(299)), -5);
        Check.due("hardest: compare(299, 298)", desk.compare(299, 298), 1);
        Check.due("hardest: spoil(100)", desk.spoil(100), 200);
        Check.due("hardest: tip()", desk.tip(), 99);
    }

    public static void main(String[] args) {
        hardest();
        for (int run = 1; run <= RUNS; run++) {
            new ModelRunsTest(run).run();
        }
        Check.end();
    }
}
