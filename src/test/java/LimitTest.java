/** As many buckets as 512 calls can make, and calls beyond them, which may answer what they like but must answer. */
public final class LimitTest {
    private static int wrong = 0;

    public static void main(String[] args) {
        manyBuckets();
        manySeries();
        System.out.println(wrong == 0 ? "the limits hold" : wrong + " answers are not as due");
        if (wrong != 0) {
            System.exit(1);
        }
    }

    private static void due(String call, long got, long want) {
        if (got != want) {
            wrong++;
            System.out.println(call + " answered " + got + ", due is " + want);
        }
    }

    /** "tier 1 20;tier 100000 20;": at head 999999 tier 0 has 100000 starts. */
    private static ThinSeries wide() {
        ThinSeries x = new ThinSeries();
        x.feed(0x74696572, 0x20312032, 0x303b7469, 0x65722031, 0x30303030);
        x.feed(0x30203230, 0x3b202020, 0x20202020, 0x20202020, 0x20202020);
        due("tell", x.tell(40), 0);
        return x;
    }

    private static void manyBuckets() {
        ThinSeries x = wide();
        x.tick(0, 999999);
        // falling, so that each one comes ahead of all that are there
        for (int i = 0; i < 500; i++) {
            due("sheet", x.sheet(0, 60, 999999 - i * 180, -3, i, 0), 60);
        }
        due("buckets", x.of(0, 1), 30000);
        due("in tier 0", x.buckets(0, 0), 30000);
        due("gaps", x.gap(0, 0, ThinSeries.NONE, true), 29999);
        due("first", x.bucket(0, 0, 0, 0), 910002);
        due("last", x.bucket(0, 0, 29999, 0), 999999);
        due("total", x.total(0, 910002, 1000000, 5), 30000);
        due("would", x.would(0, 1000000, 0), 30000);
        for (int i = 500; i < 600; i++) {
            x.sheet(0, 60, 1000000 - (i - 500) * 180, -3, i, 0);
            x.sheet(0, 60, 999998 - (i - 500) * 180, -3, i, 0);
            x.of(0, 7);
            x.tick(0, 1000000);
        }
    }

    private static void manySeries() {
        ThinSeries x = wide();
        for (int i = 0; i < 500; i++) {
            due("sheet", x.sheet(i % 10, 60, i * 60, 1, 1, 0), 60);
        }
        due("series", x.count(3), 4);
        due("pushed out", x.count(5), 496);
        due("points", x.of(9, 2), 60);
    }
}
