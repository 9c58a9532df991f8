import java.lang.management.ManagementFactory;
import java.util.NoSuchElementException;
import java.util.Random;

/** The greatest books and purses, and the oddest numbers: no call throws what isn't told, none takes room. */
public final class BoundsTest {
    private static final int[] ODD = {Integer.MIN_VALUE, -1000000, -101, -2, -1, 0, 1, 2, 3, 4, 5, 6, 7, 8, 9, 10, 13, 14,
        60, 63, 64, 100, 101, 700, 701, 1023, 1024, 1 << 20, Integer.MAX_VALUE - 1, Integer.MAX_VALUE};
    private static final int CALLS = 512;
    /** What 512 calls may take beside the object itself; a TRIAL's FORMULAS, made once, are the most of it. */
    private static final long ROOM = 300_000;

    private static int wrong;

    private BoundsTest() {
    }

    public static void main(String[] args) {
        oddNumbers();
        oddTexts();
        greatestBooks();
        room();
        System.out.println(wrong == 0 ? "BoundsTest: as due" : "BoundsTest: " + wrong + " wrong");
        if (wrong != 0) System.exit(1);
    }

    private static void need(boolean so, String what) {
        if (!so) {
            wrong++;
            System.out.println("BoundsTest: " + what);
        }
    }

    /** Ten facts maybe less one, ten rules, six sends: just in the tape's 700 bytes. */
    static String greatBook(int sends) {
        StringBuilder b = new StringBuilder();
        for (char c = 'a'; c <= 'd'; c++) b.append("machine ").append(c).append(';');
        for (char c = 'p'; c <= 'y'; c++) b.append("row ").append(c).append(" kept;");
        b.append("fact p at a;");
        for (char c = 'q'; c <= 'y'; c++) b.append("fact ").append(c).append(" at a maybe;");
        String rows = "pqrstuvwxy";
        for (int i = 0; i < 10; i++) {
            b.append("rule ").append(rows.charAt((i + 1) % 10)).append(i < 5 ? " next if " : " now if ");
            b.append(rows.charAt(i)).append(';');
        }
        String[] ends = {"ba", "ca", "da", "cb", "dc", "bd"};
        for (int i = 0; i < sends; i++) {
            b.append("send p to ").append(ends[i].charAt(0)).append(" if p at ").append(ends[i].charAt(1)).append(';');
        }
        return b.append("promise p at a gives p at b or p at c or p at d").toString();
    }

    private static void oddNumbers() {
        for (int seed = 0; seed < 200; seed++) {
            Random random = new Random(seed);
            FallTrials x = new FallTrials();
            if (seed % 4 != 0) need(Feeder.tell(x, greatBook(seed % 7)) == 10 + seed % 7, "the great book");
            if (seed % 3 == 0) x.last(2);
            for (int i = 0; i < CALLS - 50; i++) {
                try {
                    oddCall(x, random);
                } catch (RuntimeException e) {
                    need(false, "seed " + seed + ": " + e);
                }
            }
        }
    }

    private static int odd(Random random) {
        return random.nextInt(3) == 0 ? ODD[random.nextInt(ODD.length)] : random.nextInt(6);
    }

    private static void oddCall(FallTrials x, Random r) {
        switch (r.nextInt(30)) {
            case 0 -> x.feed(odd(r), odd(r), odd(r), odd(r), odd(r));
            case 1 -> { if (r.nextInt(40) == 0) x.book(odd(r)); }
            case 2 -> x.last(odd(r));
            case 3 -> x.purse(odd(r), odd(r));
            case 4, 5, 6 -> x.fall(odd(r), odd(r), odd(r));
            case 7 -> x.clear();
            case 8 -> x.run();
            case 9 -> x.there(odd(r), odd(r), odd(r));
            case 10 -> x.reasons(odd(r), odd(r), odd(r));
            case 11 -> x.word(odd(r), odd(r));
            case 12 -> x.differs(odd(r));
            case 13 -> x.spoils();
            case 14 -> x.stands(odd(r), odd(r), odd(r));
            case 15 -> { if (r.nextInt(10) == 0) x.trial(odd(r)); }
            case 16 -> { if (r.nextInt(10) == 0) x.exact(); }
            case 17 -> need(x.found(odd(r)) >= -1 && x.exactly(odd(r)) >= -1 && x.told(odd(r)) >= -1, "numbers");
            case 18 -> x.cut();
            case 19 -> x.start(odd(r));
            case 20 -> { if (r.nextInt(100) == 0) x.thin(); }
            case 21 -> x.mend(odd(r), odd(r));
            case 22 -> x.keep();
            case 23 -> x.fit(odd(r));
            case 24 -> { if (r.nextInt(5) == 0) x.least(); }
            case 25 -> { if (r.nextInt(10) == 0) x.make(odd(r)); }
            case 26 -> x.count(odd(r));
            case 27 -> oddThrows(x, r);
            default -> need(x.tried() >= -1 && x.known() >= -1 && x.thinness() >= -1 && x.trouble() >= 0
                && x.fault() >= 0 && x.where() >= -1, "plain answers");
        }
    }

    private static void oddThrows(FallTrials x, Random r) {
        try {
            x.reason(odd(r), odd(r), odd(r), odd(r));
        } catch (NoSuchElementException e) {
            need(e.getClass() == NoSuchElementException.class, "reason: " + e);
        }
        try {
            x.led(odd(r));
        } catch (NoSuchElementException e) {
            need(e.getClass() == NoSuchElementException.class, "led: " + e);
        }
    }

    /** Bytes of all kinds, and books cut off or joined anywhere. */
    private static void oddTexts() {
        Random random = new Random(5);
        String great = greatBook(6);
        for (int i = 0; i < 3000; i++) {
            FallTrials x = new FallTrials();
            StringBuilder b = new StringBuilder(great.substring(0, random.nextInt(great.length() + 1)));
            for (int k = random.nextInt(4); k > 0 && b.length() > 0; k--) {
                b.setCharAt(random.nextInt(b.length()), (char) random.nextInt(256));
            }
            try {
                need(Feeder.tell(x, b.toString()) >= -1, "an odd text");
            } catch (RuntimeException e) {
                need(false, "an odd text: " + e);
            }
        }
    }

    private static void greatestBooks() {
        int[][] purses = {{3, 0, 0, 0}, {2, 0, 0, 1}, {1, 1, 0, 0}, {0, 1, 1, 1}, {1, 1, 1, 0}, {0, 3, 0, 0}, {1, 0, 0, 1}};
        for (int[] purse : purses) {
            for (int sends = 0; sends <= 6; sends++) {
                FallTrials x = new FallTrials();
                Feeder.tell(x, greatBook(sends));
                x.last(6);
                x.purse(0, 0);
                x.purse(1, 0);
                for (int kind = 0; kind < 4; kind++) x.purse(kind, purse[kind]);
                int total = purse[0] + purse[1] + purse[2] + purse[3];
                boolean tooMuch = total == 3 && x.count(9) > 60;
                need(x.exact() == -1 == tooMuch, "exact()");
                // Where a TRIAL finds one, EXACT's first comes no later; where it holds, EXACT knows none.
                int trial = x.trial(100);
                if (trial == 0) need(x.exact() == 0, "a trial that holds");
                if (trial == 1) need(x.exact() > 0, "a trial that found one");
            }
        }
    }

    /** All calls of a run live in one room: what they make is counted. */
    private static void room() {
        if (!(ManagementFactory.getThreadMXBean() instanceof com.sun.management.ThreadMXBean bean)) return;
        long thread = Thread.currentThread().getId();
        for (int round = 0; round < 3; round++) {
            long before = bean.getThreadAllocatedBytes(thread);
            FallTrials x = new FallTrials();
            long made = bean.getThreadAllocatedBytes(thread) - before;
            need(made < 60_000, "a new object takes " + made + " bytes");
            Feeder.tell(x, greatBook(3));
            before = bean.getThreadAllocatedBytes(thread);
            for (int i = 0; i < CALLS / 8; i++) {
                x.fall(i % 4, i % 3, i % 4);
                x.there(0, 0, 4);
                x.reasons(0, 1, 4);
                x.spoils();
                x.trial(100);
                x.exact();
                x.least();
                if (i % 16 == 0) x.thin();
            }
            long taken = bean.getThreadAllocatedBytes(thread) - before;
            need(taken < ROOM, CALLS + " calls take " + taken + " bytes");
        }
    }
}
