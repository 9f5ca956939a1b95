import java.lang.management.ManagementFactory;
import java.util.Random;

/** How much room a run takes, with the dearest calls; and that nothing is thrown far beyond the 512th call. */
public final class RoomTest {
    public static void main(String[] args) {
        var threads = (com.sun.management.ThreadMXBean) ManagementFactory.getThreadMXBean();
        long thread = Thread.currentThread().getId();
        run(new EveryChild(), 512, 0);
        long before = threads.getThreadAllocatedBytes(thread);
        EveryChild x = new EveryChild();
        long made = threads.getThreadAllocatedBytes(thread) - before;
        run(x, 512, 1);
        long all = threads.getThreadAllocatedBytes(thread) - before;
        System.out.println("an object takes " + made + " bytes, a run of dear calls " + all);
        // a field or an element has four bytes at most
        boolean fits = made < 100_000 && all < 1_000_000;
        for (int seed = 0; seed < 20; seed++) run(new EveryChild(), 5000, seed);
        if (!fits) System.exit(1);
    }

    private static void run(EveryChild x, int calls, int seed) {
        Random random = new Random(seed);
        for (int n = 0; n < calls; n++) {
            int a = random.nextInt(26) - 1;
            int b = random.nextInt(14) - 1;
            int many = x.many(0);
            switch (n < 200 ? n % 20 : 20 + random.nextInt(24)) {
                case 0: case 1: x.village(random.nextInt(120), 0, random.nextInt(8)); break;
                case 2: case 3: x.school(random.nextInt(120), 0, 1 + random.nextInt(3), 3, 255); break;
                case 4: x.maker(a % 5, 50, 0, 600); break;
                case 5: x.lorry(30); break;
                case 6: case 7: case 8: x.count(a, b, 999, random.nextInt(1000)); break;
                case 9: case 10: x.teacher(0, 5, 255, 12); break;
                case 11: x.feed('w' << 24 | ':' << 16 | 'n' << 8 | '>', '1' << 24 | '?' << 16 | '9' << 8 | ';', 'h' << 24 | ':' << 16 | '9' << 8, 0, 0); break;
                case 12: x.law(-1, 0); break;
                case 13: x.site(random.nextInt(120)); break;
                case 14: x.lender(100); x.bill(b, 100); break;
                case 15: x.row(0x01010101, 0x01010101); break;
                case 16: x.promise(a, b); x.give(a, b, 1000); break;
                case 17: x.weeks(2); break;
                case 18: x.roof(b, 0, 0); x.treat(a, b); break;
                case 19: x.recount(a, b, 50); break;
                case 20: x.weeks(n % 9 == 0 ? 30 : 1); break;
                case 21: x.draw(b, 0, 1, 5, 1 + random.nextInt(99), 0); break;
                case 22: x.walk(random.nextInt(120), random.nextInt(120), 1); break;
                case 23: x.rain(many, many + 3, true); break;
                case 24: x.shut(b, random.nextBoolean()); break;
                case 25: x.far(b, random.nextBoolean()); break;
                case 26: x.feed('w' << 24 | ':' << 16 | '9' << 8, 0, 0, 0, 0); break;
                case 27: x.law(b % 4, 0); break;
                case 28: x.worth(0, 1, many, 'w', a, b, a, b); break;
                case 29: x.quarrel(0, 1, many); break;
                case 30: x.seated(a, b, many, many); break;
                case 31: x.unseated(-1, many, many); break;
                case 32: x.most(many, many); break;
                case 33: x.cover((1 << x.many(1)) - 1, many); break;
                case 34: x.plan((1 << x.many(6)) - 1, (1 << Math.max(0, a % 3)) - 1, many); break;
                case 35: x.sent(a, many, many); break;
                case 36: x.teacherless(-1, many, many); break;
                case 37: x.span(0, 1, many, 0); break;
                case 38: x.stay(0, 1, many); break;
                case 39: x.wind(0, 300); break;
                case 40: x.roof(b, 1, 0); break;
                case 41: x.blame(); break;
                case 42: x.paid(1, 0); break;
                default: x.end(random.nextInt(3)); break;
            }
        }
    }
}
