import java.lang.management.ManagementFactory;

/** What calls make in the room that all of a run share: rows are made in the constructor, and texts alone later. */
public final class RoomTest {
    private static final com.sun.management.ThreadMXBean BEAN =
        (com.sun.management.ThreadMXBean) ManagementFactory.getThreadMXBean();

    private interface Call {
        void on(TreesLendRings x);
    }

    private static int wrong = 0;

    public static void main(String[] args) {
        // The bean itself and the calls' own code make things the first times.
        measured(() -> { }, 50);
        atMost("new", 80000, measured(TreesLendRings::new, 100) / 100);
        nothing("lend, back", x -> { x.lend(0, 0, 0); x.returned(0, 0); });
        nothing("pass", x -> { x.pass(0, 5, 0); x.pass(0, 5, 1); });
        nothing("day", x -> x.day(60));
        nothing("winters", x -> x.winters(17, 40));
        nothing("played", x -> x.played(0));
        nothing("undo", x -> { x.day(1); x.undo(); });
        nothing("image, back", x -> { x.image(); x.back(); });
        nothing("feed, end", x -> { x.feed(1, 2, 3, 4, 5); x.end(0); });
        nothing("of persons", x -> { for (int w = 0; w < 5; w++) { x.of(1, w); } });
        nothing("of oaks", x -> { for (int w = 0; w < 5; w++) { x.ofOak(1, w); } });
        nothing("laws", x -> { x.lends(0, 5, 1); x.pays(0, 5, 1); x.whose(); x.eldest(); });
        nothing("foretold", x -> x.foretold(60, 1, 1));
        nothing("kin", x -> { x.kin(0); x.twins(); x.same(0, 1); x.earliest(0); x.newest(0); });
        nothing("able", x -> { x.able(); x.needs(); x.block(); x.plan(1); x.vote(50); });
        nothing("marks", x -> { x.mark(-1); x.mark(1); x.mark(0); x.dated(1); x.nearest(); });
        nothing("odds", x -> { x.stands(0, 20, true); x.expects(false); x.run(0, true); x.alike(0, 1); });
        nothing("prices", x -> { x.owed(1); x.price(1, 3); x.cheapest(1, 9, true); });
        nothing("oaks", x -> { x.left(1); x.count(1); x.fenced(); x.bare(); x.fires(); x.ledger(1); x.book(0, 1); });
        TreesLendRings x = wood();
        atMost("a text with a fault", 16, measured(() -> { x.feed(1, 2, 3, 4, 5); x.text(); }, 200) / 200);
        atMost("a text", 4000, measured(() -> {
            x.back();
            Due.put(x, "lends 1+2;ages if day<3 then 1 else 2 end;pays 4;day 1;");
            x.text();
        }, 200) / 200);
        System.out.println(wrong == 0 ? "the room is kept small" : wrong + " calls make too much");
        if (wrong != 0) {
            System.exit(1);
        }
    }

    private static TreesLendRings wood() {
        TreesLendRings x = new TreesLendRings();
        for (int i = 0; i < 5; i++) {
            x.oak(0xffffff);
            x.person(i * 7);
            x.wants(i, 40 + i);
        }
        Due.tell(x, "lends root left+1;ages if held<9 and not kind=2 then rings oak else -3 end;pays 10-held/3;day 3;");
        x.by(0);
        for (int i = 0; i < 15; i++) {
            for (int oak = 0; oak < 5; oak++) {
                x.lend(oak, i, (i + oak) % 5);
            }
        }
        x.said(1, 30);
        return x;
    }

    private static void nothing(String what, Call call) {
        TreesLendRings x = wood();
        atMost(what, 16, measured(() -> call.on(x), 200) / 200);
    }

    private static long measured(Runnable work, int times) {
        work.run();
        long id = Thread.currentThread().getId();
        long before = BEAN.getThreadAllocatedBytes(id);
        for (int i = 0; i < times; i++) {
            work.run();
        }
        return BEAN.getThreadAllocatedBytes(id) - before;
    }

    private static void atMost(String what, long most, long bytes) {
        if (bytes > most) {
            wrong++;
            System.out.println(what + " makes " + bytes + " bytes a call, " + most + " at most are due");
        }
    }
}
