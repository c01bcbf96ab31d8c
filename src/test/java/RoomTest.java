import java.lang.management.ManagementFactory;

/** A whole run of calls keeps to its room; measured in bytes, of which each element takes one at least. */
public final class RoomTest {
    private static final long ROOM = 7_000_000;

    private static final String[] LARGE = {
        "!a=?;!b=^z.zaa;!c=^z.zbb;!d=^z.zcc;!e=^z.zdd;^z.ze11",
        "!a=?;!b=^z.zaa;!c=^z.zbb;!d=^z.zcc;^z.zdcbaaa",
        "^x.!a=?;!b=^z.zaa;!c=^z.zbb;!d=^z.zcc;!y=d;!w=^u.xy;w",
        "!a=^x.x;!b=aa;!c=bb;!d=cc;!e=dd;edcbaa",
        "!a=^x.x;!b=aaa;!c=bbb;!d=ccc;ddccbbaaaaaaaaaaa1",
        "!a=1;!b=a;!c=b;!d=c;!e=d;!f=e;!g=f;!h=g;!i=h;!j=i;!k=j;k",
    };

    private static int wrong;

    private static long bytes() {
        com.sun.management.ThreadMXBean threads = (com.sun.management.ThreadMXBean) ManagementFactory.getThreadMXBean();
        return threads.getThreadAllocatedBytes(Thread.currentThread().getId());
    }

    private static void keepsTo(String what, Runnable run) {
        long before = bytes();
        run.run();
        long taken = bytes() - before;
        System.out.println("RoomTest: " + what + " takes " + taken + " bytes");
        if (taken > ROOM) {
            wrong++;
        }
    }

    private static int type(TypeTutor t, String text) {
        for (int k = 0; k < text.length(); k++) {
            t.append(text.charAt(k));
        }
        return text.length();
    }

    private static void questions() {
        TypeTutor t = new TypeTutor();
        int calls = 0;
        for (String term : LARGE) {
            calls += type(t, term) + 1;
            t.lesson();
        }
        for (; calls < 500; calls += 5) {
            t.isTold();
            t.isAsGeneral(0, 1);
            t.fit(3, calls % 2);
            t.fitting(0);
            t.tell(1);
        }
    }

    private static void changes() {
        TypeTutor t = new TypeTutor();
        type(t, "^a.^b.^c.^d.^e.^f.^g.^h.1");
        t.lesson();
        for (int calls = 0; calls < 480; calls++) {
            t.keep(0, calls % 8);
        }
    }

    private static void refusals() {
        TypeTutor t = new TypeTutor();
        for (int calls = 0; calls < 512; calls++) {
            try {
                t.drop(calls);
            } catch (UnsupportedOperationException e) {
                continue;
            }
        }
    }

    private static void texts() {
        TypeTutor t = new TypeTutor();
        type(t, "^a.^b.^c.^d.^e.^f.^g.^h.1");
        t.lesson();
        for (int calls = 0; calls < 480; calls += 60) {
            type(t, "k0A;k0A;k0A;k0A;k0A;k0A;k0A;k0A;k0A;k0A;k0A;k0A;k0A;k0A;k0A");
            t.run();
        }
    }

    public static void main(String[] arguments) {
        new TypeTutor();
        keepsTo("a new object", TypeTutor::new);
        keepsTo("a run of questions", RoomTest::questions);
        keepsTo("a run of changes", RoomTest::changes);
        keepsTo("a run of refusals", RoomTest::refusals);
        keepsTo("a run of texts", RoomTest::texts);
        if (wrong != 0) {
            System.exit(1);
        }
    }
}
