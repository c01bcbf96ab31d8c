import java.util.LinkedHashMap;
import java.util.Map;
import java.util.NoSuchElementException;

/** What the tests that are worked out by hand have in common. */
class Checks {
    interface Call {
        Object get();
    }

    /** Makes a tutor as it stands ahead of a call. */
    interface Maker {
        TypeTutor make();
    }

    interface Use {
        Object on(TypeTutor t);
    }

    static final Class<?> IOB = IndexOutOfBoundsException.class;
    static final Class<?> IAE = IllegalArgumentException.class;
    static final Class<?> ISE = IllegalStateException.class;
    static final Class<?> NSE = NoSuchElementException.class;
    static final Class<?> UOE = UnsupportedOperationException.class;
    static final Class<?> AE = ArithmeticException.class;

    static final int LEAST = Integer.MIN_VALUE;
    static final int GREATEST = Integer.MAX_VALUE;

    static final String LETTERS = "abcdefghijklmnopqrstuvwxyz";
    static final String CAPITALS = "ABCDEFGH";
    static final String DIGITS = "0123456789";
    static final String LEAVES = LETTERS + CAPITALS + DIGITS + "+<?";

    /** What the checks are about just now. */
    static String about = "";
    static int wrong;
    static int checks;

    static void is(Object got, Object due) {
        checks++;
        if (!got.equals(due)) {
            wrong++;
            System.out.println(about + ", " + place() + ": got " + got + ", due is " + due);
        }
    }

    private static String place() {
        for (StackTraceElement element : new Throwable().getStackTrace()) {
            if (!element.getClassName().startsWith("Checks")) {
                return element.getFileName() + " line " + element.getLineNumber();
            }
        }
        return "";
    }

    static void fails(Class<?> due, Call call) {
        Object got;
        try {
            got = call.get();
        } catch (RuntimeException e) {
            got = e.getClass();
        }
        is(got, due);
    }

    static TypeTutor with(String... terms) {
        TypeTutor t = new TypeTutor();
        for (String term : terms) {
            give(t, term);
        }
        return t;
    }

    static TypeTutor type(TypeTutor t, String text) {
        for (int k = 0; k < text.length(); k++) {
            t.append(text.charAt(k));
        }
        return t;
    }

    static int give(TypeTutor t, String term) {
        type(t, term);
        return t.lesson();
    }

    static int run(TypeTutor t, String text) {
        type(t, text);
        return t.run();
    }

    /** The line, read until there is no more of it. */
    static String line(TypeTutor t) {
        StringBuilder text = new StringBuilder();
        try {
            for (int k = 0; k < 5000; k++) {
                text.append(t.character(k));
            }
        } catch (IndexOutOfBoundsException e) {
            return text.toString();
        }
        return "no end";
    }

    /** The line that was just written, of the length that was told. */
    private static String whole(TypeTutor t, int length) {
        String line = line(t);
        is(line.length(), length);
        return line;
    }

    static String told(TypeTutor t, int lesson) {
        return whole(t, t.tell(lesson));
    }

    static String toldNode(TypeTutor t, int lesson, int node) {
        return whole(t, t.tellNode(lesson, node));
    }

    static String toldKept(TypeTutor t, int capital) {
        return whole(t, t.tellKept(capital));
    }

    static String toldTerm(TypeTutor t, int lesson) {
        return whole(t, t.tellTerm(lesson));
    }

    static String typed(String term) {
        return told(with(term), 0);
    }

    static void failed(String term, int reason, int node, int one, int other) {
        TypeTutor t = with(term);
        int[] due = {reason, node, one, other};
        for (int what = 0; what <= 3; what++) {
            is(t.failure(0, what), due[what]);
        }
        is(t.isTyped(0), false);
    }

    static String repeated(String text, int times) {
        return text.repeat(times);
    }

    /** The name of a variable in a line, by its number from 0. */
    static String name(int number) {
        return (char) ('a' + number % 26) + (number < 26 ? "" : "" + number / 26);
    }

    /** Numbers outside of a range: those just beyond its bounds, and the farthest ones. */
    static int[] outside(int least, int greatest) {
        return new int[] {least - 1, greatest + 1, LEAST, GREATEST};
    }

    private static String answer(Call call) {
        try {
            return String.valueOf(call.get());
        } catch (RuntimeException e) {
            return e.getClass().getSimpleName();
        }
    }

    /**
     * All that can be seen of a tutor, part by part; it asks some 200 calls, changes among them, so
     * that what can be undone, what was saved and what is in the input is seen, too.
     */
    static Map<String, String> seen(TypeTutor t) {
        Map<String, String> seen = new LinkedHashMap<>();
        seen.put("line", line(t));
        seen.put("fault", "" + t.faultPosition());
        StringBuilder reason = new StringBuilder();
        for (int depth = 0; depth <= 1; depth++) {
            int d = depth;
            reason.append(answer(() -> t.reason(d, false))).append(' ').append(answer(() -> t.reason(d, true))).append(' ');
        }
        seen.put("reason", reason.toString());
        StringBuilder rest = new StringBuilder();
        for (int what = 0; what <= 12; what++) {
            if (what != 10) {
                rest.append(t.account(what)).append(' ');
            }
        }
        for (int capital = 0; capital < 8; capital++) {
            int c = capital;
            rest.append(answer(() -> t.tellKept(c) + line(t))).append(' ');
        }
        for (int lesson = 0; lesson < t.account(0); lesson++) {
            int l = lesson;
            rest.append(answer(() -> t.nodes(l))).append(' ').append(answer(() -> t.tell(l))).append(' ');
            rest.append(t.tellTerm(l)).append(t.character(0)).append(' ');
        }
        seen.put("lessons and capitals", rest.toString());
        StringBuilder changes = new StringBuilder();
        for (int k = 0; k < 9; k++) {
            changes.append(answer(() -> t.undo())).append(' ').append(counts(t));
        }
        seen.put("changes", changes.toString());
        String text = t.account(10) + " " + answer(() -> t.lesson()) + " " + t.faultPosition();
        seen.put("input", text + answer(() -> t.tellTerm(t.account(0) - 1) + line(t)));
        seen.put("saved", answer(() -> t.restore()) + " " + counts(t));
        return seen;
    }

    private static String counts(TypeTutor t) {
        return t.account(0) + "," + t.account(6) + "," + t.account(7) + "," + t.account(8) + "; ";
    }

    /** Two tutors are seen to be the same, but for the parts that are named. */
    static void sees(TypeTutor got, TypeTutor due, String... but) {
        Map<String, String> one = seen(got);
        Map<String, String> other = seen(due);
        for (String part : but) {
            one.remove(part);
            other.remove(part);
        }
        is(one, other);
    }

    /** The call fails on a new tutor, and all is as before behind it. */
    static void failsAlone(Maker maker, Class<?> due, Use use) {
        TypeTutor t = maker.make();
        fails(due, () -> use.on(t));
        sees(t, maker.make());
    }

    /** The call is refused on a new tutor: the reason is kept, without a cause, and all else is as before. */
    static void refuses(Maker maker, int reason, int detail, Use use) {
        TypeTutor t = maker.make();
        fails(UOE, () -> use.on(t));
        is(t.reason(0, false), reason);
        is(t.reason(0, true), detail);
        fails(NSE, () -> t.reason(1, false));
        fails(NSE, () -> t.reason(1, true));
        sees(t, maker.make(), "reason");
    }

    /** A term has a fault: the input is empty behind it, and all but the fault position is as before. */
    static void faultyTerm(Maker maker, String term, int position) {
        TypeTutor t = maker.make();
        type(t, term);
        fails(IAE, () -> t.lesson());
        is(t.faultPosition(), position);
        is(t.account(10), 0);
        sees(t, maker.make(), "fault");
    }

    /** A text of orders has a fault likewise. */
    static void faultyText(Maker maker, String text, int position) {
        TypeTutor t = maker.make();
        type(t, text);
        fails(IAE, () -> t.run());
        is(t.faultPosition(), position);
        is(t.account(10), 0);
        sees(t, maker.make(), "fault");
    }

    /** A text of orders is refused: the reason 9 with the order's own as its cause, and all else is as before. */
    static void refusedText(Maker maker, String text, int index, int reason, int detail) {
        TypeTutor t = maker.make();
        type(t, text);
        fails(UOE, () -> t.run());
        is(t.faultPosition(), -1);
        is(t.account(10), 0);
        is(t.reason(0, false), 9);
        is(t.reason(0, true), index);
        is(t.reason(1, false), reason);
        is(t.reason(1, true), detail);
        sees(t, maker.make(), "reason", "fault");
    }

    /** The fault position of a term, or -1. */
    static int faultOf(String term) {
        TypeTutor t = type(new TypeTutor(), term);
        try {
            t.lesson();
        } catch (IllegalArgumentException e) {
            return t.faultPosition();
        }
        is(t.faultPosition(), -1);
        return -1;
    }

    /** The fault position of a text of orders, or -1. */
    static int faultOfText(String text) {
        TypeTutor t = type(new TypeTutor(), text);
        try {
            t.run();
        } catch (IllegalArgumentException e) {
            return t.faultPosition();
        } catch (UnsupportedOperationException e) {
            is(t.reason(0, false), 9);
        }
        is(t.faultPosition(), -1);
        return -1;
    }

    static void end(String test) {
        System.out.println(test + ": " + (wrong == 0 ? checks + " answers are as due" : wrong + " answers are not as due"));
        if (wrong != 0) {
            System.exit(1);
        }
    }
}
