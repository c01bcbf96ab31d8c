import java.util.Arrays;
import java.util.NoSuchElementException;

/** A tutor of types for small functions, as the document of the project tells it. */
public final class TypeTutor {
    private static final int MOST_LESSONS = 6;
    private static final int CAPITALS = 8;
    private static final int MOST_CHARACTERS = 60;
    private static final int LARGEST_SIZE = 200;
    private static final int LARGEST_KEPT = 24;
    private static final int MOST_NODES_AGAIN = 300;
    private static final int MOST_CHANGES = 8;

    // Sixty leaves make fifty-nine applications more.
    private static final int MOST_NODES = 2 * MOST_CHARACTERS;

    // A let takes five characters at least.
    private static final int MOST_LETS = MOST_CHARACTERS / 5;

    // No run comes near this many steps: it makes the end of a loop plain to see.
    private static final int MANY = 1000000;

    private static final int NAME = 0;
    private static final int KEPT_NAME = 1;
    private static final int NUMBER = 2;
    private static final int SIGN = 3;
    private static final int FUNCTION = 4;
    private static final int LET = 5;
    private static final int APPLICATION = 6;

    // The rows of a term; the first six are those that nodeOf tells.
    private static final int KIND = 0;
    private static final int PARENT = 1;
    private static final int FIRST = 2;
    private static final int SECOND = 3;
    private static final int DEPTH = 4;
    private static final int START = 5;
    private static final int LETTER = 6;
    private static final int BINDER = 7;
    private static final int ROWS = 8;

    // Signs of types: variables are numbered from VARIABLE on; from ALONE on
    // stand the variables that a let leaves alone, by their place among the types.
    private static final int TYPE_N = 0;
    private static final int TYPE_B = 1;
    private static final int ARROW = 2;
    private static final int VARIABLE = 3;
    private static final int ALONE = 1000;

    private static final int SIZE = 0;
    private static final int VARIABLES = 2;

    private static final int TOO_MANY = 1;
    private static final int NO_LESSON = 2;
    private static final int NOT_BOUND = 3;
    private static final int CLASH = 4;
    private static final int CONTAINS_ITSELF = 5;
    private static final int NOT_KEPT = 6;
    private static final int TOO_LARGE_TO_KEEP = 7;
    private static final int NO_CAPITAL = 8;
    private static final int ORDER_REFUSED = 9;
    private static final int TOO_LARGE = 10;

    private final StringBuilder input = new StringBuilder();
    private final StringBuilder line = new StringBuilder();
    private final TermReader reader = new TermReader();
    private final Finder finder = new Finder();
    private final Shape shapeOne = new Shape(LARGEST_SIZE);
    private final Shape shapeTwo = new Shape(LARGEST_SIZE);
    private final State now = new State();
    private final State before = new State();
    private final State saved = new State();
    private final History history = new History();
    private boolean isSaved;
    private int fault = -1;
    private Refusal refusal;

    public TypeTutor() {
    }

    public int lesson() throws IllegalArgumentException, UnsupportedOperationException {
        fault = reader.faultIn(input);
        if (fault >= 0) {
            input.setLength(0);
            throw new IllegalArgumentException("the term has a fault");
        }
        if (now.count >= MOST_LESSONS) {
            input.setLength(0);
            refuse(TOO_MANY, MOST_LESSONS);
            throw new UnsupportedOperationException("there are as many lessons as there can be");
        }
        before.take(now);
        int number = now.give(reader.read(input));
        input.setLength(0);
        history.push(before);
        return number;
    }

    public int drop(int lesson) throws UnsupportedOperationException {
        before.take(now);
        int answer = dropLesson(lesson);
        if (answer < 0) {
            throw new UnsupportedOperationException("the lesson can't be dropped");
        }
        history.push(before);
        return answer;
    }

    public int keep(int lesson, int capital) throws UnsupportedOperationException {
        before.take(now);
        int answer = keepType(lesson, capital);
        if (answer < 0) {
            throw new UnsupportedOperationException("the type can't be kept");
        }
        history.push(before);
        return answer;
    }

    public int unkeep(int capital) throws UnsupportedOperationException {
        before.take(now);
        int answer = unkeepType(capital);
        if (answer < 0) {
            throw new UnsupportedOperationException("the capital can't be emptied");
        }
        history.push(before);
        return answer;
    }

    public int nodes(int lesson) throws IndexOutOfBoundsException {
        return termOf(lesson).count;
    }

    public int nodeOf(int lesson, int node, int what) throws IndexOutOfBoundsException, IllegalArgumentException {
        Term term = termWith(lesson, node);
        if (what < KIND || what > START) {
            throw new IllegalArgumentException("there is no such number of a node");
        }
        return term.of(what, node);
    }

    public char signOf(int lesson, int node) throws IndexOutOfBoundsException, NoSuchElementException {
        Term term = termWith(lesson, node);
        if (term.of(KIND, node) == APPLICATION) {
            throw new NoSuchElementException("an application has no sign");
        }
        return (char) term.of(LETTER, node);
    }

    public int binder(int lesson, int node) throws IndexOutOfBoundsException, NoSuchElementException {
        Term term = termWith(lesson, node);
        if (term.of(KIND, node) != NAME || term.of(BINDER, node) < 0) {
            throw new NoSuchElementException("nothing binds this node");
        }
        return term.of(BINDER, node);
    }

    public int uses(int lesson, int node) throws IndexOutOfBoundsException, IllegalArgumentException {
        Term term = termWith(lesson, node);
        int kind = term.of(KIND, node);
        if (kind != FUNCTION && kind != LET) {
            throw new IllegalArgumentException("the node is neither a function nor a let");
        }
        return term.namesBoundBy(node);
    }

    public int unbound(int lesson) throws IndexOutOfBoundsException {
        return termOf(lesson).namesBoundBy(-1);
    }

    public boolean isTyped(int lesson) throws IndexOutOfBoundsException {
        return finder.goThrough(termOf(lesson), now, false);
    }

    public int failure(int lesson, int what)
            throws IndexOutOfBoundsException, IllegalArgumentException, NoSuchElementException {
        Term term = termOf(lesson);
        if (what < 0 || what > 3) {
            throw new IllegalArgumentException("there is no such number of a failure");
        }
        if (finder.goThrough(term, now, false)) {
            throw new NoSuchElementException("the lesson has a type");
        }
        switch (what) {
            case 0:
                return finder.reasonFound;
            case 1:
                return finder.where;
            case 2:
                return finder.partOne;
            default:
                return finder.partTwo;
        }
    }

    public int typeOf(int lesson, int what)
            throws IndexOutOfBoundsException, IllegalArgumentException, IllegalStateException {
        Term term = termOf(lesson);
        needMeasure(what);
        needType(term, shapeOne);
        return shapeOne.measure(what);
    }

    public int typeAgain(int lesson, int what)
            throws IndexOutOfBoundsException, IllegalArgumentException, IllegalStateException {
        Term term = termOf(lesson);
        needMeasure(what);
        needType(term, shapeOne);
        if (!finder.goThrough(term, now, true)) {
            throw new IllegalStateException("the second way goes through too many nodes");
        }
        finder.spellWhole(shapeTwo);
        return shapeTwo.measure(what);
    }

    public int nodeType(int lesson, int node, int what)
            throws IndexOutOfBoundsException, IllegalArgumentException, IllegalStateException {
        Term term = termWith(lesson, node);
        needMeasure(what);
        needType(term, shapeOne);
        finder.spellNode(node, shapeOne);
        return shapeOne.measure(what);
    }

    public boolean isAlike(int one, int other) throws IndexOutOfBoundsException, IllegalStateException {
        Term first = termOf(one);
        Term second = termOf(other);
        needType(first, shapeOne);
        needType(second, shapeTwo);
        return shapeOne.isSame(shapeTwo);
    }

    public boolean isAsGeneral(int one, int other) throws IndexOutOfBoundsException, IllegalStateException {
        Term first = termOf(one);
        Term second = termOf(other);
        needType(first, shapeOne);
        needType(second, shapeTwo);
        return shapeOne.becomes(shapeTwo);
    }

    public int fit(int function, int argument)
            throws IndexOutOfBoundsException, IllegalStateException, NoSuchElementException {
        Term first = termOf(function);
        Term second = termOf(argument);
        needType(first, shapeOne);
        needType(second, shapeTwo);
        int size = finder.sizeApplied(shapeOne, shapeTwo);
        if (size < 0) {
            throw new NoSuchElementException("the lessons do not fit");
        }
        return size;
    }

    public int fitting(int function) throws IndexOutOfBoundsException, IllegalStateException {
        needType(termOf(function), shapeOne);
        int fitting = 0;
        for (int lesson = 0; lesson < now.count; lesson++) {
            if (spells(now.termAt(lesson), shapeTwo) && finder.sizeApplied(shapeOne, shapeTwo) >= 0) {
                fitting++;
            }
        }
        return fitting;
    }

    public boolean isKept(int capital) throws IndexOutOfBoundsException {
        needCapital(capital);
        return now.keptAt(capital) != null;
    }

    public int largest() throws NoSuchElementException {
        int best = -1;
        int bestSize = 0;
        for (int lesson = 0; lesson < now.count; lesson++) {
            if (spells(now.termAt(lesson), shapeOne) && shapeOne.length > bestSize) {
                best = lesson;
                bestSize = shapeOne.length;
            }
        }
        if (best < 0) {
            throw new NoSuchElementException("no lesson has a type");
        }
        return best;
    }

    public int ranked(int place) throws NoSuchElementException {
        for (int lesson = 0; lesson < now.count; lesson++) {
            if (now.placeOf(lesson) == place) {
                return lesson;
            }
        }
        throw new NoSuchElementException("there is no such place");
    }

    public boolean isTold() {
        for (int lesson = 0; lesson < now.count; lesson++) {
            Term term = now.termAt(lesson);
            if (spells(term, shapeOne) && finder.goThrough(term, now, true)) {
                finder.spellWhole(shapeTwo);
                if (!shapeOne.isSame(shapeTwo)) {
                    return false;
                }
            }
        }
        return true;
    }

    public int append(char character) throws IllegalArgumentException, IllegalStateException {
        if (character < 33 || character > 126) {
            throw new IllegalArgumentException("no such character can be appended");
        }
        if (input.length() >= MOST_CHARACTERS) {
            throw new IllegalStateException("the input is full");
        }
        input.append(character);
        return input.length();
    }

    public int run() throws IllegalArgumentException, UnsupportedOperationException {
        fault = Orders.faultIn(input);
        if (fault >= 0) {
            input.setLength(0);
            throw new IllegalArgumentException("the text has a fault");
        }
        before.take(now);
        int done = 0;
        int answer = 0;
        for (int at = 0; at < input.length() && answer >= 0; at += Orders.lengthOf(signAt(input, at)) + 1) {
            char order = signAt(input, at);
            char first = signAt(input, at + 1);
            answer = order == 'k' ? keepType(first - '0', signAt(input, at + 2) - 'A')
                    : order == 'u' ? unkeepType(first - 'A') : dropLesson(first - '0');
            done += answer < 0 ? 0 : 1;
        }
        input.setLength(0);
        if (answer < 0) {
            refusal = new Refusal(ORDER_REFUSED, done, refusal);
            now.take(before);
            throw new UnsupportedOperationException("an order is refused");
        }
        history.push(before);
        return done;
    }

    public int faultPosition() {
        return fault;
    }

    public int reason(int depth, boolean isDetail) throws IllegalArgumentException, NoSuchElementException {
        if (depth != 0 && depth != 1) {
            throw new IllegalArgumentException("the depth is neither 0 nor 1");
        }
        Refusal told = depth == 1 && refusal != null ? refusal.cause : refusal;
        if (told == null) {
            throw new NoSuchElementException("there is no such reason");
        }
        return isDetail ? told.detail : told.number;
    }

    public int tell(int lesson) throws IndexOutOfBoundsException, IllegalStateException {
        needType(termOf(lesson), shapeOne);
        return writeLine(shapeOne);
    }

    public int tellNode(int lesson, int node) throws IndexOutOfBoundsException, IllegalStateException {
        needType(termWith(lesson, node), shapeOne);
        finder.spellNode(node, shapeOne);
        return writeLine(shapeOne);
    }

    public int tellKept(int capital) throws IndexOutOfBoundsException, NoSuchElementException {
        needCapital(capital);
        Shape shape = now.keptAt(capital);
        if (shape == null) {
            throw new NoSuchElementException("the capital keeps nothing");
        }
        return writeLine(shape);
    }

    public int tellTerm(int lesson) throws IndexOutOfBoundsException {
        Term term = termOf(lesson);
        line.setLength(0);
        term.write(line);
        return line.length();
    }

    public char character(int index) throws IndexOutOfBoundsException {
        if (index < 0 || index >= line.length()) {
            throw new IndexOutOfBoundsException("there is no such character");
        }
        return line.charAt(index);
    }

    public int account(int what) throws IllegalArgumentException {
        switch (what) {
            case 0:
                return now.count;
            case 1:
                return lessonsFailing(0);
            case 2:
                return lessonsFailing(NOT_BOUND);
            case 3:
                return lessonsFailing(CLASH);
            case 4:
                return lessonsFailing(CONTAINS_ITSELF);
            case 5:
                return now.allNodes();
            case 6:
                return now.capitalsKeeping();
            case 7:
                return now.given;
            case 8:
                return now.everKept;
            case 9:
                return lessonsWithoutVariables();
            case 10:
                return input.length();
            case 11:
                return history.count;
            case 12:
                return lessonsFailing(TOO_LARGE);
            default:
                throw new IllegalArgumentException("there is no such account");
        }
    }

    public double meanSize() throws ArithmeticException {
        int sum = 0;
        int typed = 0;
        for (int lesson = 0; lesson < now.count; lesson++) {
            if (spells(now.termAt(lesson), shapeOne)) {
                sum += shapeOne.length;
                typed++;
            }
        }
        if (typed == 0) {
            throw new ArithmeticException("no lesson has a type");
        }
        return (double) sum / typed;
    }

    public float typedShare() throws ArithmeticException {
        if (now.count == 0) {
            throw new ArithmeticException("there are no lessons");
        }
        return (float) lessonsFailing(0) / now.count;
    }

    public int undo() throws IllegalStateException {
        if (history.count == 0) {
            throw new IllegalStateException("there is no change to undo");
        }
        history.pop(now);
        return history.count;
    }

    public int save() {
        saved.take(now);
        isSaved = true;
        return now.count;
    }

    public int restore() throws IllegalStateException {
        if (!isSaved) {
            throw new IllegalStateException("nothing was saved");
        }
        now.take(saved);
        history.clear();
        return now.count;
    }

    // What follows first are the three orders: they answer -1 if they refuse,
    // with the refusal kept, so that a text of orders can go back as a whole.

    private int dropLesson(int lesson) {
        Term term = now.termAt(lesson);
        if (term == null) {
            return refuse(NO_LESSON, lesson);
        }
        now.remove(lesson);
        return term.count;
    }

    private int keepType(int lesson, int capital) {
        Term term = now.termAt(lesson);
        if (term == null) {
            return refuse(NO_LESSON, lesson);
        }
        if (!isCapital(capital)) {
            return refuse(NO_CAPITAL, capital);
        }
        if (!finder.goThrough(term, now, false)) {
            return refuse(finder.reasonFound, finder.where);
        }
        finder.spellWhole(shapeOne);
        if (shapeOne.length > LARGEST_KEPT) {
            return refuse(TOO_LARGE_TO_KEEP, shapeOne.length);
        }
        now.keepAt(capital, shapeOne.copy());
        return shapeOne.measure(VARIABLES);
    }

    private int unkeepType(int capital) {
        if (!isCapital(capital)) {
            return refuse(NO_CAPITAL, capital);
        }
        Shape shape = now.keptAt(capital);
        if (shape == null) {
            return refuse(NOT_KEPT, capital);
        }
        now.emptyAt(capital);
        return shape.length;
    }

    private int refuse(int number, int detail) {
        refusal = new Refusal(number, detail, null);
        return -1;
    }

    private Term termOf(int lesson) {
        Term term = now.termAt(lesson);
        if (term == null) {
            throw new IndexOutOfBoundsException("there is no such lesson");
        }
        return term;
    }

    private Term termWith(int lesson, int node) {
        Term term = termOf(lesson);
        if (!term.hasNode(node)) {
            throw new IndexOutOfBoundsException("there is no such node");
        }
        return term;
    }

    private static void needMeasure(int what) {
        if (what < 0 || what > 4) {
            throw new IllegalArgumentException("there is no such number of a type");
        }
    }

    private static void needCapital(int capital) {
        if (!isCapital(capital)) {
            throw new IndexOutOfBoundsException("there is no such capital");
        }
    }

    private void needType(Term term, Shape shape) {
        if (!finder.goThrough(term, now, false)) {
            throw new IllegalStateException("the lesson has no type");
        }
        finder.spellWhole(shape);
    }

    /** Spells the type of a term, if it has one. */
    private boolean spells(Term term, Shape shape) {
        if (term == null || !finder.goThrough(term, now, false)) {
            return false;
        }
        finder.spellWhole(shape);
        return true;
    }

    private int writeLine(Shape shape) {
        line.setLength(0);
        shape.write(line);
        return line.length();
    }

    /** How many lessons have no type for a reason; 0 stands for those that have one. */
    private int lessonsFailing(int number) {
        int lessons = 0;
        for (int lesson = 0; lesson < now.count; lesson++) {
            Term term = now.termAt(lesson);
            if (term != null) {
                finder.goThrough(term, now, false);
                if (finder.reasonFound == number) {
                    lessons++;
                }
            }
        }
        return lessons;
    }

    private int lessonsWithoutVariables() {
        int lessons = 0;
        for (int lesson = 0; lesson < now.count; lesson++) {
            Term term = now.termAt(lesson);
            if (term != null && finder.goThrough(term, now, false)) {
                finder.spellWhole(shapeOne);
                lessons += shapeOne.measure(VARIABLES) == 0 ? 1 : 0;
            }
        }
        return lessons;
    }

    private static boolean isCapital(int capital) {
        return capital >= 0 && capital < CAPITALS;
    }

    private static boolean isLetter(char sign) {
        return sign >= 'a' && sign <= 'z';
    }

    private static boolean isCapitalSign(char sign) {
        return sign >= 'A' && sign < 'A' + CAPITALS;
    }

    private static boolean isDigit(char sign) {
        return sign >= '0' && sign <= '9';
    }

    private static char signAt(StringBuilder text, int index) {
        return index >= 0 && index < text.length() ? text.charAt(index) : (char) 0;
    }

    private static int at(int[] row, int index) {
        return index >= 0 && index < row.length ? row[index] : -1;
    }

    private static void put(int[] row, int index, int value) {
        if (index >= 0 && index < row.length) {
            row[index] = value;
        }
    }

    /** Why something was refused, and what is behind it. */
    private static final class Refusal {
        private final int number;
        private final int detail;
        private final Refusal cause;

        private Refusal(int number, int detail, Refusal cause) {
            this.number = number;
            this.detail = detail;
            this.cause = cause;
        }
    }

    /** The nodes of a lesson, in rows. It does not change any more once it was read. */
    private static final class Term {
        private final int[][] rows;
        private int count;

        private Term(int room) {
            rows = new int[ROWS][room < 0 ? 0 : room];
        }

        private boolean hasNode(int node) {
            return node >= 0 && node < count;
        }

        private int of(int row, int node) {
            return row >= 0 && row < rows.length && hasNode(node) ? at(rows[row], node) : -1;
        }

        private void set(int row, int node, int value) {
            if (row >= 0 && row < rows.length) {
                put(rows[row], node, value);
            }
        }

        /** The node that a node is a part of, or -1; it always has a lower number. */
        private int parentOf(int node) {
            int parent = of(PARENT, node);
            return parent < node ? parent : -1;
        }

        private int namesBoundBy(int binder) {
            int names = 0;
            for (int node = 0; node < count; node++) {
                if (of(KIND, node) == NAME && of(BINDER, node) == binder) {
                    names++;
                }
            }
            return names;
        }

        /** The innermost function or let whose body has the name, or -1. */
        private int binderOf(int name) {
            int part = name;
            for (int around = parentOf(name); around >= 0; around = parentOf(around)) {
                int kind = of(KIND, around);
                boolean isBody = kind == FUNCTION || kind == LET && of(SECOND, around) == part;
                if (isBody && of(LETTER, around) == of(LETTER, name)) {
                    return around;
                }
                part = around;
            }
            return -1;
        }

        private boolean isBracketed(int node) {
            return node > 0 && of(KIND, node) >= FUNCTION;
        }

        /** Nodes are numbered as they come in the text, so one pass over them writes it. */
        private void write(StringBuilder text) {
            for (int node = 0; node < count; node++) {
                int kind = of(KIND, node);
                if (isBracketed(node)) {
                    text.append('(');
                }
                if (kind < FUNCTION) {
                    text.append((char) of(LETTER, node));
                    writeEnds(node, text);
                } else if (kind != APPLICATION) {
                    text.append(kind == FUNCTION ? '^' : '!');
                    text.append((char) of(LETTER, node));
                    text.append(kind == FUNCTION ? '.' : '=');
                }
            }
        }

        /** Writes what comes behind a node that has no parts: the ends of the nodes that end with it. */
        private void writeEnds(int leaf, StringBuilder text) {
            int part = leaf;
            for (int around = parentOf(leaf); around >= 0; around = parentOf(around)) {
                if (of(SECOND, around) > part) {
                    if (of(KIND, around) == LET) {
                        text.append(';');
                    }
                    return;
                }
                if (isBracketed(around)) {
                    text.append(')');
                }
                part = around;
            }
        }
    }

    /** Reads terms. It looks for a fault ahead of reading, so reading meets none. */
    private static final class TermReader {
        private static final int AT_TERM = 0;
        private static final int AT_FUNCTION_NAME = 1;
        private static final int AT_DOT = 2;
        private static final int AT_LET_NAME = 3;
        private static final int AT_EQUALS = 4;
        private static final int BEHIND_PART = 5;
        private static final int AT_FAULT = 6;

        // What is open: '(' for a bracket, '=' for what a let binds.
        private final int[] open = new int[MOST_CHARACTERS];
        private int openCount;

        // The nodes whose parts are still to come, once for each such part, the next one last.
        private final int[] waiting = new int[2 * MOST_NODES];
        private int waitingCount;

        private int faultIn(StringBuilder text) {
            openCount = 0;
            int place = AT_TERM;
            for (int index = 0; index < text.length(); index++) {
                place = placeBehind(place, text.charAt(index));
                if (place == AT_FAULT) {
                    return index;
                }
            }
            return place == BEHIND_PART && openCount == 0 ? -1 : text.length();
        }

        private int placeBehind(int place, char sign) {
            switch (place) {
                case AT_TERM:
                    return sign == '^' ? AT_FUNCTION_NAME : sign == '!' ? AT_LET_NAME : placeBehindPart(sign);
                case AT_FUNCTION_NAME:
                    return isLetter(sign) ? AT_DOT : AT_FAULT;
                case AT_DOT:
                    return sign == '.' ? AT_TERM : AT_FAULT;
                case AT_LET_NAME:
                    return isLetter(sign) ? AT_EQUALS : AT_FAULT;
                case AT_EQUALS:
                    return sign == '=' ? placeInside('=') : AT_FAULT;
                default:
                    return sign == ')' ? placeOutside('(', BEHIND_PART)
                            : sign == ';' ? placeOutside('=', AT_TERM) : placeBehindPart(sign);
            }
        }

        private int placeBehindPart(char sign) {
            return sign == '(' ? placeInside('(') : kindOf(sign) >= 0 ? BEHIND_PART : AT_FAULT;
        }

        private int placeInside(char opener) {
            put(open, openCount, opener);
            openCount++;
            return AT_TERM;
        }

        private int placeOutside(char opener, int place) {
            if (at(open, openCount - 1) != opener) {
                return AT_FAULT;
            }
            openCount--;
            return place;
        }

        /** The kind of a node that is one sign, or -1 for a sign that is no node. */
        private static int kindOf(char sign) {
            return isLetter(sign) ? NAME
                    : isCapitalSign(sign) ? KEPT_NAME
                    : isDigit(sign) ? NUMBER
                    : sign == '+' || sign == '<' || sign == '?' ? SIGN : -1;
        }

        private Term read(StringBuilder text) {
            Term term = new Term(2 * text.length());
            waitingCount = 0;
            boolean isTermAhead = true;
            int index = 0;
            while (index < text.length()) {
                char sign = text.charAt(index);
                boolean isBinding = sign == '^' || sign == '!';
                if (isTermAhead && !isBinding) {
                    addApplications(term, partsFrom(text, index) - 1);
                }
                if (isBinding) {
                    addNode(term, sign == '^' ? FUNCTION : LET, signAt(text, index + 1), index);
                } else if (kindOf(sign) >= 0) {
                    addNode(term, kindOf(sign), sign, index);
                }
                isTermAhead = isBinding || sign == '(' || sign == ';';
                index += isBinding ? 3 : 1;
            }
            finish(term);
            return term;
        }

        /** How many parts stand side by side from an index on. */
        private static int partsFrom(StringBuilder text, int start) {
            int parts = 0;
            int depth = 0;
            for (int index = start; index < text.length(); index++) {
                char sign = text.charAt(index);
                if (depth == 0 && (sign == ')' || sign == ';')) {
                    return parts;
                }
                depth += sign == '(' ? 1 : sign == ')' ? -1 : 0;
                if (depth == 0) {
                    parts++;
                }
            }
            return parts;
        }

        /** Of parts side by side, the application of the last one is the whole and comes first. */
        private void addApplications(Term term, int count) {
            for (int made = 0; made < count; made++) {
                addNode(term, APPLICATION, (char) 0, 0);
            }
        }

        private void addNode(Term term, int kind, char letter, int start) {
            int node = term.count;
            term.count++;
            waitingCount = waitingCount > 0 ? waitingCount - 1 : 0;
            int parent = node == 0 ? -1 : at(waiting, waitingCount);
            term.set(KIND, node, kind);
            term.set(PARENT, node, parent);
            term.set(FIRST, node, -1);
            term.set(SECOND, node, -1);
            term.set(DEPTH, node, node == 0 ? 0 : term.of(DEPTH, parent) + 1);
            term.set(START, node, start);
            term.set(LETTER, node, letter);
            term.set(BINDER, node, -1);
            if (node > 0) {
                term.set(node == parent + 1 ? FIRST : SECOND, parent, node);
            }
            int parts = kind < FUNCTION ? 0 : kind == FUNCTION ? 1 : 2;
            for (int part = 0; part < parts; part++) {
                put(waiting, waitingCount, node);
                waitingCount++;
            }
        }

        /** Puts in what is known only when all nodes are there. */
        private static void finish(Term term) {
            for (int node = term.count - 1; node >= 0; node--) {
                int kind = term.of(KIND, node);
                if (kind == APPLICATION) {
                    term.set(START, node, term.of(START, term.of(FIRST, node)));
                } else if (kind == NAME) {
                    term.set(BINDER, node, term.binderOf(node));
                }
            }
        }
    }

    /** Texts of orders. */
    private static final class Orders {
        private static final int AT_ORDER = 0;
        private static final int AT_LESSON = 1;
        private static final int AT_KEPT_LESSON = 2;
        private static final int AT_CAPITAL = 3;
        private static final int BEHIND_ORDER = 4;
        private static final int AT_FAULT = 5;

        private Orders() {
        }

        private static int faultIn(StringBuilder text) {
            int place = AT_ORDER;
            for (int index = 0; index < text.length(); index++) {
                place = placeBehind(place, text.charAt(index));
                if (place == AT_FAULT) {
                    return index;
                }
            }
            return place == BEHIND_ORDER ? -1 : text.length();
        }

        private static int placeBehind(int place, char sign) {
            switch (place) {
                case AT_ORDER:
                    return sign == 'k' ? AT_KEPT_LESSON
                            : sign == 'u' ? AT_CAPITAL
                            : sign == 'x' ? AT_LESSON : AT_FAULT;
                case AT_LESSON:
                    return isDigit(sign) ? BEHIND_ORDER : AT_FAULT;
                case AT_KEPT_LESSON:
                    return isDigit(sign) ? AT_CAPITAL : AT_FAULT;
                case AT_CAPITAL:
                    return isCapitalSign(sign) ? BEHIND_ORDER : AT_FAULT;
                default:
                    return sign == ';' ? AT_ORDER : AT_FAULT;
            }
        }

        private static int lengthOf(char order) {
            return order == 'k' ? 3 : 2;
        }
    }

    /**
     * A type as a row of signs: an arrow, then what it is from, then what it is to.
     * On the way through it, the arrows that wait for what they are to are counted:
     * an arrow adds one, each other sign ends what the latest one of them is from.
     */
    private static final class Shape {
        private final int[] signs;
        private int length;

        private Shape(int room) {
            signs = new int[room < 0 ? 0 : room];
        }

        private void add(int sign) {
            if (length < signs.length) {
                put(signs, length, sign);
                length++;
            }
        }

        private int sign(int index) {
            return index < length ? at(signs, index) : -1;
        }

        private Shape copy() {
            Shape copy = new Shape(length);
            for (int index = 0; index < length; index++) {
                copy.add(sign(index));
            }
            return copy;
        }

        private int measure(int what) {
            switch (what) {
                case SIZE:
                    return length;
                case 1:
                    return arrows();
                case VARIABLES:
                    return variables();
                case 3:
                    return order();
                default:
                    return places();
            }
        }

        private int arrows() {
            int arrows = 0;
            for (int index = 0; index < length; index++) {
                if (sign(index) == ARROW) {
                    arrows++;
                }
            }
            return arrows;
        }

        /** Variables are numbered without a gap, so the highest number tells how many there are. */
        private int variables() {
            int variables = 0;
            for (int index = 0; index < length; index++) {
                variables = Math.max(variables, sign(index) - VARIABLE + 1);
            }
            return variables;
        }

        /** The order is how many arrows wait at once, at most. */
        private int order() {
            int waiting = 0;
            int order = 0;
            for (int index = 0; index < length; index++) {
                waiting += sign(index) == ARROW ? 1 : -1;
                order = Math.max(order, waiting);
            }
            return order;
        }

        /** The places are the arrows at which no other one waits. */
        private int places() {
            int waiting = 0;
            int places = 0;
            for (int index = 0; index < length; index++) {
                if (sign(index) == ARROW) {
                    places += waiting == 0 ? 1 : 0;
                    waiting++;
                } else {
                    waiting--;
                }
            }
            return places;
        }

        private boolean isSame(Shape other) {
            if (length != other.length) {
                return false;
            }
            for (int index = 0; index < length; index++) {
                if (sign(index) != other.sign(index)) {
                    return false;
                }
            }
            return true;
        }

        /** Whether types in place of the variables make the other type of this one. */
        private boolean becomes(Shape other) {
            int[] starts = new int[variables()];
            Arrays.fill(starts, -1);
            int place = 0;
            for (int index = 0; index < length; index++) {
                int variable = sign(index) - VARIABLE;
                if (variable < 0) {
                    if (sign(index) != other.sign(place)) {
                        return false;
                    }
                    place++;
                } else {
                    if (at(starts, variable) < 0) {
                        put(starts, variable, place);
                    }
                    if (!other.isRepeated(at(starts, variable), place)) {
                        return false;
                    }
                    place = other.endOf(place);
                }
            }
            return true;
        }

        /** Whether the part at one index is written as the part at another one. */
        private boolean isRepeated(int one, int other) {
            int size = endOf(one) - one;
            for (int step = 0; step < size; step++) {
                if (sign(one + step) != sign(other + step)) {
                    return false;
                }
            }
            return true;
        }

        /** The index behind the part that starts at an index. */
        private int endOf(int start) {
            int parts = 1;
            int index = start;
            while (parts > 0 && index < length) {
                parts += sign(index) == ARROW ? 1 : -1;
                index++;
            }
            return index;
        }

        private void write(StringBuilder text) {
            int waiting = 0;
            for (int index = 0; index < length; index++) {
                if (sign(index) == ARROW) {
                    if (sign(index + 1) == ARROW) {
                        text.append('(');
                    }
                    waiting++;
                } else {
                    writeSign(sign(index), text);
                    if (waiting > 0) {
                        waiting--;
                        // Behind an arrow stands what it is from; else this ends a longer one, in brackets.
                        if (sign(index - 1) != ARROW) {
                            text.append(')');
                        }
                        text.append('>');
                    }
                }
            }
        }

        private static void writeSign(int sign, StringBuilder text) {
            if (sign == TYPE_N || sign == TYPE_B) {
                text.append(sign == TYPE_N ? 'N' : 'B');
                return;
            }
            int variable = sign - VARIABLE;
            text.append((char) ('a' + Math.floorMod(variable, 26)));
            if (variable >= 26) {
                text.append(variable / 26);
            }
        }
    }

    /**
     * The types of one question. Each is a place in rows: N and B the first two, then
     * arrows and variables. One that became another type has a link to it. The rows grow
     * as they must, so that a tutor with small lessons stays small.
     */
    private static final class Types {
        private int[] from = new int[256];
        private int[] to = new int[256];
        private int[] link = new int[256];
        private int[] mark = new int[256];
        private int count;
        private int latestMark;

        // The pairs that are still to fit, the next one last.
        private int[] ones = new int[64];
        private int[] others = new int[64];
        private int[] joins = new int[64];
        private int pairs;

        // The types that are still to be looked at, the next one last.
        private int[] trail = new int[64];
        private int trailCount;

        private final int[] numbered = new int[LARGEST_SIZE];
        private int partOne;
        private int partTwo;

        private void clear() {
            count = 0;
            latestMark = 0;
            pairs = 0;
            add(-1, -1);
            add(-1, -1);
        }

        /** Adds an arrow; or a variable, which is from nothing. */
        private int add(int start, int end) {
            if (count >= from.length) {
                from = Arrays.copyOf(from, 2 * count);
                to = Arrays.copyOf(to, 2 * count);
                link = Arrays.copyOf(link, 2 * count);
                mark = Arrays.copyOf(mark, 2 * count);
            }
            put(from, count, start);
            put(to, count, end);
            put(link, count, -1);
            put(mark, count, 0);
            count++;
            return count - 1;
        }

        /** What a type is by now. */
        private int known(int type) {
            int place = type;
            for (int step = 0; step < count && at(link, place) >= 0; step++) {
                place = at(link, place);
            }
            return place;
        }

        private int kindOf(int type) {
            return type == TYPE_N || type == TYPE_B ? type : at(from, type) >= 0 ? ARROW : VARIABLE;
        }

        private void addPair(int one, int other, int join) {
            if (pairs >= ones.length) {
                ones = Arrays.copyOf(ones, 2 * pairs);
                others = Arrays.copyOf(others, 2 * pairs);
                joins = Arrays.copyOf(joins, 2 * pairs);
            }
            put(ones, pairs, one);
            put(others, pairs, other);
            put(joins, pairs, join);
            pairs++;
        }

        /** Makes the next pair fit; answers 0, or the reason for which it does not. */
        private int matchNext() {
            pairs--;
            int left = known(at(ones, pairs));
            int right = known(at(others, pairs));
            if (left == right) {
                return 0;
            }
            if (at(joins, pairs) == 1) {
                put(link, left, right);
                return 0;
            }
            int leftKind = kindOf(left);
            int rightKind = kindOf(right);
            if (leftKind == VARIABLE) {
                return become(left, right);
            }
            if (rightKind == VARIABLE) {
                return become(right, left);
            }
            if (leftKind == ARROW && rightKind == ARROW) {
                // Arrows that fit are joined behind their parts: types that share many
                // parts would be gone through far too often without it.
                addPair(left, right, 1);
                addPair(at(to, left), at(to, right), 0);
                addPair(at(from, left), at(from, right), 0);
                return 0;
            }
            partOne = leftKind;
            partTwo = rightKind;
            return CLASH;
        }

        private int become(int variable, int type) {
            markAll(type, newMark());
            if (at(mark, variable) == latestMark) {
                return CONTAINS_ITSELF;
            }
            put(link, variable, type);
            return 0;
        }

        private int newMark() {
            latestMark++;
            return latestMark;
        }

        /** Marks a type and all types that it has, each looked at once. */
        private void markAll(int type, int value) {
            trailCount = 0;
            addTrail(type);
            for (int step = 0; step < MANY && trailCount > 0; step++) {
                int next = known(takeTrail());
                if (at(mark, next) != value) {
                    put(mark, next, value);
                    if (kindOf(next) == ARROW) {
                        addTrail(at(to, next));
                        addTrail(at(from, next));
                    }
                }
            }
        }

        private void addTrail(int type) {
            if (trailCount >= trail.length) {
                trail = Arrays.copyOf(trail, 2 * trailCount);
            }
            put(trail, trailCount, type);
            trailCount++;
        }

        private int takeTrail() {
            trailCount--;
            return at(trail, trailCount);
        }

        /** The size of a type; it stops at the first one that is too large, as types may be huge. */
        private int sizeOf(int type) {
            int size = 0;
            trailCount = 0;
            addTrail(type);
            while (size <= LARGEST_SIZE && trailCount > 0) {
                int next = known(takeTrail());
                if (kindOf(next) == ARROW) {
                    addTrail(at(to, next));
                    addTrail(at(from, next));
                }
                size++;
            }
            return size;
        }

        /** Spells a type; variables with the mark are left alone. */
        private void spell(int type, Shape shape, int alone) {
            int variables = 0;
            shape.length = 0;
            trailCount = 0;
            addTrail(type);
            for (int size = 0; size < LARGEST_SIZE && trailCount > 0; size++) {
                int next = known(takeTrail());
                int kind = kindOf(next);
                if (kind != VARIABLE) {
                    shape.add(kind);
                } else if (at(mark, next) == alone) {
                    shape.add(ALONE + next);
                } else {
                    int number = numberOf(next, variables);
                    variables = Math.max(variables, number + 1);
                    shape.add(VARIABLE + number);
                }
                if (kind == ARROW) {
                    addTrail(at(to, next));
                    addTrail(at(from, next));
                }
            }
        }

        private int numberOf(int variable, int variables) {
            for (int number = 0; number < variables; number++) {
                if (at(numbered, number) == variable) {
                    return number;
                }
            }
            put(numbered, variables, variable);
            return variables;
        }

        /** Makes the type of a shape, with new variables; from its end, where parts come ahead of arrows. */
        private int make(Shape shape) {
            Arrays.fill(numbered, -1);
            trailCount = 0;
            for (int index = shape.length - 1; index >= 0; index--) {
                int sign = shape.sign(index);
                if (sign == ARROW) {
                    int start = takeTrail();
                    int end = takeTrail();
                    addTrail(add(start, end));
                } else if (sign < VARIABLE) {
                    addTrail(sign);
                } else if (sign >= ALONE) {
                    addTrail(sign - ALONE);
                } else {
                    if (at(numbered, sign - VARIABLE) < 0) {
                        put(numbered, sign - VARIABLE, add(-1, -1));
                    }
                    addTrail(at(numbered, sign - VARIABLE));
                }
            }
            return takeTrail();
        }

        private int ofSign(int sign) {
            if (sign == '?') {
                int same = add(-1, -1);
                return add(TYPE_B, add(same, add(same, same)));
            }
            return add(TYPE_N, add(TYPE_N, sign == '+' ? TYPE_N : TYPE_B));
        }
    }

    /** The nodes that are being gone through, the innermost one last, with how far each is. */
    private static final class Path {
        private final int[] nodes = new int[MOST_NODES];
        private final int[] stages = new int[MOST_NODES];
        private final int[] held = new int[MOST_NODES];
        private int count;

        private void enter(int node) {
            put(nodes, count, node);
            put(stages, count, 0);
            put(held, count, -1);
            count++;
        }

        private int node() {
            return at(nodes, count - 1);
        }

        private int takeStage() {
            int stage = at(stages, count - 1);
            put(stages, count - 1, stage + 1);
            return stage;
        }

        private void hold(int type) {
            put(held, count - 1, type);
        }

        private int holding() {
            return at(held, count - 1);
        }

        private void leave() {
            count--;
        }
    }

    /**
     * Finds types by going through a term. Two types that are to fit are left to the
     * loop that goes through, as the application waits for them on the path.
     */
    private static final class Finder {
        private final Types types = new Types();
        private final Path path = new Path();
        private final int[] found = new int[MOST_NODES];
        private final int[] variableOf = new int[MOST_NODES];
        private final int[] schemeOf = new int[MOST_NODES];
        private final Shape[] schemes = new Shape[MOST_LETS];
        private int schemeCount;
        private boolean isAgain;
        private int result;
        private int gone;
        private int reasonFound;
        private int where;
        private int partOne;
        private int partTwo;

        /**
         * Goes through a term, by the second way if it is told so. Tells whether it has a
         * type, else why not; by the second way whether this takes few enough nodes.
         */
        private boolean goThrough(Term term, State state, boolean isSecondWay) {
            begin(isSecondWay);
            for (int step = 0; step < MANY && isGoing(); step++) {
                if (types.pairs > 0) {
                    int reason = types.matchNext();
                    if (reason != 0) {
                        failFitting(reason);
                    }
                } else {
                    goOn(term, state, path.node());
                }
            }
            for (int node = 0; node < term.count && reasonFound == 0 && !isAgain; node++) {
                if (types.sizeOf(at(found, node)) > LARGEST_SIZE) {
                    fail(TOO_LARGE, node);
                }
            }
            return reasonFound == 0 && gone <= MOST_NODES_AGAIN;
        }

        private void begin(boolean isSecondWay) {
            types.clear();
            schemeCount = 0;
            isAgain = isSecondWay;
            gone = 0;
            reasonFound = 0;
            where = -1;
            partOne = -1;
            partTwo = -1;
            path.count = 0;
            path.enter(0);
        }

        /** The first way goes through each node once, so the bound is one of the second way alone. */
        private boolean isGoing() {
            return path.count > 0 && reasonFound == 0 && gone <= MOST_NODES_AGAIN;
        }

        private void spellWhole(Shape shape) {
            types.spell(result, shape, -1);
        }

        private void spellNode(int node, Shape shape) {
            types.spell(at(found, node), shape, -1);
        }

        /** The size of the type of an application, or -1 if there is none. */
        private int sizeApplied(Shape function, Shape argument) {
            types.clear();
            int answer = types.add(-1, -1);
            int applied = types.make(function);
            types.addPair(applied, types.add(types.make(argument), answer), 0);
            for (int step = 0; step < MANY && types.pairs > 0; step++) {
                if (types.matchNext() != 0) {
                    return -1;
                }
            }
            int size = types.sizeOf(answer);
            return size > LARGEST_SIZE ? -1 : size;
        }

        private void goOn(Term term, State state, int node) {
            int stage = path.takeStage();
            gone += stage == 0 ? 1 : 0;
            int letter = term.of(LETTER, node);
            switch (term.of(KIND, node)) {
                case NAME:
                    goName(term, node, stage);
                    break;
                case KEPT_NAME:
                    goKept(node, state.keptAt(letter - 'A'));
                    break;
                case NUMBER:
                    end(node, TYPE_N);
                    break;
                case SIGN:
                    end(node, types.ofSign(letter));
                    break;
                case FUNCTION:
                    goFunction(term, node, stage);
                    break;
                case LET:
                    goLet(term, node, stage);
                    break;
                default:
                    goApplication(term, node, stage);
                    break;
            }
        }

        private void end(int node, int type) {
            put(found, node, type);
            result = type;
            path.leave();
        }

        private void fail(int reason, int node) {
            reasonFound = reason;
            where = node;
        }

        private void failFitting(int reason) {
            fail(reason, path.node());
            if (reason == CLASH) {
                partOne = types.partOne;
                partTwo = types.partTwo;
            }
        }

        private void goName(Term term, int node, int stage) {
            int binder = term.of(BINDER, node);
            if (binder < 0) {
                fail(NOT_BOUND, node);
            } else if (term.of(KIND, binder) == FUNCTION) {
                end(node, at(variableOf, binder));
            } else if (!isAgain) {
                end(node, types.make(scheme(at(schemeOf, binder))));
            } else if (stage == 0) {
                path.enter(term.of(FIRST, binder));
            } else {
                end(node, result);
            }
        }

        private void goKept(int node, Shape shape) {
            if (shape == null) {
                fail(NOT_BOUND, node);
            } else {
                end(node, types.make(shape));
            }
        }

        private void goFunction(Term term, int node, int stage) {
            if (stage == 0) {
                put(variableOf, node, types.add(-1, -1));
                path.enter(term.of(FIRST, node));
            } else {
                end(node, types.add(at(variableOf, node), result));
            }
        }

        private void goLet(Term term, int node, int stage) {
            if (stage == 0) {
                path.enter(term.of(FIRST, node));
            } else if (stage == 2) {
                end(node, result);
            } else if (isAgain) {
                path.enter(term.of(SECOND, node));
            } else if (types.sizeOf(result) > LARGEST_SIZE) {
                fail(TOO_LARGE, node);
            } else {
                int alone = types.newMark();
                for (int around = term.parentOf(node); around >= 0; around = term.parentOf(around)) {
                    if (term.of(KIND, around) == FUNCTION) {
                        types.markAll(at(variableOf, around), alone);
                    }
                }
                types.spell(result, scheme(schemeCount), alone);
                put(schemeOf, node, schemeCount);
                schemeCount++;
                path.enter(term.of(SECOND, node));
            }
        }

        private void goApplication(Term term, int node, int stage) {
            switch (stage) {
                case 0:
                    path.enter(term.of(FIRST, node));
                    break;
                case 1:
                    path.hold(result);
                    path.enter(term.of(SECOND, node));
                    break;
                case 2:
                    int size = isAgain ? 0 : Math.max(types.sizeOf(path.holding()), types.sizeOf(result));
                    if (size > LARGEST_SIZE) {
                        fail(TOO_LARGE, node);
                    } else {
                        put(found, node, types.add(-1, -1));
                        types.addPair(path.holding(), types.add(result, at(found, node)), 0);
                    }
                    break;
                default:
                    if (!isAgain && types.sizeOf(path.holding()) > LARGEST_SIZE) {
                        fail(TOO_LARGE, node);
                    } else {
                        end(node, at(found, node));
                    }
                    break;
            }
        }

        /** The shape for a let; shapes are used again, as a run asks many questions. */
        private Shape scheme(int index) {
            if (index < 0 || index >= schemes.length) {
                return new Shape(LARGEST_SIZE);
            }
            if (schemes[index] == null) {
                schemes[index] = new Shape(LARGEST_SIZE);
            }
            return schemes[index];
        }
    }

    /** All that goes back when a change is undone. */
    private static final class State {
        private final Term[] terms = new Term[MOST_LESSONS];
        private final Shape[] kept = new Shape[CAPITALS];
        private int count;
        private int given;
        private int everKept;

        private void take(State other) {
            for (int lesson = 0; lesson < terms.length; lesson++) {
                terms[lesson] = other.termAt(lesson);
            }
            for (int capital = 0; capital < kept.length; capital++) {
                kept[capital] = other.keptAt(capital);
            }
            count = other.count;
            given = other.given;
            everKept = other.everKept;
        }

        private Term termAt(int lesson) {
            return lesson >= 0 && lesson < count && lesson < terms.length ? terms[lesson] : null;
        }

        private Shape keptAt(int capital) {
            return capital >= 0 && capital < kept.length ? kept[capital] : null;
        }

        private int give(Term term) {
            int number = count;
            if (number >= 0 && number < terms.length) {
                terms[number] = term;
                count++;
                given++;
            }
            return number;
        }

        private void remove(int lesson) {
            for (int place = Math.max(lesson, 0); place < count && place < terms.length; place++) {
                terms[place] = termAt(place + 1);
            }
            count--;
        }

        private void keepAt(int capital, Shape shape) {
            if (capital >= 0 && capital < kept.length) {
                kept[capital] = shape;
                everKept++;
            }
        }

        private void emptyAt(int capital) {
            if (capital >= 0 && capital < kept.length) {
                kept[capital] = null;
            }
        }

        private int nodesOf(int lesson) {
            Term term = termAt(lesson);
            return term == null ? 0 : term.count;
        }

        private int allNodes() {
            int sum = 0;
            for (int lesson = 0; lesson < count; lesson++) {
                sum += nodesOf(lesson);
            }
            return sum;
        }

        private int capitalsKeeping() {
            int keeping = 0;
            for (int capital = 0; capital < CAPITALS; capital++) {
                if (keptAt(capital) != null) {
                    keeping++;
                }
            }
            return keeping;
        }

        /** How many lessons come ahead of one by their nodes. */
        private int placeOf(int lesson) {
            int ahead = 0;
            for (int other = 0; other < count; other++) {
                if (nodesOf(other) > nodesOf(lesson) || nodesOf(other) == nodesOf(lesson) && other < lesson) {
                    ahead++;
                }
            }
            return ahead;
        }
    }

    /** The states ahead of the latest changes, in a ring. */
    private static final class History {
        private final State[] states = new State[MOST_CHANGES];
        private int next;
        private int count;

        private void push(State state) {
            stateAt(next).take(state);
            next = Math.floorMod(next + 1, MOST_CHANGES);
            count = Math.min(count + 1, MOST_CHANGES);
        }

        private void pop(State state) {
            next = Math.floorMod(next - 1, MOST_CHANGES);
            state.take(stateAt(next));
            count = Math.max(count - 1, 0);
        }

        private void clear() {
            count = 0;
        }

        private State stateAt(int index) {
            if (index < 0 || index >= states.length) {
                return new State();
            }
            if (states[index] == null) {
                states[index] = new State();
            }
            return states[index];
        }
    }
}
