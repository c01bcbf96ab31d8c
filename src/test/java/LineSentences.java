/** The sentences of the promises 25 to 39: the input, texts of orders, lines, accounts, undo and saving. */
final class LineSentences extends Sentences {
    private static final String LARGE = TypeSentences.LARGE;
    private static final String SIZE_199 = TypeSentences.SIZE_199;
    private static final String SIZE_201 = TypeSentences.SIZE_201;

    static void all() {
        append();
        run();
        faultPosition();
        reason();
        tell();
        tellNode();
        tellKept();
        tellTerm();
        character();
        account();
        accountsThatGoBack();
        meanSize();
        typedShare();
        undo();
        save();
        restore();
    }

    private static void append() {
        promise(25);
        says("Appends a character to the input.", () -> {
            TypeTutor t = new TypeTutor();
            type(t, "^x.x");
            is(t.lesson(), 0);
            is(toldTerm(t, 0), "^x.x");
        });
        says("- `character`: the character", () -> {
            for (int code = 33; code <= 126; code++) {
                TypeTutor t = new TypeTutor();
                is(t.append((char) code), 1);
                is(t.account(10), 1);
            }
        });
        says("Returns the number of characters in the input.", () -> {
            TypeTutor t = new TypeTutor();
            for (int k = 1; k <= 60; k++) {
                is(t.append('x'), k);
            }
            t.lesson();
            is(t.append('1'), 1);
        });
        says("Throws `IllegalArgumentException` if its code is not from 33 to 126", () -> {
            for (int code : new int[] {0, 9, 10, 31, 32, 127, 128, 160, 255, 256, 289, 65535}) {
                failsAlone(() -> type(new TypeTutor(), "1"), IAE, t -> t.append((char) code));
            }
            is(type(new TypeTutor(), "1").append((char) 33), 2);
            is(type(new TypeTutor(), "1").append((char) 126), 2);
        });
        says("Throws `IllegalStateException` if the input contains 60 characters", () -> {
            TypeTutor t = type(new TypeTutor(), repeated("1", 59));
            is(t.append('1'), 60);
            fails(ISE, () -> t.append('1'));
            is(t.lesson(), 0);
            is(t.nodes(0), 119);
            type(t, repeated("x0;", 20));
            fails(ISE, () -> t.append('u'));
            fails(IAE, () -> t.run());
            is(t.append('1'), 1);
            failsAlone(() -> type(new TypeTutor(), repeated("1", 60)), ISE, u -> u.append('~'));
        });
    }

    private static void run() {
        promise(26);
        says("Reads the input as a text of orders and does them, one after the other, all or none.", () -> {
            TypeTutor t = with("^x.x", "A", "1");
            // The second lesson has a type by what the first order keeps; numbers are those behind the third one.
            is(run(t, "k0A;k1B;x0;k1C"), 4);
            is(toldKept(t, 1), "a>a");
            is(toldKept(t, 2), "N");
            is(t.account(0), 2);
            is(t.account(11), 4);
            is(t.undo(), 3);
            is(t.account(0), 3);
            is(t.account(6), 0);
            is(t.account(8), 0);
            refusedText(() -> with("^x.x", "A", "1"), "k0A;k1B;x0;k2C", 3, 2, 2);
            refusedText(() -> with("1"), "k0A;k0B;uA;uA", 3, 6, 0);
            refusedText(() -> RuleSentences.allKinds(), "k1B;k1A;x1;x0;uB;uH", 5, 6, 7);
            // None is done: the capital keeps what it kept before.
            TypeTutor u = with("+", "1");
            u.keep(0, 0);
            fails(UOE, () -> run(u, "k1A;x5"));
            is(toldKept(u, 0), "N>N>N");
            fails(UOE, () -> run(u, "uA;x5"));
            is(toldKept(u, 0), "N>N>N");
            is(u.account(8), 1);
            is(u.account(11), 3);
        });
        says("The input is empty afterwards, also if an exception is thrown.", () -> {
            TypeTutor t = with("1");
            run(t, "k0A");
            is(t.account(10), 0);
            fails(UOE, () -> run(t, "uB"));
            is(t.account(10), 0);
            fails(IAE, () -> run(t, "uBA"));
            is(t.account(10), 0);
            fails(IAE, () -> t.run());
            is(t.faultPosition(), 0);
        });
        says("Returns the number of orders.", () -> {
            is(run(with("1"), "k0A"), 1);
            is(run(with("1"), "x0"), 1);
            is(run(with("1"), "k0A;uA;x0"), 3);
            is(run(with("1"), repeated("k0A;", 14) + "k0A"), 15);
            is(run(with("1"), repeated("k0A;uA;", 8) + "k0A"), 17);
        });
        says("Throws `IllegalArgumentException` if the text has a fault", () -> {
            faultyText(() -> with("1"), "", 0);
            faultyText(() -> with("1"), "k0A;", 4);
            faultyText(() -> with("1"), "x0;x", 4);
            faultyText(() -> with("1"), "k0A;uAx", 6);
            faultyText(() -> RuleSentences.allKinds(), "x6;uI", 4);
        });
        says("Throws `UnsupportedOperationException` if an order is refused, for the reasons for which its method is; the reason 9 is "
            + "kept", () -> {
                refusedText(() -> RuleSentences.allKinds(), "k6A", 0, 2, 6);
                refusedText(() -> RuleSentences.allKinds(), "k9H", 0, 2, 9);
                refusedText(() -> RuleSentences.allKinds(), "k2A", 0, 3, 0);
                refusedText(() -> RuleSentences.allKinds(), "k3A", 0, 4, 0);
                refusedText(() -> RuleSentences.allKinds(), "k0A;k4A", 1, 5, 1);
                refusedText(() -> RuleSentences.allKinds(), "k5A", 0, 10, 0);
                refusedText(() -> with(RuleSentences.SIZE_25), "k0A", 0, 7, 25);
                is(run(with(RuleSentences.SIZE_23), "k0A"), 1);
                refusedText(() -> RuleSentences.allKinds(), "uB", 0, 6, 1);
                refusedText(() -> RuleSentences.allKinds(), "uA;uA", 1, 6, 0);
                refusedText(() -> RuleSentences.allKinds(), "x6", 0, 2, 6);
                refusedText(() -> RuleSentences.allKinds(), "x0;x0;x0;x0;x0;x0;x0", 6, 2, 0);
            });
    }

    private static void faultPosition() {
        promise(27);
        says("Returns the fault position of the latest term or text that was read.", () -> {
            TypeTutor t = new TypeTutor();
            fails(IAE, () -> give(t, "^"));
            is(t.faultPosition(), 1);
            fails(IAE, () -> t.lesson());
            is(t.faultPosition(), 0);
            fails(IAE, () -> give(t, repeated("(", 60)));
            is(t.faultPosition(), 60);
            fails(IAE, () -> run(t, "k0"));
            is(t.faultPosition(), 2);
        });
        says("Returns the fault position, or -1 if it had no fault or nothing was read.", () -> {
            TypeTutor t = new TypeTutor();
            is(t.faultPosition(), -1);
            type(t, "xx)");
            is(t.faultPosition(), -1);
            fails(IAE, () -> t.lesson());
            is(t.faultPosition(), 2);
            for (int k = 0; k < 6; k++) {
                give(t, "1");
            }
            is(t.faultPosition(), -1);
            fails(IAE, () -> give(t, ")"));
            fails(UOE, () -> give(t, "1"));
            is(t.faultPosition(), -1);
            fails(IAE, () -> run(t, "x"));
            fails(UOE, () -> run(t, "x9"));
            is(t.faultPosition(), -1);
            fails(IAE, () -> run(t, "x"));
            is(run(t, "x0"), 1);
            is(t.faultPosition(), -1);
        });
    }

    private static void reason() {
        promise(28);
        says("Returns a number of the reason that is kept, or of what is behind it.", () -> {
            TypeTutor t = with("1");
            fails(UOE, () -> t.drop(GREATEST));
            is(t.reason(0, false), 2);
            is(t.reason(0, true), GREATEST);
            fails(UOE, () -> t.keep(0, LEAST));
            is(t.reason(0, false), 8);
            is(t.reason(0, true), LEAST);
        });
        says("- `depth`: 0 for the reason, 1 for its cause", () -> {
            TypeTutor t = with("1");
            fails(UOE, () -> run(t, "k0A;k0B;uH"));
            is(t.reason(0, false), 9);
            is(t.reason(0, true), 2);
            is(t.reason(1, false), 6);
            is(t.reason(1, true), 7);
        });
        says("- `isDetail`: true for the detail, false for the number of the reason", () -> {
            TypeTutor t = new TypeTutor();
            fails(UOE, () -> t.unkeep(3));
            is(t.reason(0, false), 6);
            is(t.reason(0, true), 3);
        });
        says("Returns the number.", () -> {
            TypeTutor t = with("1", "2", "3", "4", "5", "6");
            fails(UOE, () -> give(t, "7"));
            is(t.reason(0, false), 1);
            is(t.reason(0, true), 6);
        });
        says("Throws `IllegalArgumentException` if the depth is not 0 or 1", () -> {
            for (int depth : outside(0, 1)) {
                for (boolean isDetail : new boolean[] {false, true}) {
                    failsAlone(() -> new TypeTutor(), IAE, t -> t.reason(depth, isDetail));
                    failsAlone(() -> refused("x4"), IAE, t -> t.reason(depth, isDetail));
                }
            }
        });
        says("Throws `NoSuchElementException` if nothing was refused, or there is no cause", () -> {
            for (boolean isDetail : new boolean[] {false, true}) {
                failsAlone(() -> RuleSentences.allKinds(), NSE, t -> t.reason(0, isDetail));
                failsAlone(() -> RuleSentences.allKinds(), NSE, t -> t.reason(1, isDetail));
                failsAlone(() -> new TypeTutor(), NSE, t -> t.reason(1, isDetail));
                // A fault is not refused.
                failsAlone(() -> faulty(), NSE, t -> t.reason(0, isDetail));
                failsAlone(() -> refusedAlone(), NSE, t -> t.reason(1, isDetail));
            }
            is(refused("x4").reason(1, false), 2);
        });
    }

    private static TypeTutor refused(String orders) {
        TypeTutor t = with("1");
        fails(UOE, () -> run(t, orders));
        return t;
    }

    /** The cause of a text is gone, as a call is refused behind it. */
    private static TypeTutor refusedAlone() {
        TypeTutor t = refused("x4");
        fails(UOE, () -> t.drop(4));
        return t;
    }

    private static TypeTutor faulty() {
        TypeTutor t = with("1");
        fails(IAE, () -> run(t, "x"));
        fails(IAE, () -> give(t, ")"));
        return t;
    }

    private static void tell() {
        promise(29);
        free("- `lesson`: the lesson");
        says("Writes the type of a lesson as a line of text, in place of the line before: N, B, the names of variables, and \">\" for "
            + "an arrow, with \"(\" and \")\" around what it is from if this is an arrow; as in \"(a>N)>a>B\".", () -> {
                is(typed("^f.^x.<(fx)1"), "(a>N)>a>B");
                is(typed("1"), "N");
                is(typed("<12"), "B");
                is(typed("^x.x"), "a>a");
                is(typed("^x.^y.^z.z"), "a>b>c>c");
                is(typed("^f.f1"), "(N>a)>a");
                is(typed("^f.f(^x.x)"), "((a>a)>b)>b");
                is(typed("^f.^g.f(^x.gx)"), "((a>b)>c)>(a>b)>c");
                is(typed("^f.+(f1(^x.2))"), "(N>(a>N)>N)>N>N");
                is(typed("^f.^g.?(f1)g(^x.f)"), "(N>B)>(a>N>B)>a>N>B");
                TypeTutor t = with("^x.x", "1");
                t.tell(0);
                t.tell(1);
                is(line(t), "N");
                t.tell(0);
                is(line(t), "a>a");
            });
        says("Returns the length of the line.", () -> {
            is(with("1").tell(0), 1);
            is(with("^x.x").tell(0), 3);
            is(with("^f.^x.<(fx)1").tell(0), 9);
            TypeTutor t = with("!a=^x.^x.^x.^x.1;^z.zaaaaaaa");
            is(t.tell(0), 93);
            is(t.character(92), '1');
            fails(IOB, () -> t.character(93));
        });
        says("Throws `IndexOutOfBoundsException` if there is no such lesson",
            () -> PromiseSentences.noLesson((t, lesson) -> t.tell(lesson)));
        says("Throws `IllegalStateException` if it has no type", () -> {
            for (int k = 2; k < 6; k++) {
                int lesson = k;
                failsAlone(() -> RuleSentences.allKinds(), ISE, t -> t.tell(lesson));
            }
        });
    }

    private static void tellNode() {
        promise(30);
        free("- `lesson`: the lesson");
        free("- `node`: the node");
        says("Writes the type of a node likewise, in place of the line before.", () -> {
            TypeTutor t = with("^f.^x.f(fx)", "?(<12)34", "!i=^x.x;i(i1)", "^x.^y.y");
            is(toldNode(t, 0, 0), "(a>a)>a>a");
            is(toldNode(t, 0, 1), "a>a");
            is(toldNode(t, 0, 6), "a");
            is(toldNode(t, 1, 3), "B>N>N>N");
            is(toldNode(t, 1, 1), "N>N");
            is(toldNode(t, 2, 1), "a>a");
            is(toldNode(t, 2, 4), "N>N");
            is(toldNode(t, 2, 7), "N");
            is(toldNode(t, 3, 1), "a>a");
        });
        says("Returns the length of the line.", () -> {
            is(with("^x.x").tellNode(0, 1), 1);
            is(with("^x.x").tellNode(0, 0), 3);
        });
        says("Throws `IndexOutOfBoundsException` if there is no such lesson or node", () -> {
            PromiseSentences.noLesson((t, lesson) -> t.tellNode(lesson, 0));
            PromiseSentences.noNode((t, node) -> t.tellNode(1, node));
            failsAlone(() -> with("11"), IOB, t -> t.tellNode(0, 3));
            is(with("1", "^x.^y.xy").tellNode(1, 4), 1);
        });
        says("Throws `IllegalStateException` if it has no type", () -> {
            for (int k = 2; k < 6; k++) {
                int lesson = k;
                failsAlone(() -> RuleSentences.allKinds(), ISE, t -> t.tellNode(lesson, 0));
            }
            // The node itself would have one.
            failsAlone(() -> with("11"), ISE, t -> t.tellNode(0, 1));
        });
    }

    private static void tellKept() {
        promise(31);
        says("Writes the type kept under a capital likewise, in place of the line before.", () -> {
            TypeTutor t = with("^f.^x.f(fx)", "1");
            t.keep(0, 2);
            t.keep(1, 3);
            t.drop(0);
            is(toldKept(t, 2), "(a>a)>a>a");
            is(toldKept(t, 3), "N");
            t.keep(0, 2);
            is(toldKept(t, 2), "N");
        });
        says("- `capital`: the number of the capital, 0 for A", () -> {
            TypeTutor t = with("1", "<12");
            run(t, "k0A;k1H");
            is(toldKept(t, 0), "N");
            is(toldKept(t, 7), "B");
        });
        says("Returns the length of the line.", () -> {
            TypeTutor t = with("1", RuleSentences.SIZE_23);
            run(t, "k0A;k1B");
            is(t.tellKept(0), 1);
            is(t.tellKept(1), 23);
        });
        says("Throws `IndexOutOfBoundsException` if the number is not 0 to 7", () -> {
            for (int capital : outside(0, 7)) {
                failsAlone(() -> RuleSentences.allKinds(), IOB, t -> t.tellKept(capital));
            }
        });
        says("Throws `NoSuchElementException` if it keeps nothing", () -> {
            for (int k = 1; k < 8; k++) {
                int capital = k;
                failsAlone(() -> RuleSentences.allKinds(), NSE, t -> t.tellKept(capital));
            }
            failsAlone(() -> new TypeTutor(), NSE, t -> t.tellKept(0));
        });
    }

    private static void spelled(String term, String due) {
        is(toldTerm(with(term), 0), due);
    }

    private static void tellTerm() {
        promise(32);
        free("- `lesson`: the lesson");
        says("Writes the term of a lesson as a line of text, in place of the line before, with \"(\" and \")\" around each function, "
            + "let and application that is within another node, and nowhere else.", () -> {
                for (int k = 0; k < LEAVES.length(); k++) {
                    spelled("((" + LEAVES.charAt(k) + "))", "" + LEAVES.charAt(k));
                }
                spelled("(^x.x)", "^x.x");
                spelled("(!a=1;a)", "!a=1;a");
                spelled("(xy)", "xy");
                spelled("xyz", "(xy)z");
                spelled("x(yz)", "x(yz)");
                spelled("^x.xy", "^x.(xy)");
                spelled("^x.^y.x", "^x.(^y.x)");
                spelled("^x.!y=x;y", "^x.(!y=x;y)");
                spelled("!a=(^x.x);!b=(aa);b1", "!a=(^x.x);(!b=(aa);(b1))");
                spelled("(!a=1;a)((^x.x))((2))", "((!a=1;a)(^x.x))2");
                spelled("!a=!b=1;b;a", "!a=(!b=1;b);a");
                spelled("x(^y.y)(!z=1;z)(xx)", "((x(^y.y))(!z=1;z))(xx)");
                spelled("A+1", "(A+)1");
                TypeTutor t = with("^x.x", "1");
                t.tellTerm(0);
                t.tellTerm(1);
                is(line(t), "1");
                t.tell(0);
                is(line(t), "a>a");
                t.tellTerm(0);
                is(line(t), "^x.x");
            });
        says("Returns the length of the line.", () -> {
            is(with("1").tellTerm(0), 1);
            is(with("(((1)))").tellTerm(0), 1);
            is(with(repeated("x", 60)).tellTerm(0), 176);
            spelled(repeated("x", 60), repeated("(", 58) + "xx" + repeated(")x", 58));
            spelled(repeated("^x.", 19) + "x", repeated("^x.(", 18) + "^x.x" + repeated(")", 18));
            spelled(repeated("!a=1;", 11) + "a", repeated("!a=1;(", 10) + "!a=1;a" + repeated(")", 10));
            spelled(repeated("!a=", 11) + "1" + repeated(";a", 11), repeated("!a=(", 10) + "!a=1;a" + repeated(");a", 10));
        });
        says("Throws `IndexOutOfBoundsException` if there is no such lesson",
            () -> PromiseSentences.noLesson((t, lesson) -> t.tellTerm(lesson)));
    }

    private static void character() {
        promise(33);
        says("Returns a character of the line, which is empty at first.", () -> {
            failsAlone(() -> new TypeTutor(), IOB, t -> t.character(0));
            failsAlone(() -> with("^x.x"), IOB, t -> t.character(0));
            TypeTutor t = with("^x.x", "1");
            t.tell(0);
            is(t.character(0), 'a');
            is(t.character(1), '>');
            is(t.character(2), 'a');
            t.tell(1);
            is(t.character(0), 'N');
            fails(IOB, () -> t.character(1));
        });
        says("- `index`: the index, from 0", () -> {
            TypeTutor t = with(repeated("x", 60));
            t.tellTerm(0);
            is(t.character(0), '(');
            is(t.character(57), '(');
            is(t.character(58), 'x');
            is(t.character(175), 'x');
            fails(IOB, () -> t.character(176));
        });
        says("Returns the character.", () -> {
            TypeTutor t = with("<12");
            t.tell(0);
            is(t.character(0), 'B');
        });
        says("Throws `IndexOutOfBoundsException` if there is no such index", () -> {
            for (int index : outside(0, 2)) {
                failsAlone(() -> RuleSentences.allKinds(), IOB, t -> t.character(index));
            }
        });
    }

    /** Accounts of a tutor, each written with its number. */
    private static void accounts(TypeTutor t, int... due) {
        for (int what = 0; what <= 12; what++) {
            is(what + ": " + t.account(what), what + ": " + due[what]);
        }
    }

    private static void account() {
        promise(34);
        says("Returns an account.", () -> {
            accounts(new TypeTutor(), 0, 0, 0, 0, 0, 0, 0, 0, 0, 0, 0, 0, 0);
            TypeTutor t = with("^x.x", "y", "11", "^x.xx", LARGE + "^z.zdd1111111", "+1");
            run(t, "k0A;k5A;k5D");
            type(t, "abc");
            accounts(t, 6, 2, 1, 1, 1, 56, 2, 6, 3, 1, 3, 7, 1);
        });
        says("- `what`: 0 the lessons; 1 those that have a type; 2 to 4 those that have none for the reasons 3 to 5;", () -> {
            String[] terms = {"1", "y", "11", "^x.xx"};
            for (int kind = 0; kind <= 3; kind++) {
                TypeTutor t = new TypeTutor();
                for (int k = 1; k <= 6; k++) {
                    give(t, terms[kind]);
                    is(t.account(0), k);
                    for (int what = 1; what <= 4; what++) {
                        is(t.account(what), what == kind + 1 ? k : 0);
                    }
                    is(t.account(12), 0);
                }
            }
            TypeTutor t = with("A", "H");
            is(t.account(2), 2);
        });
        says("5 the nodes of all lessons;", () -> {
            TypeTutor t = new TypeTutor();
            for (int k = 1; k <= 6; k++) {
                give(t, repeated("x", 60));
                is(t.account(5), 119 * k);
            }
            t.drop(0);
            is(t.account(5), 595);
        });
        says("6 the capitals that keep a type;", () -> {
            TypeTutor t = with("1");
            for (int k = 0; k < 8; k++) {
                t.keep(0, k);
                t.keep(0, k);
                is(t.account(6), k + 1);
            }
            t.unkeep(0);
            is(t.account(6), 7);
        });
        says("7 the lessons given so far;", () -> {
            TypeTutor t = new TypeTutor();
            for (int k = 1; k <= 20; k++) {
                give(t, "1");
                is(t.account(7), k);
                t.drop(0);
                is(t.account(7), k);
            }
            fails(IAE, () -> give(t, ")"));
            is(t.account(7), 20);
            TypeTutor full = with("1", "2", "3", "4", "5", "6");
            fails(UOE, () -> give(full, "7"));
            is(full.account(7), 6);
        });
        says("8 the types kept so far;", () -> {
            TypeTutor t = with("1", "11");
            for (int k = 1; k <= 20; k++) {
                t.keep(0, k % 8);
                is(t.account(8), k);
            }
            t.unkeep(0);
            is(t.account(8), 20);
            fails(UOE, () -> t.keep(1, 0));
            fails(UOE, () -> run(t, "k0A;k1A"));
            is(t.account(8), 20);
            run(t, "k0A;k0A;uA");
            is(t.account(8), 22);
        });
    }

    private static void accountsThatGoBack() {
        says("9 the lessons whose type is without variables;", () -> {
            is(with("1", "+", "^x.x", "^x.1", "<12", "<").account(9), 4);
            is(with("1", "2", "3", "4", "5", "6").account(9), 6);
            is(with("^x.x", "y", "11", "^x.xx").account(9), 0);
            is(with("^x.+1x").account(9), 1);
            // It is not the second way that tells it.
            is(with("!a=^x.x;!b=aa;!c=bb;!d=cc;!e=dd;edd1").account(9), 1);
        });
        says("10 the characters in the input;", () -> {
            TypeTutor t = new TypeTutor();
            for (int k = 0; k <= 60; k++) {
                is(t.account(10), k);
                if (k < 60) {
                    t.append('1');
                }
            }
            t.lesson();
            is(t.account(10), 0);
        });
        says("11 the changes that can be undone;", () -> {
            TypeTutor t = with("1");
            for (int k = 1; k <= 12; k++) {
                is(t.account(11), Math.min(k, 8));
                t.keep(0, 0);
            }
            t.undo();
            is(t.account(11), 7);
            t.save();
            is(t.account(11), 7);
            t.restore();
            is(t.account(11), 0);
        });
        says("12 the lessons that have no type for the reason 10", () -> {
            TypeTutor t = new TypeTutor();
            for (int k = 1; k <= 6; k++) {
                give(t, LARGE + (k == 1 ? SIZE_201 : k == 2 ? "1(" + SIZE_201 + ")" : "!f=" + SIZE_201 + ";1"));
                is(t.account(12), k);
            }
            is(t.account(1), 0);
            is(t.account(3), 0);
            is(with(LARGE + SIZE_199).account(12), 0);
        });
        says("Returns the number.", () -> is(with("1", "2").account(0), 2));
        says("Throws `IllegalArgumentException` if what is not 0 to 12", () -> {
            for (int what : outside(0, 12)) {
                failsAlone(() -> RuleSentences.allKinds(), IAE, t -> t.account(what));
            }
        });
    }

    private static void meanSize() {
        promise(35);
        says("Returns the mean size of the types of lessons that have one: the sum, converted to double, divided by their number.", () -> {
            is(with("1").meanSize(), 1.0);
            is(with("1", "^x.x").meanSize(), 2.0);
            is(with("1", "2", "^x.x").meanSize(), 5.0 / 3);
            is(with("^x.xx", "1", "y", "+", "11").meanSize(), 3.0);
            is(with("1", "2", "3", "4", "5", "+1").meanSize(), 8.0 / 6);
            is(with("1", "2", LARGE + SIZE_199, LARGE + SIZE_201).meanSize(), 67.0);
        });
        says("Returns the mean.", () -> is(with("1", "2", "3", "+").meanSize(), 2.0));
        says("Throws `ArithmeticException` if there are none", () -> {
            failsAlone(() -> new TypeTutor(), AE, t -> t.meanSize());
            failsAlone(() -> with("y", "11", "^x.xx", LARGE + SIZE_201), AE, t -> t.meanSize());
        });
    }

    private static void typedShare() {
        promise(36);
        says("Returns the share of the lessons that have a type: the one number, converted to float, divided by the other.", () -> {
            is(with("1").typedShare(), 1.0f);
            is(with("11").typedShare(), 0.0f);
            is(with("1", "11").typedShare(), 0.5f);
            is(with("1", "2", "11").typedShare(), 2.0f / 3);
            is(with(RuleSentences.ALL_KINDS).typedShare(), 2.0f / 6);
            is(with("1", "2", "3", "4", "5", "y").typedShare(), 5.0f / 6);
        });
        says("Returns the share.", () -> is(with("1", "2", "3", "4", "5", "6").typedShare(), 1.0f));
        says("Throws `ArithmeticException` if there are none", () -> {
            failsAlone(() -> new TypeTutor(), AE, t -> t.typedShare());
            TypeTutor t = with("1");
            t.drop(0);
            fails(AE, () -> t.typedShare());
            is(with("y").typedShare(), 0.0f);
        });
    }

    private static void undo() {
        promise(37);
        says("Undoes the latest change that was not undone.", () -> {
            TypeTutor t = with("1", "^x.x");
            t.keep(1, 0);
            t.keep(0, 0);
            t.unkeep(0);
            t.drop(0);
            run(t, "k0H;x0");
            t.undo();
            is(t.account(0), 1);
            is(t.isKept(7), false);
            t.undo();
            is(t.account(0), 2);
            is(t.nodes(0), 1);
            t.undo();
            is(toldKept(t, 0), "N");
            t.undo();
            is(toldKept(t, 0), "a>a");
            is(t.account(8), 1);
            // A change behind undone ones takes their place.
            t.keep(0, 5);
            t.undo();
            is(t.isKept(5), false);
            is(toldKept(t, 0), "a>a");
            t.undo();
            is(t.isKept(0), false);
            is(t.account(8), 0);
            t.undo();
            is(t.account(0), 1);
            is(t.account(7), 1);
            t.undo();
            is(t.account(0), 0);
            is(t.account(7), 0);
        });
        says("Returns the number of changes that can still be undone.", () -> {
            TypeTutor t = with("1");
            is(t.undo(), 0);
            give(t, "1");
            for (int k = 0; k < 7; k++) {
                t.keep(0, 0);
            }
            for (int k = 7; k >= 0; k--) {
                is(t.undo(), k);
            }
            TypeTutor more = with("1");
            for (int k = 0; k < 8; k++) {
                more.keep(0, 0);
            }
            for (int k = 7; k >= 0; k--) {
                is(more.undo(), k);
            }
            is(more.account(0), 1);
        });
        says("Throws `IllegalStateException` if there is none", () -> {
            failsAlone(() -> new TypeTutor(), ISE, t -> t.undo());
            failsAlone(() -> refusedFirst(), ISE, t -> t.undo());
            TypeTutor t = with("1");
            for (int k = 0; k < 8; k++) {
                t.keep(0, 0);
            }
            for (int k = 0; k < 8; k++) {
                t.undo();
            }
            fails(ISE, () -> t.undo());
            is(t.account(0), 1);
            is(t.isKept(0), false);
        });
    }

    /** Nothing but refused calls. */
    private static TypeTutor refusedFirst() {
        TypeTutor t = new TypeTutor();
        fails(UOE, () -> t.drop(0));
        fails(UOE, () -> run(t, "uA"));
        fails(IAE, () -> give(t, ")"));
        return t;
    }

    private static void save() {
        promise(38);
        says("Saves all that goes back when a change is undone, in place of what was saved before.", () -> {
            TypeTutor t = with("^x.x", "1");
            t.keep(0, 1);
            t.save();
            t.drop(0);
            t.unkeep(1);
            t.keep(0, 2);
            is(t.restore(), 2);
            is(told(t, 0), "a>a");
            is(toldKept(t, 1), "a>a");
            is(t.isKept(2), false);
            is(t.account(7), 2);
            is(t.account(8), 1);
            t.drop(1);
            t.save();
            t.drop(0);
            is(t.restore(), 1);
            is(told(t, 0), "a>a");
            // What was saved first is gone, and saving is no change.
            is(t.restore(), 1);
            is(t.account(11), 0);
            TypeTutor u = with("1");
            u.save();
            is(u.account(11), 1);
            is(u.undo(), 0);
            is(u.restore(), 1);
        });
        says("Returns the number of lessons.", () -> {
            TypeTutor t = new TypeTutor();
            is(t.save(), 0);
            for (int k = 1; k <= 6; k++) {
                give(t, "1");
                is(t.save(), k);
            }
        });
    }

    private static void restore() {
        promise(39);
        says("Restores what was saved, which stays saved.", () -> {
            TypeTutor t = with("^x.x");
            t.keep(0, 7);
            t.save();
            for (int k = 0; k < 3; k++) {
                t.drop(0);
                t.unkeep(7);
                give(t, "1");
                give(t, "A");
                t.keep(0, 0);
                is(t.restore(), 1);
                is(told(t, 0), "a>a");
                is(toldKept(t, 7), "a>a");
                is(t.isKept(0), false);
                is(t.account(7), 1);
                is(t.account(8), 1);
            }
            TypeTutor empty = new TypeTutor();
            empty.save();
            give(empty, "1");
            empty.keep(0, 0);
            is(empty.restore(), 0);
            is(empty.account(6), 0);
            is(empty.account(7), 0);
            // The input, the fault position, the reason and the line stay.
            TypeTutor u = with("^x.x");
            u.save();
            u.tell(0);
            fails(UOE, () -> run(u, "x3"));
            fails(IAE, () -> give(u, "x)"));
            type(u, "12");
            u.restore();
            is(line(u), "a>a");
            is(u.reason(1, true), 3);
            is(u.faultPosition(), 1);
            is(u.account(10), 2);
        });
        says("No changes can be undone then.", () -> {
            TypeTutor t = with("1");
            t.keep(0, 0);
            t.save();
            t.restore();
            is(t.account(11), 0);
            fails(ISE, () -> t.undo());
            t.drop(0);
            is(t.account(11), 1);
            is(t.undo(), 0);
            is(t.account(0), 1);
            is(t.isKept(0), true);
            fails(ISE, () -> t.undo());
        });
        says("Returns the number of lessons.", () -> {
            TypeTutor t = with("1", "2", "3", "4", "5", "6");
            t.save();
            t.drop(0);
            is(t.restore(), 6);
            TypeTutor none = new TypeTutor();
            none.save();
            is(none.restore(), 0);
        });
        says("Throws `IllegalStateException` if nothing was saved", () -> {
            failsAlone(() -> new TypeTutor(), ISE, t -> t.restore());
            failsAlone(() -> RuleSentences.allKinds(), ISE, t -> t.restore());
        });
    }
}
