/** The sentences of the general sections about the forms of terms and of texts, and about nodes. */
final class FormSentences extends Sentences {
    private static final String ALL_SIGNS = allSigns();

    /** Every character that can be appended. */
    private static String allSigns() {
        StringBuilder text = new StringBuilder();
        for (char sign = 33; sign <= 126; sign++) {
            text.append(sign);
        }
        return text.toString();
    }

    /** Behind the start of a term exactly these signs can stand. */
    static void goesOn(String start, String signs) {
        StringBuilder got = new StringBuilder();
        StringBuilder due = new StringBuilder();
        for (int k = 0; k < ALL_SIGNS.length(); k++) {
            char sign = ALL_SIGNS.charAt(k);
            int fault = faultOf(start + sign);
            is(fault == -1 || fault == start.length() || fault == start.length() + 1, true);
            got.append(fault == start.length() ? "" : "" + sign);
            due.append(signs.indexOf(sign) < 0 ? "" : "" + sign);
        }
        is(start + " then " + got, start + " then " + due);
    }

    /** Behind the start of a text of orders exactly these signs can stand. */
    static void textGoesOn(String start, String signs) {
        StringBuilder got = new StringBuilder();
        StringBuilder due = new StringBuilder();
        for (int k = 0; k < ALL_SIGNS.length(); k++) {
            char sign = ALL_SIGNS.charAt(k);
            int fault = faultOfText(start + sign);
            is(fault == -1 || fault == start.length() || fault == start.length() + 1, true);
            got.append(fault == start.length() ? "" : "" + sign);
            due.append(signs.indexOf(sign) < 0 ? "" : "" + sign);
        }
        is(start + " then " + got, start + " then " + due);
    }

    /** All that nodeOf tells of a node of the first lesson, from its kind to its first character. */
    static void node(TypeTutor t, int node, int... due) {
        for (int what = 0; what <= 5; what++) {
            is(node + " " + what + ": " + t.nodeOf(0, node, what), node + " " + what + ": " + due[what]);
        }
    }

    /** The kinds and signs of all nodes of a term, in their order; an application has none. */
    static String nodes(String term) {
        TypeTutor t = with(term);
        StringBuilder text = new StringBuilder();
        for (int node = 0; node < t.nodes(0); node++) {
            int kind = t.nodeOf(0, node, 0);
            text.append(node > 0 ? " " : "").append(kind).append(kind == 6 ? "" : "" + t.signOf(0, node));
        }
        return text.toString();
    }

    static void all() {
        whatItIs();
        terms();
        faultsOfTerms();
        nodes();
        texts();
    }

    private static void whatItIs() {
        section("What it is");
        free("A tutor of types for small functions: terms read letter by letter with faults by place, their nodes, names and "
            + "where they are bound, types that are found going through a term, types that are made to fit, bindings that are "
            + "used with unlike types, clashes told by node with what clashed, types told in two ways, lessons whose types are "
            + "kept under a capital letter, types that are more general than others, lessons that fit one another, orders told "
            + "in texts, reasons with causes for what is refused, lines of text, accounts, undo, and saving.");
        says("An object is used for at most 512 calls after it has been made; what later calls answer is free.", () -> {
            TypeTutor kept = with("1");
            for (int calls = 2; calls < 510; calls++) {
                is(kept.keep(0, calls % 8), 0);
            }
            is(kept.account(8), 508);
            is(kept.undo(), 7);
            TypeTutor refused = new TypeTutor();
            for (int calls = 0; calls < 511; calls++) {
                int lesson = calls;
                fails(UOE, () -> refused.drop(lesson));
            }
            is(refused.reason(0, true), 510);
            TypeTutor read = new TypeTutor();
            for (int calls = 0; calls + 61 < 512; calls += 61) {
                type(read, repeated("(", 60));
                fails(IAE, () -> read.lesson());
            }
            is(read.faultPosition(), 60);
        });
    }

    private static void terms() {
        section("Terms");
        free("The class is not thread-safe.");
        says("All divisions are rounded down, unless something else is told.", () -> {
            // For both divisions of the document something else is told.
            is(with("1", "2", "<1").meanSize(), 5.0 / 3);
            is(with("1", "2", "11").typedShare(), 2.0f / 3);
        });
        says("Terms. The form of a term is term = \"^\" letter \".\" term | \"!\" letter \"=\" term \";\" term | part { part }", () -> {
            for (String start : new String[] {"", "^x.", "!x=", "!x=1;", "(", "^x.^y.", "1(", "!x=!y=", "!x=1;("}) {
                goesOn(start, "^!(" + LEAVES);
            }
            for (String start : new String[] {"^", "!", "(^", "^x.!", "!x=^"}) {
                goesOn(start, LETTERS);
            }
            goesOn("^x", ".");
            goesOn("!x", "=");
            goesOn("x", "(" + LEAVES);
            goesOn("^x.x", "(" + LEAVES);
            goesOn("!x=x", ";(" + LEAVES);
            goesOn("!x=!y=1", ";(" + LEAVES);
            goesOn("!x=!y=1;1", ";(" + LEAVES);
            goesOn("!x=!y=1;1;1", "(" + LEAVES);
            goesOn("!x=1;1", "(" + LEAVES);
            goesOn("!x=^y.1", ";(" + LEAVES);
        });
        says("part = letter | capital | digit | \"+\" | \"<\" | \"?\" | \"(\" term \")\"", () -> {
            for (int k = 0; k < LEAVES.length(); k++) {
                String sign = "" + LEAVES.charAt(k);
                is(with(sign).nodes(0), 1);
                is(with("(" + sign + ")").nodes(0), 1);
            }
            goesOn("(1", "()" + LEAVES);
            goesOn("((1)", "()" + LEAVES);
            goesOn("(1)", "(" + LEAVES);
            goesOn("(^x.1", "()" + LEAVES);
            goesOn("(!x=1;1", "()" + LEAVES);
            goesOn("(!x=1", ";(" + LEAVES);
            goesOn("!x=(1", "()" + LEAVES);
            goesOn("!x=(1)", ";(" + LEAVES);
        });
        says("where braces mean zero or more repetitions, and a bar one of several;", () -> {
            is(faultOf(""), 0);
            is(faultOf("()"), 1);
            is(faultOf("!x=;1"), 3);
            is(nodes("1"), "21");
            is(nodes("11"), "6 21 21");
            is(with(repeated("1", 60)).nodes(0), 119);
        });
        says("a letter is one from a to z, a capital one from A to H.", () -> {
            for (int k = 0; k < LETTERS.length(); k++) {
                char letter = LETTERS.charAt(k);
                is(nodes("^" + letter + "." + letter), "4" + letter + " 0" + letter);
                is(nodes("!" + letter + "=1;" + letter), "5" + letter + " 21 0" + letter);
            }
            for (int k = 0; k < CAPITALS.length(); k++) {
                is(nodes("" + CAPITALS.charAt(k)), "1" + CAPITALS.charAt(k));
            }
            for (String sign : new String[] {"I", "Z", "@", "`", "{", "/", ":"}) {
                is(faultOf(sign), 0);
            }
            for (String sign : new String[] {"A", "Z", "`", "{", "0"}) {
                is(faultOf("^" + sign + ".1"), 1);
                is(faultOf("!" + sign + "=1;1"), 1);
            }
        });
        says("The first form is a function, of the name that is the letter, with the term as its body; the second one a let, which "
            + "binds the letter to the first term, in the body that is the second one; of several parts the first one is applied "
            + "to the second one, the result to the third one, and so on.", () -> {
                is(nodes("^x.1"), "4x 21");
                is(nodes("^x.11"), "4x 6 21 21");
                is(nodes("!x=1;2"), "5x 21 22");
                is(nodes("!x=12;34"), "5x 6 21 22 6 23 24");
                is(nodes("123"), "6 6 21 22 23");
                is(nodes("1234"), "6 6 6 21 22 23 24");
                is(nodes("1(23)4"), "6 6 21 6 22 23 24");
                is(with("!x=1;x").binder(0, 2), 0);
                is(with("^x.^x.x").binder(0, 2), 1);
            });
    }

    private static void faultsOfTerms() {
        says("The fault position of a term is the index of the first character that cannot continue such a term,", () -> {
            is(faultOf(")"), 0);
            is(faultOf(")("), 0);
            is(faultOf("x)))"), 1);
            is(faultOf("x;;"), 1);
            is(faultOf("f^x.x"), 1);
            is(faultOf("f!x=1;x"), 1);
            is(faultOf("!a=(1;1"), 5);
            is(faultOf("(!a=1)"), 5);
            is(faultOf("!a=1;1;1"), 6);
            is(faultOf("(1))"), 3);
            is(faultOf(repeated("x", 59) + ";"), 59);
            is(faultOf(repeated("(", 30) + repeated("1", 29) + ";"), 59);
            is(faultOf("(" + repeated("1", 57) + "))"), 59);
        });
        says("or its length if it ends too early.", () -> {
            String term = "(^x.!y=(x);y)1";
            for (int length = 0; length < term.length(); length++) {
                is(faultOf(term.substring(0, length)), length == 13 ? -1 : length);
            }
            is(faultOf(term), -1);
            is(faultOf(repeated("(", 60)), 60);
            is(faultOf(repeated("^x.", 20)), 60);
            is(faultOf(repeated("!x=", 20)), 60);
            is(faultOf(repeated("(", 30) + repeated("1", 30)), 60);
            is(faultOf(repeated("(", 30) + "1" + repeated(")", 29)), 60);
            is(faultOf(repeated("(", 29) + "11" + repeated(")", 29)), -1);
        });
    }

    private static void nodes() {
        says("Nodes. The nodes of a term are its names, kept names, numbers, signs, functions, lets and applications; parentheses "
            + "are none.", () -> {
                is(nodes("x"), "0x");
                is(nodes("A"), "1A");
                is(nodes("1"), "21");
                is(nodes("+"), "3+");
                is(nodes("<"), "3<");
                is(nodes("?"), "3?");
                is(nodes("^x.x"), "4x 0x");
                is(nodes("!x=1;x"), "5x 21 0x");
                is(nodes("x1"), "6 0x 21");
                is(nodes(repeated("(", 29) + "1" + repeated(")", 29)), "21");
                is(nodes("((1)((2)))"), "6 21 22");
                is(nodes(repeated("(", 29) + "12" + repeated(")", 29)), "6 21 22");
            });
        says("They are numbered from 0: first the whole, and behind each node its first part with all that is in it, then its "
            + "second part.", () -> {
                is(nodes("^x.!a=+1;a(xA)"), "4x 5a 6 3+ 21 6 0a 6 0x 1A");
                is(nodes("(^x.(x)A)1(!a=+;a)"), "6 6 4x 6 0x 1A 21 5a 3+ 0a");
                TypeTutor t = with(repeated("x", 60));
                is(t.nodeOf(0, 0, 2), 1);
                is(t.nodeOf(0, 0, 3), 118);
                is(t.nodeOf(0, 58, 2), 59);
                is(t.nodeOf(0, 58, 3), 60);
                is(t.nodeOf(0, 118, 1), 0);
            });
        says("The part of a function is its body; those of a let are what is bound and the body; those of an application what is "
            + "applied and to what.", () -> {
                node(with("^x.1"), 0, 4, -1, 1, -1, 0, 0);
                node(with("!x=+1;<2"), 0, 5, -1, 1, 4, 0, 0);
                node(with("(+1)(<2)"), 0, 6, -1, 1, 4, 0, 1);
            });
        says("The first character of an application is that of its first part, without parentheses.", () -> {
            TypeTutor t = with("(((x)y))z");
            is(t.nodeOf(0, 0, 5), 3);
            is(t.nodeOf(0, 1, 5), 3);
            is(with("(^x.x)1").nodeOf(0, 0, 5), 1);
            is(with("(!a=1;a)1").nodeOf(0, 0, 5), 1);
            is(with("xy").nodeOf(0, 0, 5), 0);
            is(with(repeated("(", 28) + "xy" + repeated(")", 28) + "zz").nodeOf(0, 0, 5), 28);
            is(with("x(yz)").nodeOf(0, 2, 5), 2);
            is(with("x((y)z)").nodeOf(0, 2, 5), 3);
        });
    }

    private static void texts() {
        says("Texts. The form of a text of orders is text = order { \";\" order }", () -> {
            textGoesOn("", "kux");
            textGoesOn("x0", ";");
            textGoesOn("x0;", "kux");
            textGoesOn("k0A", ";");
            textGoesOn("uA", ";");
            textGoesOn("uA;x0;", "kux");
            is(faultOfText(repeated("x0;", 19) + "x0"), -1);
        });
        says("order = \"k\" digit capital | \"u\" capital | \"x\" digit", () -> {
            textGoesOn("k", DIGITS);
            textGoesOn("k0", CAPITALS);
            textGoesOn("k9", CAPITALS);
            textGoesOn("u", CAPITALS);
            textGoesOn("x", DIGITS);
            textGoesOn("x9;u", CAPITALS);
        });
        says("The orders are: k, the type of a lesson is kept under a capital; u, a capital keeps nothing any more; x, a lesson is "
            + "dropped.", () -> {
                TypeTutor t = with("1", "+", "<", "?", "12", "^x.x");
                is(run(t, "k0A;k5H"), 2);
                is(toldKept(t, 0), "N");
                is(toldKept(t, 7), "a>a");
                is(run(t, "uA"), 1);
                is(t.isKept(0), false);
                is(t.isKept(7), true);
                is(run(t, "uH"), 1);
                is(t.isKept(7), false);
                is(run(t, "x5"), 1);
                is(t.account(0), 5);
                is(t.nodes(4), 3);
                is(run(t, "x0"), 1);
                is(t.account(0), 4);
                is(told(t, 0), "N>N>N");
            });
        says("Its fault position is told likewise.", () -> {
            is(faultOfText(""), 0);
            is(faultOfText(";"), 0);
            is(faultOfText("x0;;"), 3);
            is(faultOfText("x0x0"), 2);
            is(faultOfText("k0I"), 2);
            is(faultOfText("uAA"), 2);
            is(faultOfText("kAA"), 1);
            is(faultOfText("K0A"), 0);
            String text = "k0A;uB;x1";
            for (int length = 0; length < text.length(); length++) {
                is(faultOfText(text.substring(0, length)), length == 3 || length == 6 ? -1 : length);
            }
            is(faultOfText(repeated("x0;", 20)), 60);
            is(faultOfText(repeated("x0;", 19) + "x0x"), 59);
        });
    }
}
