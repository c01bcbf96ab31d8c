/** The sentences of the general sections about types, how they are found, made to fit, and fail. */
final class TypeSentences extends Sentences {
    /** The types of a, b, c and d have the sizes 7, 19, 43 and 91; the body is the node 23. */
    static final String LARGE = "!a=?;!b=^z.zaa;!c=^z.zbb;!d=^z.zcc;";

    /** Bodies behind it whose types have these sizes: the bound of 200 lies between the last two. */
    static final String SIZE_197 = "^z.zdd11111";
    static final String SIZE_199 = "^z.zdd111111";
    static final String SIZE_201 = "^z.zdd1111111";

    static void all() {
        section("Terms");
        types();
        finding();
        lets();
        applications();
        fitting();
        failures();
        sizes();
    }

    /** The numbers of the type of a whole lesson. */
    private static String measured(String term) {
        TypeTutor t = with(term);
        return t.typeOf(0, 0) + " " + t.typeOf(0, 1) + " " + t.typeOf(0, 2) + " " + t.typeOf(0, 3) + " " + t.typeOf(0, 4);
    }

    private static String measuredNode(String term, int node) {
        TypeTutor t = with(term);
        StringBuilder text = new StringBuilder();
        for (int what = 0; what <= 4; what++) {
            text.append(what > 0 ? " " : "").append(t.nodeType(0, node, what));
        }
        return text.toString();
    }

    private static void types() {
        says("Types. A type is N, that of numbers; B, that of truths; a variable; or an arrow from one type to another one.", () -> {
            is(typed("1"), "N");
            is(typed("<12"), "B");
            is(toldNode(with("^x.x"), 0, 1), "a");
            is(typed("^x.x"), "a>a");
            is(typed("+1"), "N>N");
        });
        says("The size of a type is how many N, B, variables and arrows it has, as written out in full.", () -> {
            is(with("1").typeOf(0, 0), 1);
            is(with("<12").typeOf(0, 0), 1);
            is(with("^x.x").nodeType(0, 1, 0), 1);
            is(with("+1").typeOf(0, 0), 3);
            is(with("?").typeOf(0, 0), 7);
            is(with(LARGE + "b").typeOf(0, 0), 19);
            is(with(LARGE + "c").typeOf(0, 0), 43);
            is(with(LARGE + "d").typeOf(0, 0), 91);
            is(with(LARGE + "^z.zdd").typeOf(0, 0), 187);
            is(with(LARGE + SIZE_199).typeOf(0, 0), 199);
        });
        says("Its order is 0 without an arrow, and for an arrow the greater one of 1 more than the order of what it is from, and of "
            + "the order of what it is to.", () -> {
                is(measured("1"), "1 0 0 0 0");
                is(measured("<12"), "1 0 0 0 0");
                is(measuredNode("^x.x", 1), "1 0 1 0 0");
                is(measured("+1"), "3 1 0 1 1");
                is(with("+").typeOf(0, 3), 1);
                is(with("^f.f1").typeOf(0, 3), 2);
                is(with("^x.^f.f1").typeOf(0, 3), 2);
                is(with("^f.^x.+(f1)x").typeOf(0, 3), 2);
                is(with("^f.f(^x.x)").typeOf(0, 3), 3);
                is(with("^x.^y.^f.f(^x.x)").typeOf(0, 3), 3);
                is(with("^g.^f.f(+(g1))").typeOf(0, 3), 3);
                is(with(LARGE + "b").typeOf(0, 3), 3);
                is(with(LARGE + "d").typeOf(0, 3), 7);
            });
        says("Its places are 0 without an arrow, and for an arrow 1 more than those of what it is to.", () -> {
            is(with("1").typeOf(0, 4), 0);
            is(with("^x.x").nodeType(0, 1, 4), 0);
            is(with("+1").typeOf(0, 4), 1);
            is(with("+").typeOf(0, 4), 2);
            is(with("?").typeOf(0, 4), 3);
            is(with("^f.f1").typeOf(0, 4), 1);
            is(with("^f.f123").typeOf(0, 4), 1);
            is(with("^x.^f.f1").typeOf(0, 4), 2);
            is(with(repeated("^x.", 19) + "1").typeOf(0, 4), 19);
        });
    }

    private static void finding() {
        says("Finding types. A digit has the type N; \"+\" has N to N to N; \"<\" has N to N to B; and \"?\" has B to a to a to a, "
            + "with a new variable for each such node.", () -> {
                for (int k = 0; k < DIGITS.length(); k++) {
                    is(typed("" + DIGITS.charAt(k)), "N");
                }
                is(typed("+"), "N>N>N");
                is(typed("<"), "N>N>B");
                is(typed("?"), "B>a>a>a");
                is(typed("^k.k??"), "((B>a>a>a)>(B>b>b>b)>c)>c");
                is(typed("?(?(<12)(<12)(<34))12"), "N");
                is(typed("?(<12)(?(<12)++)(?(<12)++)1"), "N>N");
            });
        says("A capital has the type kept under it, with new variables for each node.", () -> {
            TypeTutor t = with("^x.x", "1", "^x.^y.x");
            t.keep(0, 0);
            t.keep(1, 1);
            t.keep(2, 7);
            give(t, "A");
            give(t, "B");
            is(told(t, 3), "a>a");
            is(told(t, 4), "N");
            is(give(t, "^k.kAAH"), 5);
            is(told(t, 5), "((a>a)>(b>b)>(c>d>c)>e)>e");
            t.drop(5);
            give(t, "?(A(<12))(A1)(AA2)");
            is(told(t, 5), "N");
        });
        says("A name has the type that belongs to it where it is bound, by the innermost function or let around it whose body it "
            + "is in.", () -> {
                is(typed("^x.^x.x"), "a>b>b");
                is(typed("^x.^y.x"), "a>b>a");
                is(typed("^x.!x=1;x"), "a>N");
                is(typed("!x=1;^x.x"), "a>a");
                is(typed("!x=1;!x=+x;x"), "N>N");
                is(typed("!x=1;(^x.x)+x"), "N>N");
                is(typed("!x=+;!y=!x=1;x;xy"), "N>N");
                failed("(^x.x)x", 3, 3, -1, -1);
                failed("(!x=1;x)x", 3, 4, -1, -1);
            });
        says("A function gives its name a new variable; its type is the arrow from that to the type of its body.", () -> {
            is(typed("^x.1"), "a>N");
            is(typed("^x.x"), "a>a");
            is(typed("^x.^x.1"), "a>b>N");
            is(typed("^x.+x"), "N>N>N");
            is(typed(repeated("^x.", 19) + "x"), "a>b>c>d>e>f>g>h>i>j>k>l>m>n>o>p>q>r>s>s");
        });
    }

    private static void lets() {
        says("A let is gone through by what is bound first;", () -> {
            failed("!a=y;z", 3, 1, -1, -1);
            failed("!a=11;z", 4, 1, 0, 2);
            failed("!a=1;z", 3, 2, -1, -1);
        });
        says("its name has this type in the body, with new variables, for each node that is the name, for all those variables that "
            + "are in the type of no name of a function around the let;", () -> {
                is(typed("!i=^x.x;^k.kii"), "((a>a)>(b>b)>c)>c");
                is(typed("!i=^x.x;?(i(<12))(i3)4"), "N");
                // As many lets as there can be, and the type of each is used.
                is(typed("!a=1;!b=a;!c=b;!d=c;!e=d;!f=e;!g=f;!h=g;!i=h;!j=i;!k=j;k"), "N");
                is(typed("!a=1;!b=2;!c=3;!d=4;!e=5;!f=6;!g=7;!h=8;!i=9;!j=+;!k=<;j"), "N>N>N");
                // The function is around the let, so that its variable is left alone.
                is(typed("^x.!y=x;^k.kyy"), "a>(a>a>b)>b");
                failed("^x.!y=x;?(y1)(+y)", 4, 9, 0, 2);
                is(typed("^x.!y=^z.x;^k.kyy"), "a>((b>a)>(c>a)>d)>d");
                is(typed("^x.!w=!y=^z.x;^k.kyy;w"), "a>((b>a)>(c>a)>d)>d");
                // Functions beside the let, in what it binds, and in its body are not around it.
                is(typed("(^x.x)(!y=^z.z;^k.kyy)"), "((a>a)>(b>b)>c)>c");
                is(typed("!y=^x.^z.x;^k.kyy"), "((a>b>a)>(c>d>c)>e)>e");
                // Both functions around it count, also the one whose letter is bound once more.
                is(typed("^x.^y.!p=^z.zxy;^k.kpp"), "a>b>(((a>b>c)>c)>((a>b>d)>d)>e)>e");
                is(typed("^x.!w=x;^x.!y=w;^k.kyy"), "a>b>(a>a>c)>c");
                is(typed("^x.^x.!y=x;^k.kyy"), "a>b>(b>b>c)>c");
            });
        says("its type is that of the body.", () -> {
            is(typed("!x=+;1"), "N");
            is(typed("!x=1;+"), "N>N>N");
            is(typed("!x=1;x"), "N");
            is(typed("!x=1;^y.x"), "a>N");
        });
    }

    private static void applications() {
        says("An application is gone through by its first part, then its second part;", () -> {
            failed("yz", 3, 1, -1, -1);
            failed("y(11)", 3, 1, -1, -1);
            failed("(11)y", 4, 1, 0, 2);
            failed("(11)(22)", 4, 1, 0, 2);
            // It is made to fit behind both.
            failed("1y", 3, 2, -1, -1);
            failed("1(^x.xx)", 5, 3, -1, -1);
        });
        says("then the type of the first part is made to fit the arrow from that of the second part to a new variable, which is its "
            + "type.", () -> {
                is(typed("+1"), "N>N");
                is(typed("+12"), "N");
                is(typed("(^x.x)1"), "N");
                is(typed("^f.^x.fx"), "(a>b)>a>b");
                is(typed("^f.^x.^y.fxy"), "(a>b>c)>a>b>c");
                // As many nodes with a type as there can be: 0 to 113.
                TypeTutor most = with("^f.f" + repeated("1", 56));
                is(most.nodes(0), 114);
                is(toldNode(most, 0, 57), repeated("N>", 56) + "a");
                is(toldNode(most, 0, 56), repeated("N>", 55) + "a");
                is(toldNode(most, 0, 1), "a");
                is(toldNode(most, 0, 113), "N");
                is(most.typeOf(0, 0), 115);
                is(most.typeOf(0, 3), 2);
                is(most.nodeType(0, 57, 4), 56);
                is(most.typeAgain(0, 0), 115);
                failed("11", 4, 0, 0, 2);
            });
    }

    private static void fitting() {
        says("Fitting. To make two types fit, a variable becomes the other type, unless it is the same variable;", () -> {
            is(typed("^x.x1"), "(N>a)>a");
            is(typed("^x.+x"), "N>N>N");
            is(typed("^x.^y.?(<12)xy"), "a>a>a");
            is(typed("^x.?(<12)xx"), "a>a");
            is(typed("^f.^x.?(<12)(fx)(fx)"), "(a>b)>a>b");
            is(typed("^x.^y.?(<12)(?(<12)xy)(?(<12)yx)"), "a>a>a");
        });
        says("an arrow fits an arrow if what they are from fits, and then what they are to;", () -> {
            is(typed("(^f.f1)+"), "N>N");
            is(typed("(^f.+(f1))(^x.x)1"), "N");
            // What they are from comes ahead of what they are to: both would clash.
            failed("(^f.+(f(<12)))(^p.<p1)", 4, 0, 1, 0);
            failed("(^f.?(f1))(^p.+(?p12))", 4, 0, 0, 1);
            // What they are from makes what they are to clash.
            failed("(^f.?(f1))(^x.x)", 4, 0, 1, 0);
        });
        says("and N and B fit themselves alone.", () -> {
            is(typed("+1"), "N>N");
            is(typed("?(<12)"), "a>a>a");
            failed("+(<12)", 4, 0, 0, 1);
            failed("?1", 4, 0, 1, 0);
            failed("+(^x.x)", 4, 0, 0, 2);
            failed("?(^x.x)", 4, 0, 1, 2);
            failed("(^f.f1)1", 4, 0, 2, 0);
            failed("(^f.f1)(<12)", 4, 0, 2, 1);
            failed("11", 4, 0, 0, 2);
            failed("<123", 4, 0, 1, 2);
        });
        says("If they do not fit, they clash by a first pair of parts.", () -> {
            failed("(^f.+(f1)(?(f2)34))1", 4, 10, 1, 0);
            failed("(^f.+(f12))(^x.^y.?(<xy)<<)", 4, 0, 0, 2);
            // Three pairs, two pairs and one pair that clash.
            failed("(^f.+(f(<12)+))(^x.^y.<xy)", 4, 0, 1, 0);
            failed("(^f.+(f1+))(^x.^y.<xy)", 4, 0, 2, 0);
            failed("(^f.+(f12))(^x.^y.<xy)", 4, 0, 0, 1);
        });
        says("If a variable would become a type that has it, this type would contain itself.", () -> {
            failed("^x.xx", 5, 1, -1, -1);
            failed("^x.x(^y.x)", 5, 1, -1, -1);
            failed("^x.^y.x(yx)x", 5, 2, -1, -1);
            // The variable is that of to what it is applied.
            failed("^v.(^w.?(<12)w(^u.v))v", 5, 1, -1, -1);
            failed("^f.?(<12)f(f1)", 5, 1, -1, -1);
            // It has another one.
            is(typed("^x.^y.x(^z.y)"), "((a>b)>c)>b>c");
        });
    }

    private static void failures() {
        says("Failures. A lesson has no type for the first of these reasons that comes up as its term is gone through:", () -> {
            failed("(11)(^x.xx)y", 4, 2, 0, 2);
            failed("(^x.xx)(11)y", 5, 3, -1, -1);
            failed("y(11)(^x.xx)", 3, 2, -1, -1);
            failed("1(^x.xx)", 5, 3, -1, -1);
            failed(LARGE + "(" + SIZE_201 + ")y", 3, 44, -1, -1);
            failed(LARGE + "(" + SIZE_201 + ")1y", 10, 24, -1, -1);
            failed(LARGE + "(11)(" + SIZE_201 + ")", 4, 24, 0, 2);
        });
        says("3, a name is bound nowhere, or a capital keeps nothing: the node;", () -> {
            failed("y", 3, 0, -1, -1);
            failed("^x.^y.xz", 3, 4, -1, -1);
            failed("(^x.1)x", 3, 3, -1, -1);
            for (int k = 0; k < CAPITALS.length(); k++) {
                failed("" + CAPITALS.charAt(k), 3, 0, -1, -1);
                failed("+1" + CAPITALS.charAt(k), 3, 4, -1, -1);
            }
        });
        says("4, a clash: the application;", () -> {
            failed("11", 4, 0, 0, 2);
            failed("^x.11", 4, 1, 0, 2);
            failed("+1(+2(<34))", 4, 4, 0, 1);
            failed("+(<12)", 4, 0, 0, 1);
        });
        says("5, a type would contain itself: the application;", () -> {
            failed("^x.xx", 5, 1, -1, -1);
            failed("^x.+1(xx)", 5, 5, -1, -1);
            failed("!a=^x.xx;1", 5, 2, -1, -1);
        });
    }

    private static void sizes() {
        says("10, a type has a size above 200: that of what is applied, or of to what, ahead of the fitting,", () -> {
            // Ahead of the fitting: with a smaller type there is a clash.
            failed(LARGE + "(" + SIZE_199 + ")1", 4, 23, 2, 0);
            failed(LARGE + "(" + SIZE_201 + ")1", 10, 23, -1, -1);
            failed(LARGE + "1(" + SIZE_199 + ")", 4, 23, 0, 2);
            failed(LARGE + "1(" + SIZE_201 + ")", 10, 23, -1, -1);
            failed(LARGE + "(" + SIZE_201 + ")11", 10, 24, -1, -1);
        });
        says("or that of what is applied, behind it: the application;", () -> {
            // The type of what is applied gets 2 larger than that of to what.
            is(typed(LARGE + "(^x.1)(" + SIZE_197 + ")"), "N");
            failed(LARGE + "(^x.1)(" + SIZE_199 + ")", 10, 23, -1, -1);
            // With the smaller one the whole function alone is too large.
            failed(LARGE + "^y.y(" + SIZE_197 + ")", 10, 0, -1, -1);
            failed(LARGE + "^y.y(" + SIZE_199 + ")", 10, 24, -1, -1);
        });
        says("or that of what a let binds, when this was gone through: the let;", () -> {
            is(typed(LARGE + "!f=" + SIZE_199 + ";1"), "N");
            failed(LARGE + "!f=" + SIZE_201 + ";1", 10, 23, -1, -1);
            failed(LARGE + "^x.!f=" + SIZE_201 + ";x", 10, 24, -1, -1);
            failed(LARGE + "!f=" + SIZE_201 + ";y", 10, 23, -1, -1);
            failed(LARGE + "!f=" + SIZE_201 + "y;1", 3, 45, -1, -1);
        });
        says("or, when the whole term was gone through, that of a node: the lowest such node.", () -> {
            is(with(LARGE + SIZE_199).typeOf(0, 0), 199);
            failed(LARGE + SIZE_201, 10, 0, -1, -1);
            is(with(LARGE + "^x." + SIZE_197).typeOf(0, 0), 199);
            failed(LARGE + "^x." + SIZE_199, 10, 0, -1, -1);
            // Types that got large later: d>d>d, and what it is a part of that of the sign.
            failed(LARGE + "^y.?(<12)yd", 10, 26, -1, -1);
            is(with("!a=?;!b=^z.zaa;!c=^z.zbb;^y.?(<12)yc").nodeType(0, 19, 0), 131);
        });
    }
}
