/** The sentences on what write prints, and their edges: promise 11. */
public final class PrintEdgesTest {
    private static final int L = Check.LONG;
    private static final int S = Check.SHORT;
    private static final int NONE = NetlistForms.NONE;

    public static void main(String[] args) {
        notSoMany();
        iBelowZero();
        portsBetweenCommas();
        ranges();
        linksOfModules();
        linksOfBoxes();
        linksOfShortText();
        order();
        lines();
        partsAsTold();
        constantsAsTold();
        afterAFault();
        Check.end("PrintEdgesTest");
    }

    private static void both(int form, String text, String dueLong, String dueShort) {
        Check.same("long print of " + text, Check.printed(form, text, L), dueLong);
        Check.same("short print of " + text, Check.printed(form, text, S), dueShort);
    }

    private static void ends(NetlistForms forms, int form, String due) {
        for (int i = 0; i < due.length(); i++) {
            Check.same("write(" + form + ", " + i + ")", forms.write(form, i), (int) due.charAt(i));
        }
        for (int i : new int[] {due.length(), due.length() + 1, 1000, 1001, 1 << 30, Integer.MAX_VALUE}) {
            Check.same("write(" + form + ", " + i + ")", forms.write(form, i), NONE);
        }
    }

    private static void notSoMany() {
        Check.sentence("Promise 11", "Character i of all modules printed; NONE if there are not so many.");
        ends(new NetlistForms(), L, "");
        ends(new NetlistForms(), S, "");
        NetlistForms forms = Check.of(S, "m x;e;m y;e;");
        ends(forms, L, "module x();\nend\nmodule y();\nend\n");
        ends(forms, S, "m x;\ne;\nm y;\ne;\n");
        StringBuilder eight = new StringBuilder();
        for (char c = 'a'; c < 'i'; c++) {
            eight.append("m ").append(c).append(";\ne;\n");
        }
        Check.same("eight modules", Check.printed(S, Check.rows(8, "m #;e;"), S), eight.toString());
    }

    private static void iBelowZero() {
        Check.sentence("Promise 11", "IndexOutOfBoundsException: also i is below 0.");
        NetlistForms[] all = {new NetlistForms(), Check.of(S, "m x;e;")};
        for (NetlistForms forms : all) {
            for (int form = 0; form < 2; form++) {
                int f = form;
                Check.refused("write(" + f + ", -1)", () -> forms.write(f, -1));
                Check.refused("write(" + f + ", MIN)", () -> forms.write(f, Integer.MIN_VALUE));
                Check.taken("write(" + f + ", 0)", () -> forms.write(f, 0));
            }
            Check.range("form", 2, form -> forms.write(form, 0));
            Check.range("form, far behind", 2, form -> forms.write(form, Integer.MAX_VALUE));
        }
    }

    private static void portsBetweenCommas() {
        Check.sentence("Promise 11", "Long: module N(ports); with , between");
        for (int many : new int[] {0, 1, 2, 16}) {
            Check.same(many + " ports", Check.printed(S, "m x;" + Check.rows(many, "i # 1;") + "e;", L),
                "module x(" + Check.list(many, "#") + ");\n" + Check.rows(many, "input #;\n") + "end\n");
        }
        both(S, "m x;w w 1;o b 1;i a 1;e;", "module x(b,a);\noutput b;\ninput a;\nwire w;\nend\n",
            "m x;\no b 1;\ni a 1;\nw w 1;\ne;\n");
    }

    private static void ranges() {
        Check.sentence("Promise 11", "a line for each net: input, output or wire, blank, [A:0] and blank if its "
            + "width is above 1, name, ;");
        String[] sorts = {"input", "output", "wire"};
        String[] shorts = {"i", "o", "w"};
        for (int sort = 0; sort < 3; sort++) {
            for (int width = 1; width <= 8; width++) {
                both(S, "m x;" + shorts[sort] + " a " + width + ";e;",
                    "module x(" + (sort == 2 ? "" : "a") + ");\n" + sorts[sort] + " "
                        + (width > 1 ? "[" + (width - 1) + ":0] " : "") + "a;\nend\n",
                    "m x;\n" + shorts[sort] + " a " + width + ";\ne;\n");
            }
        }
        both(L, "module x();wire [0:0] a,b;wire [1:0] c,d;end",
            "module x();\nwire a;\nwire b;\nwire [1:0] c;\nwire [1:0] d;\nend\n",
            "m x;\nw a 1;\nw b 1;\nw c 2;\nw d 2;\ne;\n");
    }

    private static void linksOfModules() {
        Check.sentence("Promise 11", "links of modules by name, .P(R), ports in their order (open ones .P())");
        String y = "module y(p,q,r);output r;input q,p;end";
        String dueY = "module y(p,q,r);\ninput p;\ninput q;\noutput r;\nend\n";
        String dueShortY = "m y;\ni p 1;\ni q 1;\no r 1;\ne;\n";
        String[] told = {"(w,-,1'b0)", "(.r(1'b0),.p(w))", "(.r(1'b0),.q(),.p(w))", "(.q())", "(-,-,-)"};
        String[] due = {"(.p(w),.q(),.r(1'b0))", "(.p(w),.q(),.r(1'b0))", "(.p(w),.q(),.r(1'b0))", "(.p(),.q(),.r())",
            "(.p(),.q(),.r())"};
        String[] dueShort = {" w - 'b0", " w - 'b0", " w - 'b0", " - - -", " - - -"};
        for (int k = 0; k < told.length; k++) {
            both(L, "module x();wire w;y z" + told[k] + ";end " + y,
                "module x();\nwire w;\ny z" + due[k] + ";\nend\n" + dueY,
                "m x;\nw w 1;\nu y z" + dueShort[k] + ";\ne;\n" + dueShortY);
        }
        both(L, "module x();y z();end module y();end", "module x();\ny z();\nend\nmodule y();\nend\n",
            "m x;\nu y z;\ne;\nm y;\ne;\n");
        both(S, "m x;u y z-;e;m y;o p 1;e;", "module x();\ny z(.p());\nend\nmodule y(p);\noutput p;\nend\n",
            "m x;\nu y z -;\ne;\nm y;\no p 1;\ne;\n");
        String all = "m x;u y z" + "-".repeat(16) + ";e;m y;" + Check.rows(16, "i # 1;") + "e;";
        Check.same("16 pins", Check.printed(S, all, L).split("\n")[1], "y z(" + Check.list(16, ".#()") + ");");
    }

    private static void linksOfBoxes() {
        Check.sentence("Promise 11", "of boxes as they were told (by order, open ones -, or by name); , between");
        for (String links : new String[] {"()", "(-)", "(w)", "(-,w,-)", "(.p())", "(.q(w))", "(.q(w),.p(),.a(1'b1))"}) {
            Check.same("links " + links, Check.printed(L, "module x();wire w;y z" + links + ";end", L),
                "module x();\nwire w;\ny z" + links + ";\nend\n");
        }
        String ordered = "(-" + ",-".repeat(15) + ")";
        String named = "(" + Check.list(16, ".#()") + ")";
        Check.same("16 by order", Check.printed(L, "module x();y z" + ordered + ";end", L),
            "module x();\ny z" + ordered + ";\nend\n");
        Check.same("16 by name", Check.printed(L, "module x();y z" + named + ";end", L),
            "module x();\ny z" + named + ";\nend\n");
    }

    private static void linksOfShortText() {
        Check.sentence("Promise 11", "u C N links; with one blank before each R or -, ports in their order (a box's: "
            + "as they were told, without names)");
        String[] told = {"()", "(-)", "(w,-)", "(.q(w),.p(),.a(1'b1))", "(.p())"};
        String[] due = {"", " -", " w -", " w - 'b1", " -"};
        for (int k = 0; k < told.length; k++) {
            Check.same("links " + told[k], Check.printed(L, "module x();wire w;y z" + told[k] + ";end", S),
                "m x;\nw w 1;\nu y z" + due[k] + ";\ne;\n");
        }
        Check.same("close signs", Check.printed(S, "m x;w w 2;u y z--w.1'b1 w.1.0;e;", S),
            "m x;\nw w 2;\nu y z - - w.1 'b1 w.1.0;\ne;\n");
        Check.same("16 links", Check.printed(S, "m x;u y z" + "-".repeat(16) + ";e;", S),
            "m x;\nu y z" + " -".repeat(16) + ";\ne;\n");
    }

    private static void order() {
        Check.sentence("Promise 11", "Assigns before instances");
        both(S, "m x;w a 1;u y z a;a a 'b0;u y t;i b 1;a b a;e;",
            "module x(b);\ninput b;\nwire a;\nassign a=1'b0;\nassign b=a;\ny z(a);\ny t();\nend\n",
            "m x;\ni b 1;\nw a 1;\na a 'b0;\na b a;\nu y z a;\nu y t;\ne;\n");
    }

    private static void lines() {
        Check.sentence("Promise 11", "behind each line (;, or end) a 10");
        both(L, "module x(a);input a;assign a=a;y z(a);end",
            "module x(a);\ninput a;\nassign a=a;\ny z(a);\nend\n", "m x;\ni a 1;\na a a;\nu y z a;\ne;\n");
        NetlistForms forms = Check.of(S, "m x;e;");
        Check.same("the last character, long", forms.write(L, 15), 10);
        Check.same("the last character, short", forms.write(S, 7), 10);
        Check.same("none behind it, long", forms.write(L, 16), NONE);
        Check.same("none behind it, short", forms.write(S, 8), NONE);
    }

    private static void partsAsTold() {
        Check.sentence("Promise 11", "R as it was told (by nets, bits, parts)");
        String[] longs = {"a", "a[0]", "a[0:0]", "w", "w[0]", "w[7]", "w[7:7]", "w[7:0]", "w[6:1]"};
        String[] shorts = {"a", "a.0", "a.0.0", "w", "w.0", "w.7", "w.7.7", "w.7.0", "w.6.1"};
        for (int k = 0; k < longs.length; k++) {
            String dueLong = "module x();\nwire a;\nwire [7:0] w;\nassign #=#;\ny z(#);\nend\n".replace("#", longs[k]);
            String dueShort = "m x;\nw a 1;\nw w 8;\na # #;\nu y z #;\ne;\n".replace("#", shorts[k]);
            both(L, dueLong, dueLong, dueShort);
            both(S, dueShort, dueLong, dueShort);
        }
    }

    private static void constantsAsTold() {
        Check.sentence("Promise 11", "R as it was told");
        for (String digits : new String[] {"0", "1", "00", "10", "0000000", "1111111", "0100110"}) {
            String dueLong = "module x();\nassign #=#;\ny z(#);\nend\n"
                .replace("#", digits.length() + "'b" + digits);
            String dueShort = "m x;\na # #;\nu y z #;\ne;\n".replace("#", "'b" + digits);
            both(L, dueLong, dueLong, dueShort);
            both(S, dueShort, dueLong, dueShort);
        }
    }

    private static void afterAFault() {
        Check.sentence("Promise 11", "Character i of all modules printed");
        NetlistForms forms = Check.of(S, "m x;e;");
        Check.same("a fault", Check.read(forms, S, "m q;u b c;"), -1 - 10);
        Check.put(forms, "m y;");
        ends(forms, S, "m x;\ne;\n");
        Check.same("the tape is as it was", forms.count(1), 4);
    }
}
