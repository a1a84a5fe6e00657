/** Promise 11: write, in both texts, of what was read from either. */
public final class WriteTest {
    private static final int L = Check.LONG;
    private static final int S = Check.SHORT;

    public static void main(String[] args) {
        longToBoth();
        shortToBoth();
        zerosInFront();
        longerThanTheTape();
        edges();
        Check.end("WriteTest");
    }

    private static void both(int form, String text, String dueLong, String dueShort) {
        Check.same("long print of " + text, Check.printed(form, text, L), dueLong);
        Check.same("short print of " + text, Check.printed(form, text, S), dueShort);
        Check.same("long print again", Check.printed(L, dueLong, L), dueLong);
        Check.same("short print again", Check.printed(S, dueShort, S), dueShort);
    }

    private static void longToBoth() {
        both(L, "module top ( b , a , y ) ; wire [2:0] w ; output [3:0] y; leaf g ( 4'b0101 , - , y[0] ) ; "
                + "input a; wire v; input [7:0] b; // told late\n"
                + "leaf f(.q(b[5:2]),.p(v)); assign y[2:1]=b[7:6]; assign 3'b010=w[2:0]; assign v=v[0:0];"
                + "box k(b,-,w[1],5'b00010); box m(.s(),.z(w[2:1]),.a(1'b1)); box n(); empty e1(); end "
                + "module leaf(q,p,r); input [3:0] q; output r; input p; end module empty(); end",
            "module top(b,a,y);\ninput [7:0] b;\ninput a;\noutput [3:0] y;\nwire [2:0] w;\nwire v;\n"
                + "assign y[2:1]=b[7:6];\nassign 3'b010=w[2:0];\nassign v=v[0:0];\n"
                + "leaf g(.q(4'b0101),.p(),.r(y[0]));\nleaf f(.q(b[5:2]),.p(v),.r());\n"
                + "box k(b,-,w[1],5'b00010);\nbox m(.s(),.z(w[2:1]),.a(1'b1));\nbox n();\nempty e1();\nend\n"
                + "module leaf(q,p,r);\ninput [3:0] q;\ninput p;\noutput r;\nend\n"
                + "module empty();\nend\n",
            "m top;\ni b 8;\ni a 1;\no y 4;\nw w 3;\nw v 1;\n"
                + "a y.2.1 b.7.6;\na 'b010 w.2.0;\na v v.0.0;\n"
                + "u leaf g 'b0101 - y.0;\nu leaf f b.5.2 v -;\n"
                + "u box k b - w.1 'b00010;\nu box m - w.2.1 'b1;\nu box n;\nu empty e1;\ne;\n"
                + "m leaf;\ni q 4;\ni p 1;\no r 1;\ne;\n"
                + "m empty;\ne;\n");
    }

    private static void shortToBoth() {
        both(S, "m x;w w 2;u y z w.1.0-;o q 1;a q.0 'b1;u bx c----'b1111111 w.1;e;m y;i p 2;o r 1;e;",
            "module x(q);\noutput q;\nwire [1:0] w;\nassign q[0]=1'b1;\ny z(.p(w[1:0]),.r());\n"
                + "bx c(-,-,-,-,7'b1111111,w[1]);\nend\nmodule y(p,r);\ninput [1:0] p;\noutput r;\nend\n",
            "m x;\no q 1;\nw w 2;\na q.0 'b1;\nu y z w.1.0 -;\nu bx c - - - - 'b1111111 w.1;\ne;\n"
                + "m y;\ni p 2;\no r 1;\ne;\n");
    }

    private static void zerosInFront() {
        both(L, "module x();wire [03:00] a;assign a[02:01]=02'b01;y z(a[03]);end",
            "module x();\nwire [3:0] a;\nassign a[2:1]=2'b01;\ny z(a[3]);\nend\n",
            "m x;\nw a 4;\na a.2.1 'b01;\nu y z a.3;\ne;\n");
        both(S, "m x;w a 08;a a.02.01 'b00;e;",
            "module x();\nwire [7:0] a;\nassign a[2:1]=2'b00;\nend\n",
            "m x;\nw a 8;\na a.2.1 'b00;\ne;\n");
    }

    /** Open pins are printed though they were not told: a print may be far longer than its text. */
    private static void longerThanTheTape() {
        StringBuilder names = new StringBuilder();
        StringBuilder links = new StringBuilder();
        for (int k = 0; k < 16; k++) {
            names.append(k == 0 ? "" : ",").append("port_").append(100 + k);
            links.append(k == 0 ? "" : ",").append(".port_").append(100 + k).append("()");
        }
        StringBuilder text = new StringBuilder("module y(" + names + ");input " + names + ";end ");
        StringBuilder due = new StringBuilder("module y(" + names + ");\ninput "
            + names.toString().replace(",", ";\ninput ") + ";\nend\n");
        for (int module = 0; module < 2; module++) {
            text.append("module x").append(module).append("();");
            due.append("module x").append(module).append("();\n");
            for (int k = 0; k < 12; k++) {
                text.append("y i").append(k).append("(.port_100());");
                due.append("y i").append(k).append('(').append(links).append(");\n");
            }
            text.append("end ");
            due.append("end\n");
        }
        Check.same("a long print", Check.printed(L, text.toString(), L), due.toString());
    }

    private static void edges() {
        NetlistForms forms = Check.of(S, "m x;e;");
        String dueLong = "module x();\nend\n";
        String dueShort = "m x;\ne;\n";
        Check.same("long's last", forms.write(L, dueLong.length() - 1), 10);
        Check.same("short's last", forms.write(S, dueShort.length() - 1), 10);
        Check.same("behind long", forms.write(L, dueLong.length()), NetlistForms.NONE);
        Check.same("behind short", forms.write(S, dueShort.length()), NetlistForms.NONE);
        Check.same("far behind", forms.write(L, Integer.MAX_VALUE), NetlistForms.NONE);
        for (int wrong : new int[] {-1, Integer.MIN_VALUE}) {
            Check.refused("write(0, " + wrong + ")", () -> forms.write(L, wrong));
            Check.refused("write(1, " + wrong + ")", () -> forms.write(S, wrong));
        }
        for (int wrong : new int[] {-1, 2, Integer.MIN_VALUE, Integer.MAX_VALUE}) {
            Check.refused("write(" + wrong + ", 0)", () -> forms.write(wrong, 0));
        }
        forms.unit('m');
        Check.same("the tape is not printed", forms.write(S, 0), (int) 'm');
        Check.same("nor changed", forms.count(1), 1);
    }
}
