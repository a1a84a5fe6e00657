/** Promises 5 to 10: module, net, instance, joined, assign, letter. */
public final class AskTest {
    private static final int[] NO_NUMBERS = {-1, Integer.MIN_VALUE, Integer.MAX_VALUE};

    /** Ports in another order than they are told, wires before them. */
    private static final String TOP = "module top(b,a,y);wire [2:0] w;output [3:0] y;input a;wire v;"
        + "input [7:0] b;assign y[2:1]=b[7:6];assign 3'b110=w;"
        + "leaf f(.q(b[5:2]),.p(v));\nleaf g(4'b0101,-,v);leaf h(.r(v),.p());"
        + "box k(b,-,w[1],5'b10010,y[3:2]);box_name m_23(.s(),.leaf(w[2:1]));box n();end\n";
    private static final String LEAF = "module leaf(q,p,r);input [3:0] q;input p;output r;end";

    public static void main(String[] args) {
        modules();
        depth();
        nets();
        netsOfShortText();
        instances();
        pins();
        assigns();
        letters();
        refusals();
        Check.end("AskTest");
    }

    private static NetlistForms both() {
        return Check.of(Check.LONG, TOP + LEAF);
    }

    private static void modules() {
        NetlistForms forms = both();
        int[] top = {3, 5, 17, 2, 6, 1};
        int[] leaf = {3, 3, 6, 0, 0, 0};
        for (int what = 0; what < 6; what++) {
            Check.same("module(0, " + what + ")", forms.module(0, what), top[what]);
            Check.same("module(1, " + what + ")", forms.module(1, what), leaf[what]);
        }
    }

    private static void depth() {
        NetlistForms forms = Check.of(Check.SHORT,
            "m a;u b i;e;m b;u c i;u e j;e;m c;u box i;e;m d;u a i;e;m e;u f i;e;m f;e;m g;u h i;u d j;e;m h;e;");
        int[] due = {3, 2, 0, 4, 1, 0, 5, 0};
        for (int k = 0; k < due.length; k++) {
            Check.same("module(" + k + ", 5)", forms.module(k, 5), due[k]);
        }
        StringBuilder chain = new StringBuilder();
        for (int k = 0; k < 8; k++) {
            chain.append("m m").append(k).append(";u m").append(k + 1).append(" i;e;");
        }
        NetlistForms chained = Check.of(Check.SHORT, chain.toString());
        for (int k = 0; k < 8; k++) {
            Check.same("chain's module(" + k + ", 5)", chained.module(k, 5), 7 - k);
        }
    }

    private static void net(NetlistForms forms, int module, int k, int... due) {
        for (int what = 0; what < 3; what++) {
            Check.same("net(" + module + ", " + k + ", " + what + ")", forms.net(module, k, what), due[what]);
        }
    }

    private static void nets() {
        NetlistForms forms = both();
        net(forms, 0, 0, 0, 8, 0);
        net(forms, 0, 1, 0, 1, 8);
        net(forms, 0, 2, 1, 4, 9);
        net(forms, 0, 3, 2, 3, 13);
        net(forms, 0, 4, 2, 1, 16);
        net(forms, 1, 0, 0, 4, 0);
        net(forms, 1, 1, 0, 1, 4);
        net(forms, 1, 2, 1, 1, 5);
    }

    private static void netsOfShortText() {
        NetlistForms forms = Check.of(Check.SHORT, "m x;w w 2;o y 3;a w y.2.1;w v 1;i a 8;u b c w v a y;e;");
        Check.same("ports", forms.module(0, 0), 2);
        net(forms, 0, 0, 1, 3, 0);
        net(forms, 0, 1, 0, 8, 3);
        net(forms, 0, 2, 2, 2, 11);
        net(forms, 0, 3, 2, 1, 13);
        Check.same("assign(0, 0, 0, 1)", forms.assign(0, 0, 0, 1), 12);
        Check.same("assign(0, 0, 1, 0)", forms.assign(0, 0, 1, 0), 1);
        Check.same("joined(0, 0, 0, 0)", forms.joined(0, 0, 0, 0), 11);
        Check.same("joined(0, 0, 1, 0)", forms.joined(0, 0, 1, 0), 13);
        Check.same("joined(0, 0, 2, 7)", forms.joined(0, 0, 2, 7), 10);
        Check.same("joined(0, 0, 3, 0)", forms.joined(0, 0, 3, 0), 0);
    }

    private static void instance(NetlistForms forms, int k, int... due) {
        for (int what = 0; what < 4; what++) {
            Check.same("instance(0, " + k + ", " + what + ")", forms.instance(0, k, what), due[what]);
        }
    }

    private static void instances() {
        NetlistForms forms = both();
        instance(forms, 0, 1, 3, TOP.indexOf("f(."), 1);
        instance(forms, 1, 1, 3, TOP.indexOf("g(4"), 0);
        instance(forms, 2, 1, 3, TOP.indexOf("h(."), 1);
        instance(forms, 3, NetlistForms.NONE, 5, TOP.indexOf("k(b"), 0);
        instance(forms, 4, NetlistForms.NONE, 2, TOP.indexOf("m_23"), 1);
        instance(forms, 5, NetlistForms.NONE, 0, TOP.indexOf("n();"), 0);
        NetlistForms turned = Check.of(Check.LONG, LEAF + " " + TOP);
        Check.same("module of the text before", turned.instance(1, 0, 0), 0);
        Check.same("place behind the text before", turned.instance(1, 0, 2),
            LEAF.length() + 1 + TOP.indexOf("f(."));
    }

    private static void pin(NetlistForms forms, int instance, int pin, int... due) {
        for (int bit = 0; bit < due.length; bit++) {
            Check.same("joined(0, " + instance + ", " + pin + ", " + bit + ")",
                forms.joined(0, instance, pin, bit), due[bit]);
        }
        for (int bit : new int[] {due.length, due.length + 1, -1, Integer.MIN_VALUE, Integer.MAX_VALUE}) {
            Check.refused("joined(0, " + instance + ", " + pin + ", " + bit + ")",
                () -> forms.joined(0, instance, pin, bit));
        }
    }

    private static void pins() {
        NetlistForms forms = both();
        int none = NetlistForms.NONE;
        int zero = NetlistForms.ZERO;
        int one = NetlistForms.ONE;
        pin(forms, 0, 0, 2, 3, 4, 5);
        pin(forms, 0, 1, 16);
        pin(forms, 0, 2, none);
        pin(forms, 1, 0, one, zero, one, zero);
        pin(forms, 1, 1, none);
        pin(forms, 1, 2, 16);
        pin(forms, 2, 0, none, none, none, none);
        pin(forms, 2, 1, none);
        pin(forms, 2, 2, 16);
        pin(forms, 3, 0, 0, 1, 2, 3, 4, 5, 6, 7);
        pin(forms, 3, 1, none);
        pin(forms, 3, 2, 14);
        pin(forms, 3, 3, zero, one, zero, zero, one);
        pin(forms, 3, 4, 11, 12);
        pin(forms, 4, 0, none);
        pin(forms, 4, 1, 14, 15);
        for (int wrong : new int[] {3, 4, 16, -1, Integer.MIN_VALUE, Integer.MAX_VALUE}) {
            Check.refused("pin " + wrong, () -> forms.joined(0, 0, wrong, 0));
        }
        Check.refused("a box's pin behind its links", () -> forms.joined(0, 4, 2, 0));
        Check.refused("a pin of none", () -> forms.joined(0, 5, 0, 0));
    }

    private static void side(NetlistForms forms, int k, int side, int... due) {
        for (int bit = 0; bit < due.length; bit++) {
            Check.same("assign(0, " + k + ", " + side + ", " + bit + ")", forms.assign(0, k, side, bit), due[bit]);
        }
        for (int bit : new int[] {due.length, -1, Integer.MIN_VALUE, Integer.MAX_VALUE}) {
            Check.refused("assign(0, " + k + ", " + side + ", " + bit + ")", () -> forms.assign(0, k, side, bit));
        }
    }

    private static void assigns() {
        NetlistForms forms = both();
        side(forms, 0, 0, 10, 11);
        side(forms, 0, 1, 6, 7);
        side(forms, 1, 0, NetlistForms.ZERO, NetlistForms.ONE, NetlistForms.ONE);
        side(forms, 1, 1, 13, 14, 15);
        for (int wrong : new int[] {2, 3, -1, Integer.MIN_VALUE, Integer.MAX_VALUE}) {
            Check.refused("side " + wrong, () -> forms.assign(0, 0, wrong, 0));
            Check.refused("assign " + wrong, () -> forms.assign(0, wrong, 0, 0));
        }
        Check.refused("assign of a module without", () -> forms.assign(1, 0, 0, 0));
    }

    private static void letters() {
        NetlistForms forms = both();
        Check.same("module 0", Check.name(forms, 0, 0, -7), "top");
        Check.same("module 1", Check.name(forms, 0, 1, 99), "leaf");
        Check.same("net 0", Check.name(forms, 1, 0, 0), "b");
        Check.same("net 3", Check.name(forms, 1, 0, 3), "w");
        Check.same("net 2 of module 1", Check.name(forms, 1, 1, 2), "r");
        Check.same("instance 4", Check.name(forms, 2, 0, 4), "m_23");
        Check.same("of instance 4", Check.name(forms, 3, 0, 4), "box_name");
        Check.same("of instance 1", Check.name(forms, 3, 0, 1), "leaf");
        Check.same("its last", forms.letter(3, 0, 4, 7), (int) 'e');
        for (int i : new int[] {8, 9, 63, 64, 1 << 29, Integer.MAX_VALUE}) {
            Check.same("letter(3, 0, 4, " + i + ")", forms.letter(3, 0, 4, i), NetlistForms.NONE);
            Check.same("letter(0, 0, 0, " + i + ")", forms.letter(0, 0, 0, i), NetlistForms.NONE);
        }
    }

    private static void refusals() {
        NetlistForms forms = both();
        for (int wrong : NO_NUMBERS) {
            Check.refused("module " + wrong, () -> forms.module(wrong, 0));
            Check.refused("module's what " + wrong, () -> forms.module(0, wrong));
            Check.refused("net's module " + wrong, () -> forms.net(wrong, 0, 0));
            Check.refused("net " + wrong, () -> forms.net(0, wrong, 0));
            Check.refused("net's what " + wrong, () -> forms.net(0, 0, wrong));
            Check.refused("instance's module " + wrong, () -> forms.instance(wrong, 0, 0));
            Check.refused("instance " + wrong, () -> forms.instance(0, wrong, 0));
            Check.refused("instance's what " + wrong, () -> forms.instance(0, 0, wrong));
            Check.refused("joined's module " + wrong, () -> forms.joined(wrong, 0, 0, 0));
            Check.refused("joined's instance " + wrong, () -> forms.joined(0, wrong, 0, 0));
            Check.refused("assign's module " + wrong, () -> forms.assign(wrong, 0, 0, 0));
            Check.refused("letter's sort " + wrong, () -> forms.letter(wrong, 0, 0, 0));
            for (int sort = 0; sort < 4; sort++) {
                int s = sort;
                Check.refused("letter's a " + wrong, () -> forms.letter(s, wrong, 0, 0));
            }
            for (int sort = 1; sort < 4; sort++) {
                int s = sort;
                Check.refused("letter's b " + wrong, () -> forms.letter(s, 0, wrong, 0));
            }
        }
        Check.refused("module 2", () -> forms.module(2, 0));
        Check.refused("module's what 6", () -> forms.module(0, 6));
        Check.refused("net 5", () -> forms.net(0, 5, 0));
        Check.refused("net 3 of the leaf", () -> forms.net(1, 3, 0));
        Check.refused("net's what 3", () -> forms.net(0, 0, 3));
        Check.refused("instance 6", () -> forms.instance(0, 6, 0));
        Check.refused("instance of the leaf", () -> forms.instance(1, 0, 0));
        Check.refused("instance's what 4", () -> forms.instance(0, 0, 4));
        Check.refused("joined in the leaf", () -> forms.joined(1, 0, 0, 0));
        Check.refused("letter's sort 4", () -> forms.letter(4, 0, 0, 0));
        Check.refused("letter -1", () -> forms.letter(0, 0, 0, -1));
        Check.refused("letter of net 5", () -> forms.letter(1, 0, 5, 0));
        Check.refused("letter of instance 6", () -> forms.letter(2, 0, 6, 0));
        Check.refused("letter of what instance 6 is of", () -> forms.letter(3, 0, 6, 0));
        Check.same("nothing has changed", forms.module(0, 2), 17);
    }
}
