/** The sentences on the questions and their edges: promises 5 to 10, and what a call that throws does. */
public final class AnswerEdgesTest {
    private static final int L = Check.LONG;
    private static final int S = Check.SHORT;
    private static final int NONE = NetlistForms.NONE;
    private static final int ZERO = NetlistForms.ZERO;
    private static final int ONE = NetlistForms.ONE;

    /** Module 0 has 3 nets, 2 of them ports, 2 assigns and 4 instances; module 1 has 2 ports alone. */
    private static final String TEXT = "m top;i a 8;o b 1;w w 3;a b w.1;a w 'b110;u leaf l1 a w;u leaf l2 - -;"
        + "u box k1 a.6.1 - 'b01 b;u box k2;e;m leaf;i p 8;o q 3;e;";

    public static void main(String[] args) {
        constants();
        modules();
        below();
        nets();
        instances();
        placesOfNames();
        byName();
        pinsOfModules();
        pinsOfBoxes();
        pinsByName();
        assigns();
        letters();
        lettersWithoutB();
        lettersBehindTheName();
        noSuch();
        fullNumbers();
        changesNothing();
        Check.end("AnswerEdgesTest");
    }

    private static NetlistForms forms() {
        return Check.of(S, TEXT);
    }

    private static void constants() {
        Check.sentence("Terms", "`ZERO = -2`, `ONE = -3`: Bits of constants.");
        Check.same("NONE", NetlistForms.NONE, -1);
        Check.same("ZERO", NetlistForms.ZERO, -2);
        Check.same("ONE", NetlistForms.ONE, -3);
        Check.same("a 0", forms().assign(0, 1, 1, 0), -2);
        Check.same("a 1", forms().assign(0, 1, 1, 2), -3);
        Check.same("an open one", forms().joined(0, 1, 0, 0), -1);
    }

    private static void modules() {
        Check.sentence("Promise 5", "Of a module: what = 0 ports, 1 nets, 2 bits, 3 assigns, 4 instances, 5 how many");
        NetlistForms forms = forms();
        int[][] due = {{2, 3, 12, 2, 4, 1}, {2, 2, 11, 0, 0, 0}};
        for (int k = 0; k < 2; k++) {
            for (int what = 0; what < 6; what++) {
                Check.same("module(" + k + ", " + what + ")", forms.module(k, what), due[k][what]);
            }
        }
        Check.range("module", 2, k -> forms.module(k, 0));
        Check.range("what of module", 6, what -> forms.module(0, what));
        NetlistForms empty = Check.of(S, "m x;e;");
        for (int what = 0; what < 6; what++) {
            Check.same("an empty module's " + what, empty.module(0, what), 0);
        }
    }

    private static void below() {
        Check.sentence("Promise 5", "5 how many modules lie in one another below it at most (boxes are none)");
        for (int many = 1; many <= 8; many++) {
            NetlistForms first = Check.of(S, chain(many, true));
            NetlistForms last = Check.of(S, chain(many, false));
            for (int k = 0; k < many; k++) {
                Check.same("below " + k + " of " + many, first.module(k, 5), many - 1 - k);
                Check.same("below " + k + " of " + many + ", told the other way", last.module(k, 5), k);
            }
        }
        Check.same("boxes alone", Check.of(S, "m x;u y i;u y j;e;").module(0, 5), 0);
        Check.same("the same one twice", Check.of(S, "m x;u y i;u y j;e;m y;e;").module(0, 5), 1);
        Check.same("two side by side", Check.of(S, "m x;u y i;u z j;e;m y;e;m z;e;").module(0, 5), 1);
        NetlistForms uneven = Check.of(S, "m x;u a i;u c j;u a k;e;m a;e;m b;u a i;e;m c;u b i;u a j;e;");
        Check.same("the deepest counts", uneven.module(0, 5), 3);
    }

    private static String chain(int many, boolean forward) {
        StringBuilder text = new StringBuilder();
        for (int n = 0; n < many; n++) {
            int k = forward ? n : many - 1 - n;
            text.append("m ").append((char) ('a' + k)).append(';');
            text.append(k == many - 1 ? "u box i;e;" : "u " + (char) ('a' + k + 1) + " i;e;");
        }
        return text.toString();
    }

    private static void nets() {
        Check.sentence("Promise 6",
            "Of a net: what = 0 its sort (0 input, 1 output, 2 wire), 1 its width, 2 its first bit.");
        NetlistForms forms = forms();
        int[][] due = {{0, 8, 0}, {1, 1, 8}, {2, 3, 9}};
        for (int k = 0; k < 3; k++) {
            for (int what = 0; what < 3; what++) {
                Check.same("net(0, " + k + ", " + what + ")", forms.net(0, k, what), due[k][what]);
            }
        }
        Check.range("net's module", 2, k -> forms.net(k, 0, 0));
        Check.range("net of the first", 3, k -> forms.net(0, k, 0));
        Check.range("net of the second", 2, k -> forms.net(1, k, 0));
        Check.range("what of net", 3, what -> forms.net(0, 0, what));
        NetlistForms empty = Check.of(S, "m x;e;");
        Check.range("net of none", 0, k -> empty.net(0, k, 0));
    }

    private static void instances() {
        Check.sentence("Promise 7", "what = 0 its module (NONE: a box), 1 how many pins it has (a box: its links)");
        NetlistForms forms = forms();
        int[] of = {1, 1, NONE, NONE};
        int[] pins = {2, 2, 4, 0};
        for (int k = 0; k < 4; k++) {
            Check.same("instance(0, " + k + ", 0)", forms.instance(0, k, 0), of[k]);
            Check.same("instance(0, " + k + ", 1)", forms.instance(0, k, 1), pins[k]);
        }
        Check.range("instance's module", 1, k -> forms.instance(k, 0, 0));
        Check.range("instance", 4, k -> forms.instance(0, k, 0));
        Check.range("what of instance", 4, what -> forms.instance(0, 0, what));
        // By name a module's pins are its ports, whether they are linked or not; a box's are its links.
        NetlistForms named = Check.of(L, "module x();y a(.q());z b(.q());end module y(p,q,r);input p,q,r;end");
        Check.same("a module's pins", named.instance(0, 0, 1), 3);
        Check.same("a box's pins", named.instance(0, 1, 1), 1);
        NetlistForms bare = Check.of(S, "m x;u y z;e;m y;w w 1;e;");
        Check.same("pins of a module without ports", bare.instance(0, 0, 1), 0);
    }

    private static void placesOfNames() {
        Check.sentence("Promise 7", "2 the place of its name in the text that was read");
        NetlistForms forms = forms();
        String[] names = {"l1", "l2", "k1", "k2"};
        for (int k = 0; k < 4; k++) {
            Check.same("place of " + names[k], forms.instance(0, k, 2), TEXT.indexOf(names[k]));
        }
        Check.same("the first place", Check.of(S, "m x;u y z;e;").instance(0, 0, 2), 8);
        Check.same("a late place", Check.of(S, "m x;u y" + " ".repeat(989) + "z;e;").instance(0, 0, 2), 996);
        NetlistForms second = Check.of(L, "// of\n\nmodule x();end\nmodule t();of//\nof\n();end");
        Check.same("behind lines and comments", second.instance(1, 0, 2), 38);
        Check.same("a fault", Check.read(second, S, "m x;u  y z;"), -1 - 11);
        Check.same("the place stays", second.instance(1, 0, 2), 38);
    }

    private static void byName() {
        Check.sentence("Promise 7", "3 whether its links are by name (1)");
        NetlistForms forms = Check.of(L,
            "module x();y a(.p());y b(-);z c();z d(.p());z e(-);end module y(p);input p;end");
        int[] due = {1, 0, 0, 1, 0};
        for (int k = 0; k < due.length; k++) {
            Check.same("instance(0, " + k + ", 3)", forms.instance(0, k, 3), due[k]);
        }
        Check.same("in a short text", forms().instance(0, 0, 3), 0);
    }

    private static void pin(NetlistForms forms, int instance, int pin, int... due) {
        String what = "joined(0, " + instance + ", " + pin + ", ";
        for (int bit = 0; bit < due.length; bit++) {
            Check.same(what + bit + ")", forms.joined(0, instance, pin, bit), due[bit]);
        }
        Check.range(what + "bit", due.length, bit -> forms.joined(0, instance, pin, bit));
    }

    private static void pinsOfModules() {
        Check.sentence("Promise 8", "NONE: it is open. IndexOutOfBoundsException: also a bit above the pin's width");
        NetlistForms forms = forms();
        pin(forms, 0, 0, 0, 1, 2, 3, 4, 5, 6, 7);
        pin(forms, 0, 1, 9, 10, 11);
        pin(forms, 1, 0, NONE, NONE, NONE, NONE, NONE, NONE, NONE, NONE);
        pin(forms, 1, 1, NONE, NONE, NONE);
        Check.range("joined's module", 1, k -> forms.joined(k, 0, 0, 0));
        for (int wrong : new int[] {-1, 4, 5, Integer.MIN_VALUE, Integer.MAX_VALUE}) {
            Check.refused("joined's instance " + wrong, () -> forms.joined(0, wrong, 0, 0));
        }
        Check.range("joined's pin", 2, k -> forms.joined(0, 0, k, 0));
    }

    private static void pinsOfBoxes() {
        Check.sentence("Promise 8", "(a box's: the link's, 1 if that is open)");
        NetlistForms forms = forms();
        pin(forms, 2, 0, 1, 2, 3, 4, 5, 6);
        pin(forms, 2, 1, NONE);
        pin(forms, 2, 2, ONE, ZERO);
        pin(forms, 2, 3, 8);
        Check.range("a box's pin", 4, k -> forms.joined(0, 2, k, 0));
        Check.range("pin of a box without links", 0, k -> forms.joined(0, 3, k, 0));
        NetlistForms named = Check.of(L, "module x();wire [7:0] a;y z(.p(),.q(a),.r(7'b1000000));end");
        pin(named, 0, 0, NONE);
        pin(named, 0, 1, 0, 1, 2, 3, 4, 5, 6, 7);
        pin(named, 0, 2, ZERO, ZERO, ZERO, ZERO, ZERO, ZERO, ONE);
    }

    private static void pinsByName() {
        Check.sentence("Promise 8", "(pins by ports, a box's by links): ZERO and ONE: a constant's");
        NetlistForms forms = Check.of(L, "module x();wire [1:0] a;wire b;y i(.r(2'b01),.p(a));z j(.r(2'b01),.p(a));end "
            + "module y(p,q,r);output [1:0] r;input [2:0] q;input [1:0] p;end");
        pin(forms, 0, 0, 0, 1);
        pin(forms, 0, 1, NONE, NONE, NONE);
        pin(forms, 0, 2, ONE, ZERO);
        Check.range("pin by name", 3, k -> forms.joined(0, 0, k, 0));
        pin(forms, 1, 0, ONE, ZERO);
        pin(forms, 1, 1, 0, 1);
        Check.range("a box's pin by name", 2, k -> forms.joined(0, 1, k, 0));
    }

    private static void side(NetlistForms forms, int k, int side, int... due) {
        String what = "assign(0, " + k + ", " + side + ", ";
        for (int bit = 0; bit < due.length; bit++) {
            Check.same(what + bit + ")", forms.assign(0, k, side, bit), due[bit]);
        }
        Check.range(what + "bit", due.length, bit -> forms.assign(0, k, side, bit));
    }

    private static void assigns() {
        Check.sentence("Promise 9", "A bit of a side (0 the first, 1 the second) of an assign, as joined().");
        NetlistForms forms = forms();
        side(forms, 0, 0, 8);
        side(forms, 0, 1, 10);
        side(forms, 1, 0, 9, 10, 11);
        side(forms, 1, 1, ZERO, ONE, ONE);
        Check.range("assign's module", 1, k -> forms.assign(k, 0, 0, 0));
        Check.range("assign", 2, k -> forms.assign(0, k, 0, 0));
        Check.range("side", 2, side -> forms.assign(0, 0, side, 0));
        NetlistForms full = Check.of(S, "m x;w w 8;" + "a w w;".repeat(8) + "e;");
        Check.range("one of 8 assigns", 8, k -> full.assign(0, k, 1, 7));
        side(full, 7, 0, 0, 1, 2, 3, 4, 5, 6, 7);
        side(full, 7, 1, 0, 1, 2, 3, 4, 5, 6, 7);
    }

    private static void letters() {
        Check.sentence("Promise 10", "Character i of a name: sort 0 of module a (b is not asked), 1 of net b of "
            + "module a, 2 of instance b, 3 of what that is of");
        NetlistForms forms = forms();
        Check.same("module 0", Check.name(forms, 0, 0, 0), "top");
        Check.same("module 1", Check.name(forms, 0, 1, 0), "leaf");
        Check.same("net 2", Check.name(forms, 1, 0, 2), "w");
        Check.same("net 1 of module 1", Check.name(forms, 1, 1, 1), "q");
        Check.same("instance 3", Check.name(forms, 2, 0, 3), "k2");
        Check.same("what instance 3 is of", Check.name(forms, 3, 0, 3), "box");
        Check.same("what instance 0 is of", Check.name(forms, 3, 0, 0), "leaf");
        Check.range("sort", 4, sort -> forms.letter(sort, 0, 0, 0));
        Check.range("module", 2, a -> forms.letter(0, a, 0, 0));
        Check.range("module of net", 2, a -> forms.letter(1, a, 0, 0));
        Check.range("net", 3, b -> forms.letter(1, 0, b, 0));
        Check.range("module of instance", 1, a -> forms.letter(2, a, 0, 0));
        Check.range("instance", 4, b -> forms.letter(2, 0, b, 0));
        Check.range("module of what", 1, a -> forms.letter(3, a, 0, 0));
        Check.range("what an instance is of", 4, b -> forms.letter(3, 0, b, 0));
    }

    private static void lettersWithoutB() {
        Check.sentence("Promise 10", "(b is not asked)");
        NetlistForms forms = forms();
        for (int b : new int[] {-1, 0, 1, 3, 16, Integer.MIN_VALUE, Integer.MAX_VALUE}) {
            Check.same("letter(0, 1, " + b + ", 3)", forms.letter(0, 1, b, 3), (int) 'f');
            Check.same("letter(0, 1, " + b + ", 4)", forms.letter(0, 1, b, 4), NONE);
        }
        Check.refused("module 2", () -> forms.letter(0, 2, 0, 0));
    }

    private static void lettersBehindTheName() {
        Check.sentence("Promise 10", "NONE behind it. IndexOutOfBoundsException: also i is below 0, or no such sort.");
        String[] names = {"n", "n2", "n2345678"};
        for (String name : names) {
            NetlistForms forms = Check.of(S, "m x;w # 1;u # #;e;m #;e;".replace("#", name));
            int[][] asked = {{0, 1, 0}, {1, 0, 0}, {2, 0, 0}, {3, 0, 0}};
            for (int[] a : asked) {
                for (int i = 0; i < name.length(); i++) {
                    Check.same("letter " + i, forms.letter(a[0], a[1], a[2], i), (int) name.charAt(i));
                }
                for (int i : new int[] {name.length(), 8, 9, 16, 64, 1 << 28, 1 << 29, 1 << 30, Integer.MAX_VALUE}) {
                    Check.same("letter " + i, forms.letter(a[0], a[1], a[2], i), NONE);
                }
                for (int i : new int[] {-1, -8, Integer.MIN_VALUE}) {
                    Check.refused("letter " + i, () -> forms.letter(a[0], a[1], a[2], i));
                }
            }
        }
    }

    private static void noSuch() {
        Check.sentence("Terms", "IndexOutOfBoundsException: there is no such form, module, net, instance, pin, bit, "
            + "assign, side, place or what.");
        NetlistForms forms = forms();
        Check.range("form of write", 2, form -> forms.write(form, 0));
        Check.range("what of count", 2, what -> forms.count(what));
        // A number that is there in one module is not there in another.
        Check.refused("net 2 of module 1", () -> forms.net(1, 2, 0));
        Check.refused("instance 0 of module 1", () -> forms.instance(1, 0, 0));
        Check.refused("assign 0 of module 1", () -> forms.assign(1, 0, 0, 0));
        Check.refused("pin 0 of instance 3", () -> forms.joined(0, 3, 0, 0));
        Check.refused("pin 2 of instance 0", () -> forms.joined(0, 0, 2, 0));
        Check.refused("bit 3 of pin 1", () -> forms.joined(0, 0, 1, 3));
        // Wrong in one number is wrong, however right the others are; wrong in all too.
        Check.refused("joined(-1, -1, -1, -1)", () -> forms.joined(-1, -1, -1, -1));
        Check.refused("assign(-1, -1, -1, -1)", () -> forms.assign(-1, -1, -1, -1));
        Check.refused("letter(-1, -1, -1, -1)", () -> forms.letter(-1, -1, -1, -1));
        Check.refused("letter(0, 2, 0, -1)", () -> forms.letter(0, 2, 0, -1));
        Check.refused("write(2, -1)", () -> forms.write(2, -1));
    }

    private static void fullNumbers() {
        Check.sentence("Terms", "there is no such form, module, net, instance, pin");
        NetlistForms modules = Check.of(S, Check.rows(8, "m #;e;"));
        Check.range("one of 8 modules", 8, k -> modules.module(k, 0));
        NetlistForms nets = Check.of(S, "m x;" + Check.rows(16, "w # 1;") + "e;");
        Check.range("one of 16 nets", 16, k -> nets.net(0, k, 0));
        Check.range("letter of one of 16 nets", 16, k -> nets.letter(1, 0, k, 0));
        NetlistForms instances = Check.of(S, "m x;" + Check.rows(12, "u y #;") + "e;");
        Check.range("one of 12 instances", 12, k -> instances.instance(0, k, 0));
        Check.range("letter of one of 12 instances", 12, k -> instances.letter(2, 0, k, 0));
        NetlistForms pins = Check.of(S, "m x;u y z" + "-".repeat(16) + ";e;");
        Check.range("one of 16 pins", 16, k -> pins.joined(0, 0, k, 0));
        NetlistForms ports = Check.of(S, "m x;u y z" + "-".repeat(16) + ";e;m y;" + Check.rows(16, "i # 1;") + "e;");
        Check.range("one of 16 ports", 16, k -> ports.joined(0, 0, k, 0));
    }

    private static void changesNothing() {
        Check.sentence("Terms", "A call that throws changes nothing.");
        NetlistForms forms = Check.of(S, "m x;w a 2;a a a;u y z a;e;");
        Check.put(forms, "m q;e");
        for (int wrong : new int[] {-1, 99, Integer.MIN_VALUE, Integer.MAX_VALUE}) {
            Check.refused("read", () -> forms.read(wrong));
            Check.refused("module", () -> forms.module(wrong, wrong));
            Check.refused("net", () -> forms.net(wrong, wrong, wrong));
            Check.refused("instance", () -> forms.instance(wrong, wrong, wrong));
            Check.refused("joined", () -> forms.joined(wrong, wrong, wrong, wrong));
            Check.refused("assign", () -> forms.assign(wrong, wrong, wrong, wrong));
            Check.refused("letter", () -> forms.letter(wrong, wrong, wrong, wrong));
            Check.refused("write", () -> forms.write(wrong, wrong));
            Check.refused("count", () -> forms.count(wrong));
        }
        Check.same("characters on the tape", forms.count(1), 5);
        Check.same("modules", forms.count(0), 1);
        String due = "m x;\nw a 2;\na a a;\nu y z a;\ne;\n";
        for (int i = 0; i < due.length(); i++) {
            Check.same("write(1, " + i + ")", forms.write(S, i), (int) due.charAt(i));
        }
        Check.same("write behind", forms.write(S, due.length()), NONE);
        forms.unit(';');
        Check.same("the tape as it was", forms.read(S), 1);
        Check.same("its module", Check.name(forms, 0, 0, 0), "q");
    }
}
