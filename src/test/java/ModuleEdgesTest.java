/** The sentences on what a module may have, and their edges: "Terms", 3 MODULES. */
public final class ModuleEdgesTest {
    private static final int L = Check.LONG;
    private static final int S = Check.SHORT;
    private static final String LAST = "z";

    public static void main(String[] args) {
        orderOfPorts();
        netsOfLongText();
        netsOfShortText();
        netsOfEachModule();
        bits();
        instances();
        links();
        assigns();
        allModulesFull();
        moduleOrBox();
        Check.end("ModuleEdgesTest");
    }

    private static String netNames(NetlistForms forms, int module) {
        StringBuilder names = new StringBuilder();
        for (int k = 0; k < forms.module(module, 1); k++) {
            names.append(Check.name(forms, 1, module, k));
        }
        return names.toString();
    }

    private static void orderOfPorts() {
        Check.sentence("Modules", "PORTS are the inputs and outputs, in the order of the list (long) "
            + "or as they come (short)");
        NetlistForms forms = Check.of(L, "module x(a,b,c,d);wire f;output d;input c;wire e;output b;input a;end");
        Check.same("ports", forms.module(0, 0), 4);
        Check.same("names", netNames(forms, 0), "abcdfe");
        NetlistForms brief = Check.of(S, "m x;w f 1;o d 1;i c 1;w e 1;o b 1;i a 1;e;");
        Check.same("ports", brief.module(0, 0), 4);
        Check.same("names", netNames(brief, 0), "dcbafe");
        Check.same("no ports", Check.of(S, "m x;w f 1;e;").module(0, 0), 0);
        Check.same("no ports", Check.of(L, "module x();wire f;end").module(0, 0), 0);
    }

    private static void netsOfLongText() {
        Check.sentence("Modules", "NETS are the ports, and then the wires as they come: 16 of a module at most");
        for (int ports = 0; ports <= 16; ports++) {
            String list = Check.list(ports, "#");
            String head = "module x(" + list + ");" + (ports == 0 ? "" : "input " + list + ";");
            String wires = Check.rows(16 - ports, "wire w#;");
            NetlistForms forms = Check.of(L, head + wires + "end");
            Check.same("ports", forms.module(0, 0), ports);
            Check.same("nets", forms.module(0, 1), 16);
            Check.fault(L, head + wires + "wire @" + LAST + ";end");
            Check.fault(L, "module x(" + list + ");" + wires + "wire @" + LAST + ";end");
        }
        Check.good(L, 1, "module x();wire " + Check.list(16, "#") + ";end");
        Check.fault(L, "module x();wire " + Check.list(16, "#") + ",@" + LAST + ";end");
        Check.fault(L, "module x(" + Check.list(16, "#") + ",@" + LAST + ");end");
        Check.fault(L, "module x(" + Check.list(16, "#") + ",@a);end");
    }

    private static void netsOfShortText() {
        Check.sentence("Modules", "NETS are the ports, and then the wires as they come: 16 of a module at most");
        String[] sorts = {"i", "o", "w"};
        for (String sort : sorts) {
            String full = "m x;" + Check.rows(16, sort + " # 8;");
            Check.good(S, 1, full + "e;");
            for (String more : sorts) {
                Check.fault(S, full + more + " @" + LAST + " 1;e;");
                Check.fault(S, full + more + " @a 1;e;");
            }
        }
        String mixed = "m x;" + Check.rows(5, "w v# 1;o o# 2;i i# 3;");
        Check.same("nets", Check.of(S, mixed + "o p 1;e;").module(0, 1), 16);
        for (String more : sorts) {
            Check.fault(S, mixed + "w p 1;" + more + " @q 1;e;");
        }
    }

    private static void netsOfEachModule() {
        Check.sentence("Modules", "16 of a module at most");
        String nets = Check.rows(16, "w # 1;");
        NetlistForms forms = Check.of(S, "m x;" + nets + "e;m y;" + nets + "e;");
        Check.same("nets of the first", forms.module(0, 1), 16);
        Check.same("nets of the second", forms.module(1, 1), 16);
        Check.fault(S, "m x;" + nets + "e;m y;" + nets + "i @z 1;e;");
    }

    private static void bits() {
        Check.sentence("Modules", "the BITS of a module are numbered net by net, each from its bit 0 on");
        String nets = Check.rows(16, "w # 8;");
        NetlistForms forms = Check.of(S, "m x;" + nets + "u y z p o a p.7 a.0;e;m y2;" + nets + "e;m none;e;");
        for (int module = 0; module < 2; module++) {
            Check.same("bits", forms.module(module, 2), 128);
            for (int k = 0; k < 16; k++) {
                Check.same("first bit of " + k, forms.net(module, k, 2), 8 * k);
            }
        }
        Check.same("bits of none", forms.module(2, 2), 0);
        Check.same("last bit", forms.joined(0, 0, 0, 7), 127);
        Check.same("first of the last net", forms.joined(0, 0, 0, 0), 120);
        Check.same("last of the net before", forms.joined(0, 0, 1, 7), 119);
        Check.same("first bit", forms.joined(0, 0, 2, 0), 0);
        Check.same("last bit alone", forms.joined(0, 0, 3, 0), 127);
        Check.same("first bit alone", forms.joined(0, 0, 4, 0), 0);
        // The ports' bits come first, though the wire was told before them.
        NetlistForms late = Check.of(S, "m x;w w 8;o o 1;i i 2;e;");
        Check.same("the wire's first bit", late.net(0, 2, 2), 3);
        Check.same("the second port's", late.net(0, 1, 2), 1);
    }

    private static void instances() {
        Check.sentence("Modules", "INSTANCES 12 at most");
        String longs = Check.rows(12, "y #();");
        String shorts = Check.rows(12, "u y #;");
        NetlistForms forms = Check.of(L, "module x();" + longs + "end module x2();" + longs + "end");
        Check.same("instances", forms.module(0, 4), 12);
        Check.same("instances of the second", forms.module(1, 4), 12);
        Check.fault(L, "module x();" + longs + "y @z();end");
        Check.fault(L, "module x();end module x2();" + longs + "y @z();end");
        Check.same("instances", Check.of(S, "m x;" + shorts + "e;").module(0, 4), 12);
        Check.fault(S, "m x;" + shorts + "u y @z;e;");
        Check.fault(S, "m x;" + shorts + "e;m x2;" + shorts + "u y @z;e;");
        Check.same("none", Check.of(S, "m x;e;").module(0, 4), 0);
    }

    private static void links() {
        Check.sentence("Modules", "with 16 links each at most");
        String ordered = "-" + ",-".repeat(15);
        String named = Check.list(16, ".#()");
        String open = "-".repeat(16);
        NetlistForms forms = Check.of(L, "module x();y a(" + ordered + ");y b(" + named + ");end");
        Check.same("links by order", forms.instance(0, 0, 1), 16);
        Check.same("links by name", forms.instance(0, 1, 1), 16);
        Check.same("the last by order", forms.joined(0, 0, 15, 0), NetlistForms.NONE);
        Check.same("the last by name", forms.joined(0, 1, 15, 0), NetlistForms.NONE);
        Check.fault(L, "module x();y a(" + ordered + ",@-);end");
        Check.fault(L, "module x();wire w;y a(" + ordered + ",@w);end");
        Check.fault(L, "module x();y a(" + ordered + ",@1'b0);end");
        Check.fault(L, "module x();y a(" + named + ",@.z());end");
        Check.fault(L, "module x();y a(" + named + ");y b(" + named + ",@.z());end");
        NetlistForms brief = Check.of(S, "m x;" + Check.rows(12, "u y #" + open + ";") + "e;");
        for (int k = 0; k < 12; k++) {
            Check.same("links of instance " + k, brief.instance(0, k, 1), 16);
        }
        Check.fault(S, "m x;u y z" + open + "@-;e;");
        Check.fault(S, "m x;u y z" + open + "@'b0;e;");
        Check.fault(S, "m x;w w 1;u y z" + open + " @w;e;");
        Check.fault(S, "m x;u y z" + open + ";u y t" + open + "@-;e;");
        // A module with 16 ports is linked as a whole, by order and by name.
        String ports = "module y(" + Check.list(16, "#") + ");output " + Check.list(16, "#") + ";end ";
        Check.good(L, 2, ports + "module x();y a(" + ordered + ");y b(" + named + ");end");
    }

    private static void assigns() {
        Check.sentence("Modules", "ASSIGNS 8 at most, of a module");
        String longs = "assign a=a;".repeat(8);
        String shorts = "a a a;".repeat(8);
        NetlistForms forms = Check.of(L, "module x();wire a;" + longs + "end module y();wire a;" + longs + "end");
        Check.same("assigns", forms.module(0, 3), 8);
        Check.same("assigns of the second", forms.module(1, 3), 8);
        Check.same("the last", forms.assign(1, 7, 1, 0), 0);
        Check.fault(L, "module x();wire a;" + longs + "@assign a=a;end");
        Check.fault(L, "module x();wire a;end module y();wire a;" + longs + "@assign a=a;end");
        Check.same("assigns", Check.of(S, "m x;w a 1;" + shorts + "e;").module(0, 3), 8);
        Check.fault(S, "m x;w a 1;" + shorts + "@a a a;e;");
        Check.fault(S, "m x;w a 1;" + shorts + "e;m y;w a 1;" + shorts + "@a a a;e;");
        Check.same("none", Check.of(S, "m x;e;").module(0, 3), 0);
    }

    private static NetlistForms eight(String items) {
        StringBuilder text = new StringBuilder();
        for (int k = 0; k < 8; k++) {
            text.append("m m").append(k).append(';').append(items).append("e;");
        }
        return Check.of(S, text.toString());
    }

    private static void allModulesFull() {
        Check.sentence("Modules", "of a module.");
        String[] items = {Check.rows(16, "i # 8;"), Check.rows(16, "w # 8;"), "w a 1;" + "a a a;".repeat(8),
            Check.rows(12, "u y #;")};
        int[] what = {0, 1, 3, 4};
        int[] due = {16, 16, 8, 12};
        for (int k = 0; k < items.length; k++) {
            NetlistForms forms = eight(items[k]);
            Check.same("modules", forms.count(0), 8);
            for (int module = 0; module < 8; module++) {
                Check.same("module(" + module + ", " + what[k] + ")", forms.module(module, what[k]), due[k]);
            }
        }
    }

    private static void moduleOrBox() {
        Check.sentence("Modules", "An instance is of the MODULE of that name in the text, wherever that is, or, "
            + "if there is none, a BOX.");
        NetlistForms forms = Check.of(S, "m a;e;m ab;u a i;u h j;u b k;u ac l;e;m c;e;m d;e;m e;e;m f;e;m g;e;m h;e;");
        int[] due = {0, 7, NetlistForms.NONE, NetlistForms.NONE};
        for (int k = 0; k < due.length; k++) {
            Check.same("what instance " + k + " is of", forms.instance(1, k, 0), due[k]);
        }
        NetlistForms full = Check.of(S, "m abcdefgh;e;m x;u abcdefgi i;u abcdefg j;u abcdefgh k;e;");
        Check.same("another last letter", full.instance(1, 0, 0), NetlistForms.NONE);
        Check.same("a letter less", full.instance(1, 1, 0), NetlistForms.NONE);
        Check.same("all letters", full.instance(1, 2, 0), 0);
        // The modules of a text before are none of this text.
        Check.same("a text without the module", Check.read(full, S, "m x;u abcdefgh i;e;"), 1);
        Check.same("now a box", full.instance(0, 0, 0), NetlistForms.NONE);
    }
}
