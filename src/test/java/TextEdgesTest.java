/** The sentences of the two grammars and their edges: "Terms", 2 THE LONG TEXT and THE SHORT TEXT. */
public final class TextEdgesTest {
    private static final int L = Check.LONG;
    private static final int S = Check.SHORT;
    private static final String[] SORTS = {"input", "output", "wire"};
    private static final String[] SHORT_SORTS = {"i", "o", "w"};
    private static final String DIGITS = "10110101";

    public static void main(String[] args) {
        modulesOfLongText();
        portsOfLongText();
        namesOfItems();
        ranges();
        links();
        openLinks();
        widthsOfConstants();
        digitsOfConstants();
        highestBitFirst();
        modulesOfShortText();
        widthsOfShortText();
        linksOfShortText();
        partsOfBothTexts();
        digitsOfShortText();
        Check.end("TextEdgesTest");
    }

    private static void modulesOfLongText() {
        Check.sentence("The long text", "modules, one behind the other (8 at most), none perhaps");
        for (int many = 0; many <= 8; many++) {
            Check.good(L, many, Check.rows(many, "module #();end "));
        }
        Check.fault(L, Check.rows(8, "module #();end ") + "module @z();end");
        Check.fault(L, Check.rows(8, "module #();end ") + "@;");
        Check.fault(L, "module x();end @,module y();end");
    }

    private static void portsOfLongText() {
        Check.sentence("The long text", "ports: none, or names with , between");
        Check.good(L, 1, "module x();end");
        Check.good(L, 1, "module x(a);input a;end");
        Check.good(L, 1, "module x(a,b);input a,b;end");
        Check.fault(L, "module x(@,);end");
        Check.fault(L, "module x(@,a);end");
        Check.fault(L, "module x(a,@);end");
        Check.fault(L, "module x(a,@,b);end");
        Check.fault(L, "module x(a @b);end");
        Check.fault(L, "module x@;end");
    }

    private static void namesOfItems() {
        Check.sentence("The long text", "input range names ;   output range names ;   wire range names ;     "
            + "(names with , between)");
        for (String sort : SORTS) {
            String head = "module x(" + (sort.equals("wire") ? "" : "a,b") + ");" + sort;
            Check.good(L, 1, head + " a,b;end");
            Check.fault(L, head + " @;end");
            Check.fault(L, head + " @,a;end");
            Check.fault(L, head + " a,@;end");
            Check.fault(L, head + " a @b;end");
            Check.fault(L, head + " a,b @end");
            Check.fault(L, head + "[1:0] @;end");
        }
    }

    private static String withRange(String sort, String range) {
        return "module x(" + (sort.equals("wire") ? "" : "a") + ");" + sort + " " + range + " a;end";
    }

    private static void ranges() {
        Check.sentence("The long text",
            "range:   nothing, or [ A : 0 ]: A is 0 .. 7, the WIDTH is A + 1; without it 1");
        for (String sort : SORTS) {
            Check.same("width without a range", Check.of(L, withRange(sort, "")).net(0, 0, 1), 1);
            for (int a = 0; a <= 7; a++) {
                Check.same("width of [" + a + ":0]", Check.of(L, withRange(sort, "[" + a + ":0]")).net(0, 0, 1), a + 1);
            }
            Check.fault(L, withRange(sort, "[@8:0]"));
            Check.fault(L, withRange(sort, "[@9:0]"));
            Check.fault(L, withRange(sort, "[@10:0]"));
            Check.fault(L, withRange(sort, "[@99:0]"));
            Check.fault(L, withRange(sort, "[@-1:0]"));
            Check.fault(L, withRange(sort, "[0:@1]"));
            Check.fault(L, withRange(sort, "[7:@1]"));
            Check.fault(L, withRange(sort, "[7:@7]"));
            Check.fault(L, withRange(sort, "[7@]"));
            Check.fault(L, withRange(sort, "[@]"));
        }
    }

    private static void links() {
        Check.sentence("The long text",
            "nothing; or R or - (open) with , between (BY ORDER); or . P ( R ) or . P ( ) with , between (BY NAME)");
        String head = "module x();wire a;y z";
        int[] many = {0, 1, 1, 2, 1, 1, 2};
        int[] byName = {0, 0, 0, 0, 1, 1, 1};
        String[] good = {"()", "(a)", "(-)", "(-,a)", "(.p(a))", "(.p())", "(.p(),.q(a))"};
        for (int k = 0; k < good.length; k++) {
            NetlistForms forms = Check.of(L, head + good[k] + ";end");
            Check.same("links of " + good[k], forms.instance(0, 0, 1), many[k]);
            Check.same("by name of " + good[k], forms.instance(0, 0, 3), byName[k]);
        }
        for (String bad : new String[] {"(@,)", "(@,a)", "(a,@)", "(-,@)", "(a@-)", "(-@a)", "(a,@.p(a))", "(-,@.p())",
            "(.p(),@a)", "(.p(),@-)", "(.p(),@)", "(.p()@.q())", "(.@())", "(.@-())", "(.p(@-))", "(.p(@.q()))",
            "(.p(a@,a))", "(.p@)", "(.p@,.q())"}) {
            Check.fault(L, head + bad + ";end");
        }
    }

    private static void openLinks() {
        Check.sentence("The long text", "R or - (open)");
        NetlistForms forms = Check.of(L, "module x();wire a;y z(-,a);y t(.p(),.q(a));end");
        for (int k = 0; k < 2; k++) {
            Check.same("open", forms.joined(0, k, 0, 0), NetlistForms.NONE);
            Check.same("not open", forms.joined(0, k, 1, 0), 0);
        }
        Check.fault(L, "module x();wire a;assign a=@-;end");
        Check.fault(L, "module x();wire a;assign @-=a;end");
    }

    private static void widthsOfConstants() {
        Check.sentence("The long text", "a CONSTANT: A is 1 .. 7 (else it cannot stand)");
        String head = "module x();wire [7:0] w;y z(";
        for (int a = 1; a <= 7; a++) {
            NetlistForms forms = Check.of(L, head + a + "'b" + DIGITS.substring(0, a) + ");end");
            Check.same("a bit of " + a, forms.joined(0, 0, 0, a - 1), NetlistForms.ONE);
            Check.refused("a bit above " + a, () -> forms.joined(0, 0, 0, 7));
        }
        for (String wrong : new String[] {"@0'b", "@0'b0", "@00'b0", "@8'b10101010", "@8'b0000000", "@9'b0", "@10'b0",
            "@99'b0", "@001'b0", "@'b0", "-@1'b0"}) {
            Check.fault(L, head + wrong + ");end");
        }
        Check.fault(L, "module x();wire a;assign @0'b0=a;end");
        Check.fault(L, "module x();wire a;assign @8'b0=a;end");
        Check.fault(L, "module x();wire a;assign a=@0'b0;end");
        Check.fault(L, "module x();wire a;assign a=@8'b0;end");
        Check.fault(L, "module x();wire a;y z(.p(@0'b0));end");
        Check.fault(L, "module x();wire a;y z(.p(@8'b0));end");
    }

    private static void digitsOfConstants() {
        Check.sentence("The long text", "K a name of b and just A digits 0 or 1");
        String head = "module x();y z(";
        for (int a = 1; a <= 7; a++) {
            Check.fault(L, head + a + "'@b" + DIGITS.substring(0, a - 1) + ");end");
            Check.fault(L, head + a + "'@b" + DIGITS.substring(0, a + 1) + ");end");
            for (int place = 0; place < a; place++) {
                for (char wrong : "29_abO".toCharArray()) {
                    String digits = DIGITS.substring(0, place) + wrong + DIGITS.substring(place + 1, a);
                    Check.fault(L, head + a + "'@b" + digits + ");end");
                }
            }
        }
        Check.fault(L, head + "1'@B0);end");
        Check.fault(L, head + "1'@a0);end");
        Check.fault(L, head + "1'@c0);end");
        Check.fault(L, head + "1'@0);end");
        Check.fault(L, head + "1'@);end");
        Check.fault(L, head + "1'@b 0);end");
        Check.fault(L, head + "1'@'b0);end");
    }

    private static void bits(NetlistForms forms, String digits) {
        for (int bit = 0; bit < digits.length(); bit++) {
            int due = digits.charAt(digits.length() - 1 - bit) == '1' ? NetlistForms.ONE : NetlistForms.ZERO;
            Check.same("bit " + bit + " of " + digits, forms.joined(0, 0, 0, bit), due);
        }
        Check.refused("a bit behind " + digits, () -> forms.joined(0, 0, 0, digits.length()));
    }

    private static void highestBitFirst() {
        Check.sentence("The long text", "the highest bit first");
        for (String digits : new String[] {"0", "1", "10", "01", "1000000", "0000001", "1111110", "0111111"}) {
            bits(Check.of(L, "module x();y z(" + digits.length() + "'b" + digits + ");end"), digits);
            bits(Check.of(S, "m x;u y z 'b" + digits + ";e;"), digits);
        }
    }

    private static void modulesOfShortText() {
        Check.sentence("The short text", "text:    m N ; items e ;       one behind the other");
        for (int many = 0; many <= 8; many++) {
            Check.good(S, many, Check.rows(many, "m #;e;"));
        }
        Check.fault(S, Check.rows(8, "m #;e;") + "m @z;e;");
        Check.fault(S, "m x;@m y;e;e;");
        Check.fault(S, "m x;e;@e;");
        Check.fault(S, "m x;e@");
        Check.fault(S, "m x;e @m y;e;");
        Check.fault(S, "m x@(a);e;");
        Check.fault(S, "@module x();end");
        Check.fault(L, "@m x;e;");
    }

    private static void widthsOfShortText() {
        Check.sentence("The short text", "i N A ;   o N A ;   w N A ;    an input, output, wire of width A (1 .. 8)");
        for (int sort = 0; sort < 3; sort++) {
            String head = "m x;" + SHORT_SORTS[sort] + " a ";
            for (int width = 1; width <= 8; width++) {
                NetlistForms forms = Check.of(S, head + width + ";e;");
                Check.same("sort", forms.net(0, 0, 0), sort);
                Check.same("width", forms.net(0, 0, 1), width);
            }
            for (String wrong : new String[] {"0", "00", "9", "10", "18", "99", "001", "-1", "", "a"}) {
                Check.fault(S, head + "@" + wrong + ";e;");
            }
            Check.fault(S, head + "1 @1;e;");
            Check.fault(S, head + "1@,b 1;e;");
        }
    }

    private static void linksOfShortText() {
        Check.sentence("The short text", "links: R or - (open), none perhaps, by order");
        String head = "m x;w a 1;u y z";
        String[] good = {"", " a", " -", " a -", "--", " - a 'b1 a.0 a.0.0"};
        int[] many = {0, 1, 1, 2, 2, 5};
        for (int k = 0; k < good.length; k++) {
            NetlistForms forms = Check.of(S, head + good[k] + ";e;");
            Check.same("links of" + good[k], forms.instance(0, 0, 1), many[k]);
            Check.same("by name of" + good[k], forms.instance(0, 0, 3), 0);
        }
        NetlistForms forms = Check.of(S, head + " - a;e;");
        Check.same("open", forms.joined(0, 0, 0, 0), NetlistForms.NONE);
        Check.same("not open", forms.joined(0, 0, 1, 0), 0);
        Check.fault(S, head + " a@,a;e;");
        Check.fault(S, head + "@(a);e;");
        Check.fault(S, head + " @.p(a);e;");
        Check.fault(S, head + " a @e;");
        Check.fault(S, "m x;w a 1;a a @-;e;");
        Check.fault(S, "m x;w a 1;a @- a;e;");
    }

    private static void partsOfBothTexts() {
        Check.sentence("The long text", "N   N [ A ]   N [ A : B ]   A ' K: a net, a bit of it, its bits A down to B");
        String[] longs = {"w", "w[0]", "w[7]", "w[0:0]", "w[7:7]", "w[7:0]", "w[6:1]"};
        String[] shorts = {"w", "w.0", "w.7", "w.0.0", "w.7.7", "w.7.0", "w.6.1"};
        int[] low = {0, 0, 7, 0, 7, 0, 1};
        int[] high = {7, 0, 7, 0, 7, 7, 6};
        for (int k = 0; k < low.length; k++) {
            NetlistForms[] both = {
                Check.of(L, "module x();wire v;wire [7:0] w;y z(" + longs[k] + ");end"),
                Check.of(S, "m x;w v 1;w w 8;u y z " + shorts[k] + ";e;")};
            for (NetlistForms forms : both) {
                int width = high[k] - low[k] + 1;
                Check.same("first of " + longs[k], forms.joined(0, 0, 0, 0), 1 + low[k]);
                Check.same("last of " + longs[k], forms.joined(0, 0, 0, width - 1), 1 + high[k]);
                Check.refused("behind " + longs[k], () -> forms.joined(0, 0, 0, width));
            }
        }
        Check.fault(L, "module x();wire [7:0] w;y z(w[7:0@:0]);end");
        Check.fault(L, "module x();wire [7:0] w;y z(w[7]@[0]);end");
        Check.fault(L, "module x();wire [7:0] w;y z(w@.7);end");
        Check.fault(S, "m x;w w 8;u y z w.7.0@.0;e;");
        Check.fault(S, "m x;w w 8;u y z w@[7];e;");
    }

    private static void digitsOfShortText() {
        Check.sentence("The short text", "' K (as many digits as there are)");
        for (int many = 1; many <= 7; many++) {
            bits(Check.of(S, "m x;u y z 'b" + DIGITS.substring(0, many) + ";e;"), DIGITS.substring(0, many));
        }
        Check.fault(S, "m x;u y z '@b;e;");
        Check.fault(S, "m x;u y z '@b10110101;e;");
        Check.fault(S, "m x;u y z '@b2;e;");
        Check.fault(S, "m x;u y z '@b1011012;e;");
        Check.fault(S, "m x;u y z '@1;e;");
        Check.fault(S, "m x;u y z '@;e;");
        Check.fault(S, "m x;u y z @1'b1;e;");
    }
}
