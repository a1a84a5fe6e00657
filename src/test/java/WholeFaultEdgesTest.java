/** The sentences on the faults that only the whole text shows, and their edges: "Terms", THE FAULT. */
public final class WholeFaultEdgesTest {
    private static final int L = Check.LONG;
    private static final int S = Check.SHORT;

    public static void main(String[] args) {
        noPort();
        fewerThanPorts();
        nameThatIsNoPort();
        widthOfLinks();
        widthOfAssigns();
        boxesTakeAll();
        firstByPlace();
        noneOfTheseEither();
        rings();
        longRings();
        Check.end("WholeFaultEdgesTest");
    }

    /** A module with so many ports and, where there is room for it, a wire that is no port. */
    private static String ports(int many) {
        String list = Check.list(many, "#");
        return "module y(" + list + ");" + (many == 0 ? "" : "input " + list + ";")
            + (many < 16 ? "wire w;end " : "end ");
    }

    private static String shortPorts(int many) {
        return "m y;" + (many < 16 ? "w w 1;" : "") + Check.rows(many, "i # 1;") + "e;";
    }

    private static void noPort() {
        Check.sentence("The fault", "a link's first word, by order, for which the module has no port");
        for (int many = 0; many < 16; many++) {
            String head = ports(many) + "module x();wire v;y z(" + "-,".repeat(many);
            Check.fault(L, head + "@-);end");
            Check.fault(L, head + "@v);end");
            Check.fault(L, head + "@v[0]);end");
            Check.fault(L, head + "@1'b0);end");
            if (many < 15) {
                Check.fault(L, head + "@-,-);end");
            }
            Check.fault(S, "m x;u y z" + "-".repeat(many) + "@-;e;" + shortPorts(many));
            Check.fault(S, "m x;u y z" + "-".repeat(many) + "@'b1;e;" + shortPorts(many));
        }
    }

    private static void fewerThanPorts() {
        Check.sentence("The fault", "an instance's name, if it has links by order, or none, fewer than ports");
        for (int many = 1; many <= 16; many++) {
            Check.good(L, 2, ports(many) + "module x();y z(" + Check.list(many, "-") + ");end");
            Check.fault(L, ports(many) + "module x();y @z(" + Check.list(many - 1, "-") + ");end");
            Check.fault(L, ports(many) + "module x();y @z();end");
            Check.good(L, 2, ports(many) + "module x();y z(.a());end");
            Check.good(S, 2, "m x;u y z" + "-".repeat(many) + ";e;" + shortPorts(many));
            Check.fault(S, "m x;u y @z" + "-".repeat(many - 1) + ";e;" + shortPorts(many));
            Check.fault(S, "m x;u y @z;e;" + shortPorts(many));
        }
        Check.good(L, 2, ports(0) + "module x();y z();end");
        Check.good(S, 2, "m x;u y z;e;m y;w w 1;e;");
    }

    private static void nameThatIsNoPort() {
        Check.sentence("The fault", "a P that the module does not have");
        for (int many = 0; many < 16; many++) {
            String named = Check.rows(many, ".#(),");
            Check.fault(L, ports(many) + "module x();y z(" + named + ".@z());end");
            Check.fault(L, ports(many) + "module x();y z(.@z()" + Check.rows(many, ",.#()") + ");end");
        }
        Check.fault(L, ports(2) + "module x();wire w;y z(.@w(w));end");
        Check.fault(L, ports(2) + "module x();wire w;y z(.@aa(w));end");
        Check.fault(L, ports(2) + "module x();y z(.@A());end");
        Check.good(L, 2, ports(2) + "module x();wire w;y z(.b(w));end");
        Check.good(L, 2, "module x();wire w;y z(.b(w),.a());end " + ports(2));
    }

    /** A text with a link of one width to a port of another. */
    private static String linked(int portWidth, int width, boolean named) {
        String port = "module y(p);input [" + (portWidth - 1) + ":0] p;end ";
        String wire = "module x();wire [" + (width - 1) + ":0] w;y z(";
        String mark = portWidth == width ? "" : "@";
        return port + wire + (named ? ".p(" + mark + "w)" : mark + "w") + ");end";
    }

    private static void tell(int form, String text, int modules) {
        if (text.indexOf(Check.MARK) < 0) {
            Check.good(form, modules, text);
        } else {
            Check.fault(form, text);
        }
    }

    private static void widthOfLinks() {
        Check.sentence("The fault", "the first word of a link's R, or of an assign's second one, of another width "
            + "than the port, or the first one");
        for (int port = 1; port <= 8; port++) {
            for (int width = 1; width <= 8; width++) {
                String mark = port == width ? "" : "@";
                tell(L, linked(port, width, false), 2);
                tell(L, linked(port, width, true), 2);
                tell(S, "m x;w w " + width + ";u y z " + mark + "w;e;m y;o p " + port + ";e;", 2);
                tell(S, "m x;w w 8;u y z " + mark + "w." + (width - 1) + ".0;e;m y;o p " + port + ";e;", 2);
                if (width < 8) {
                    tell(S, "m x;u y z " + mark + "'b" + "0".repeat(width) + ";e;m y;o p " + port + ";e;", 2);
                }
            }
            tell(S, "m x;w w 8;u y z " + (port == 1 ? "" : "@") + "w.7;e;m y;o p " + port + ";e;", 2);
            Check.good(S, 2, "m x;u y z -;e;m y;o p " + port + ";e;");
        }
        Check.fault(L, "module y(p,q);input p;input [1:0] q;end module x();wire w;y z(w,@w);end");
        Check.fault(L, "module y(p,q);input p;input [1:0] q;end module x();wire w;y z(.q(@w),.p(w));end");
        Check.fault(L, "module y(p);input [1:0] p;end module x();y z(@1'b0);end");
        Check.fault(L, "module y(p);input [1:0] p;end module x();y z(.p(@1'b0));end");
    }

    private static void widthOfAssigns() {
        Check.sentence("The fault", "or of an assign's second one, of another width than the port, or the first one");
        for (int first = 1; first <= 8; first++) {
            for (int second = 1; second <= 8; second++) {
                String mark = first == second ? "" : "@";
                String nets = "wire [" + (first - 1) + ":0] a;wire [" + (second - 1) + ":0] b;";
                tell(L, "module x();" + nets + "assign a=" + mark + "b;end", 1);
                tell(S, "m x;w a " + first + ";w b 8;a a " + mark + "b.7." + (8 - second) + ";e;", 1);
                if (first < 8) {
                    tell(S, "m x;w b " + second + ";a 'b" + "1".repeat(first) + " " + mark + "b;e;", 1);
                }
                if (second < 8) {
                    tell(S, "m x;w a " + first + ";a a " + mark + "'b" + "1".repeat(second) + ";e;", 1);
                }
            }
        }
        Check.fault(S, "m x;w a 8;" + "a a a;".repeat(7) + "a a @a.7;e;");
    }

    private static void boxesTakeAll() {
        Check.sentence("The fault", "(Boxes take all.)");
        Check.good(S, 1, "m x;w a 8;u y z;u y t -;u y u a - a.7 'b01;u y v----------------;e;");
        Check.good(L, 1, "module x();wire [7:0] a;y z();y t(a);y u(a[1]);y v(.p(a));y w(.p(a[0]),.q());end");
        Check.good(S, 2, "m x;w a 8;u y z a a;e;m yy;i p 1;e;");
        Check.fault(S, "m x;w a 8;u y z @a a;e;m y;i p 1;e;");
    }

    private static void firstByPlace() {
        Check.sentence("The fault", "the first of these by its place");
        String y = "m y;i p 1;o q 2;e;";
        Check.fault(S, y + "m x;w a 1;w b 2;a a @b;u y z b b;u y t;u y u a b a;e;");
        Check.fault(S, y + "m x;w a 1;w b 2;u y z @b b;a a b;u y t;u y u a b a;e;");
        Check.fault(S, y + "m x;w a 1;w b 2;u y @t;u y z b b;a a b;u y u a b a;e;");
        Check.fault(S, y + "m x;w a 1;w b 2;u y u a b @a;u y t;u y z b b;a a b;e;");
        Check.fault(S, y + "m x;w a 1;w b 2;u y u a @a a;e;");
        Check.fault(S, y + "m x;w a 1;w b 2;u y @u b;e;");
        Check.fault(S, "m x;w a 1;u y u a @a a;e;" + y + "m t;w a 1;w b 2;a a b;e;");
        Check.fault(S, "m t;w a 1;w b 2;a a @b;e;m x;w a 1;u y u a a a;e;" + y);
        String named = "module y(p);input p;end module x();wire [1:0] a;";
        Check.fault(L, named + "y z(.p(@a),.q());end");
        Check.fault(L, named + "y z(.@q(a),.p(a));end");
        Check.fault(L, named + "y z(.p(),.@q());y t();end");
    }

    private static void noneOfTheseEither() {
        Check.sentence("The fault", "If there is none of these either, the first module's name that is in a RING");
        Check.fault(S, "m x;u x y;e;m z;w a 2;a a @a.0;e;");
        Check.fault(S, "m x;u x @y;i a 1;e;");
        Check.fault(S, "m @x;u x y-;i a 1;e;");
        Check.fault(S, "m x;u y @i;u y j-;e;m y;u x i;i p 1;e;");
        Check.fault(S, "m x;u x y;e;m z;u x t;e;m@");
    }

    private static void rings() {
        Check.sentence("The fault", "in which an instance is of a module that has it in itself, directly or over "
            + "others.");
        Check.fault(S, "m @x;u x y;e;");
        Check.fault(S, "m @x;u b i;u x y;e;");
        Check.good(S, 1, "m x;u y x;e;");
        Check.fault(S, "m @x;u y i;e;m y;u x i;e;");
        // A module that only leads to a ring is in none.
        Check.fault(S, "m a;u b i;e;m @b;u b i;e;");
        Check.fault(S, "m a;u c i;e;m @b;u c i;e;m c;u b i;e;");
        Check.fault(S, "m a;u c i;e;m b;u c i;e;m @c;u d i;e;m d;u c i;e;");
        // Nor is one that a ring leads to.
        Check.fault(S, "m a;e;m @b;u a i;u c j;e;m c;u a i;u b j;e;");
        Check.fault(S, "m a;e;m @b;u b i;e;m c;u c i;e;");
        // The same module below two others is no ring.
        Check.good(S, 4, "m a;u b i;u c j;u d k;e;m b;u d i;u d j;e;m c;u d i;u b j;e;m d;e;");
        Check.good(S, 4, "m d;e;m c;u d i;u b j;e;m b;u d i;u d j;e;m a;u b i;u c j;u d k;e;");
    }

    /** Eight modules, each with an instance of the next: the last one's closes the ring or does not. */
    private static void longRings() {
        Check.sentence("The fault", "directly or over others");
        for (int many = 1; many <= 8; many++) {
            for (int back = 0; back < many; back++) {
                Check.fault(S, chain(many, back, true, (char) ('a' + back)));
                Check.fault(S, chain(many, many - 1, false, (char) ('a' + back)));
            }
            Check.good(S, many, chain(many, 0, true, 'z').replace("@", ""));
            Check.good(S, many, chain(many, 0, false, 'z').replace("@", ""));
        }
    }

    /** Told from the first module on or from the last one on; the last one has an instance of one of them. */
    private static String chain(int many, int marked, boolean forward, char last) {
        StringBuilder text = new StringBuilder();
        for (int n = 0; n < many; n++) {
            int k = forward ? n : many - 1 - n;
            char next = k == many - 1 ? last : (char) ('a' + k + 1);
            text.append(k == marked ? "m @" : "m ").append((char) ('a' + k)).append(";u ").append(next).append(" i;e;");
        }
        return text.toString();
    }
}
