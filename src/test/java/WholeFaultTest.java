/** The faults that only the whole text shows: links that do not fit, widths, rings (promise 4). */
public final class WholeFaultTest {
    private static final int L = Check.LONG;
    private static final int S = Check.SHORT;

    public static void main(String[] args) {
        linksAndPorts();
        widths();
        boxes();
        order();
        rings();
        modulesStay();
        Check.end("WholeFaultTest");
    }

    private static void linksAndPorts() {
        String y = "module y(p,q);input p;output q;wire r;end ";
        Check.good(L, 2, y + "module x();wire a;y z(a,-);end");
        Check.fault(L, y + "module x();wire a;y z(a,-,@a);end");
        Check.fault(L, y + "module x();wire a;y z(a,-,@-,a);end");
        Check.fault(L, y + "module x();wire a;y z(-,-,@1'b0);end");
        Check.fault(L, y + "module x();wire a;y @z(a);end");
        Check.fault(L, y + "module x();wire a;y @z();end");
        Check.good(L, 2, y + "module x();wire a;y z(.q(a));end");
        Check.good(L, 2, y + "module x();wire a;y z(.q(a),.p());end");
        Check.fault(L, y + "module x();wire a;y z(.q(a),.@r());end");
        Check.fault(L, y + "module x();wire a;y z(.@a(a),.s());end");
        Check.good(L, 2, "module y();end module x();y z();end");
        Check.fault(L, "module y();end module x();y z(@-);end");
        Check.fault(L, "module y();end module x();y z(.@p());end");
        Check.fault(S, "m x;w a 1;u y z a @a;e;m y;i p 1;e;");
        Check.fault(S, "m x;w a 1;u y @z a;e;m y;i p 1;w w 1;o q 1;e;");
        Check.fault(S, "m x;u y @z;e;m y;i p 1;e;");
        Check.good(S, 2, "m x;u y z -;e;m y;w w 3;i p 5;e;");
    }

    private static void widths() {
        String y = "module y(p,q);input [1:0] p;output [3:0] q;end ";
        String x = "module x();wire a;wire [1:0] b;wire [3:0] c;";
        Check.good(L, 2, y + x + "y z(b,c);y t(.q(c),.p(c[2:1]));y u(2'b10,4'b0000);end");
        Check.fault(L, y + x + "y z(@a,c);end");
        Check.fault(L, y + x + "y z(b,@b[1:0]);end");
        Check.fault(L, y + x + "y z(@3'b101,c);end");
        Check.fault(L, y + x + "y z(-,@c[0]);end");
        Check.fault(L, y + x + "y z(.q(@b));end");
        Check.fault(L, y + x + "y z(.p(b),.q(@c[3:1]));end");
        Check.fault(L, x + "assign a=@b;end");
        Check.fault(L, x + "assign b=@1'b0;end");
        Check.fault(L, x + "assign 3'b000=@c;end");
        Check.good(L, 1, x + "assign b=c[3:2];assign a=c[3];end");
        Check.fault(S, "m x;w a 2;a a @a.1;e;");
        Check.fault(S, "m x;w a 2;a a @'b101;e;");
        Check.fault(S, "m x;w a 2;u y z @a;e;m y;w r 2;i p 3;e;");
    }

    private static void boxes() {
        Check.good(L, 1, "module x();wire [3:0] a;y z(a,-,a[1]);y t(a);y u();y v(.p(a));y w(.p(a[0]),.q());end");
        Check.good(S, 1, "m x;w a 4;u y z a - a.1;u y t;e;");
    }

    /** The words come first, then what fits not, by its place, then rings. */
    private static void order() {
        Check.fault(S, "m x;w a 2;a a a.1;u x y a;e;@;");
        Check.fault(S, "m x;w a 2;u y @z;a a a.1;e;m y;i p 1;e;");
        Check.fault(S, "m x;w a 2;a a @a.1;u y z;e;m y;i p 1;e;");
        Check.fault(S, "m x;w a 2;u y z a @-;u y t;a a a.1;e;m y;i p 2;e;");
        Check.fault(S, "m x;u x y;e;m z;w a 2;a a @a.0;e;");
        Check.fault(S, "m x;u x @y;i a 1;e;");
        Check.fault(L, "module y(p);input p;end module x();wire [1:0] a;y z(.p(@a),.q());end");
        Check.fault(L, "module y(p);input p;end module x();wire [1:0] a;y z(.@q(a),.p(a));end");
    }

    private static void rings() {
        Check.fault(S, "m @x;u x y;e;");
        Check.fault(S, "m @x;u y i;e;m y;u x i;e;");
        Check.fault(S, "m a;e;m @x;u y i;e;m y;u x i;e;");
        Check.fault(S, "m a;u b i;e;m b;u c i;e;m @c;u d i;e;m d;u box i;u c j;e;");
        Check.fault(S, "m a;u b i;u c j;e;m b;u c i;e;m c;e;m @d;u e i;e;m e;u f i;e;m f;u d i;u a j;e;");
        Check.fault(L, "module h();end module @a();b i();end module b();c i();end module c();d i();end "
            + "module d();e i();end module e();f i();end module f();g i();end module g();h j();a i();end");
        Check.good(S, 4, "m a;u b i;u b j;u c k;u d l;e;m b;u d i;e;m c;u d i;u b j;e;m d;u box i;e;");
    }

    private static void modulesStay() {
        NetlistForms forms = Check.of(S, "m old;i a 3;e;");
        for (String text : new String[] {"m x;", "m x;w a 2;a a a.1;e;", "m x;u x y;e;", "m x;u y z -;e;m y;e;"}) {
            Check.same("fault in " + text, Check.read(forms, S, text) < 0, true);
            Check.same("modules stay", forms.count(0), 1);
            Check.same("name stays", Check.name(forms, 0, 0, 0), "old");
            Check.same("net stays", forms.net(0, 0, 1), 3);
        }
        Check.same("the next text", Check.read(forms, L, "module x();end module y();end"), 2);
        Check.same("the next text's module", Check.name(forms, 0, 0, 0), "x");
        Check.same("it has no net", forms.module(0, 1), 0);
    }
}
