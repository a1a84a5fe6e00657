/** The long text and its faults word by word (read(0), promise 4). */
public final class LongFaultTest {
    private static final String PORTS_16 = "a,b,c,d,e,f,g,h,i,j,k,l,m,n,o,p";

    public static void main(String[] args) {
        heads();
        nets();
        parts();
        links();
        limits();
        ends();
        Check.end("LongFaultTest");
    }

    private static void good(int modules, String text) {
        Check.good(Check.LONG, modules, text);
    }

    private static void fault(String marked) {
        Check.fault(Check.LONG, marked);
    }

    private static void heads() {
        good(2, "module x();end module y();end");
        fault("@x");
        fault("@1");
        fault("@end");
        fault("module @(");
        fault("module @1();end");
        fault("module x@;end");
        fault("module x(@,);end");
        fault("module x(a @b);end");
        fault("module x(a,@);end");
        fault("module x(a,b,@a);end");
        fault("module x(@1);end");
        fault("module x()@end");
        fault("module x();end module @x();end");
        fault("module x();end @;");
        fault("module x();@module y();end");
    }

    private static void nets() {
        good(1, "module x(a,b,c);output c;wire [7:0] w;input [0:0] b,a;end");
        fault("module x(a,b);input a;@end");
        fault("module x(a);@end");
        fault("module x(a);input @b;end");
        fault("module x(a);output @b;end");
        fault("module x(a);wire @a;end");
        fault("module x(a);wire b;wire @a;input a;end");
        fault("module x(a);input a,@a;end");
        fault("module x(a);input a;output @a;end");
        fault("module x(a);input a;wire @a;end");
        fault("module x();wire a;wire b,@a;end");
        fault("module x();wire a;input @a;end");
        fault("module x();wire @;end");
        fault("module x();wire a,@;end");
        fault("module x();wire a @b;end");
        fault("module x();wire [@8:0] a;end");
        fault("module x();wire [@:0] a;end");
        fault("module x();wire [7 @0] a;end");
        fault("module x();wire [7:@1] a;end");
        fault("module x();wire [7:0@;end");
        fault("module x();wire [@a:0] b;end");
        fault("module x();wire [1:0] @[1:0] a;end");
        fault("module x();wire [1:0] @;end");
    }

    private static void parts() {
        String head = "module x();wire a;wire [7:0] w;wire [3:0] v;";
        good(1, head + "assign w=w;assign w[7]=a;assign v=w[7:4];assign v[3:3]=a[0];assign a[0:0]=v[0];end");
        good(1, head + "assign 1'b0=1'b1;assign w[6:0]=7'b0101010;end");
        fault(head + "assign @b=a;end");
        fault(head + "assign a=@b;end");
        fault(head + "assign a=@x;end");
        fault(head + "assign w[@8]=a;end");
        fault(head + "assign a[@1]=a;end");
        fault(head + "assign v[@4:0]=v;end");
        fault(head + "assign v=w[2:@3];end");
        fault(head + "assign v=w[@99:98];end");
        fault(head + "assign w[@]=a;end");
        fault(head + "assign w[@a]=a;end");
        fault(head + "assign w[1@;end");
        fault(head + "assign w[3:@]=a;end");
        fault(head + "assign w[3:1@:0]=a;end");
        fault(head + "assign a @a;end");
        fault(head + "assign @=a;end");
        fault(head + "assign a=@;end");
        fault(head + "assign a=@-;end");
        fault(head + "assign a=a@=a;end");
        fault(head + "assign a=@0'b;end");
        fault(head + "assign a=@8'b10101010;end");
        fault(head + "assign a=@10;end");
        fault(head + "assign a=1@;end");
        fault(head + "assign a=1'@;end");
        fault(head + "assign a=1'@0;end");
        fault(head + "assign a=1'@b;end");
        fault(head + "assign a=1'@b00;end");
        fault(head + "assign a=2'@b0;end");
        fault(head + "assign a=1'@b2;end");
        fault(head + "assign a=1'@bx;end");
        fault(head + "assign a=1'@c0;end");
        fault(head + "assign a=1'@B0;end");
        fault(head + "assign a=7'@b01010101;end");
        fault(head + "assign a=@'b0;end");
        fault(head + "assign a=1'b0@[0];end");
        fault("module x(a);assign @a=1'b0;input a;end");
        fault("module x(a);input a;y z(@w);wire w;end");
        fault("module x();wire a;end module y();assign @a=1'b0;end");
    }

    private static void links() {
        String head = "module x();wire a;wire [1:0] w;";
        good(1, head + "y z();y t(-);y u(a);y v(a,-,1'b0,w[1:0]);y w(.p(a),.q(),.r(w[0]));end");
        good(1, head + "y y();x2 a();end");
        fault(head + "y @;end");
        fault(head + "y @1();end");
        fault(head + "y z@;end");
        fault(head + "y z();y @z();end");
        fault(head + "y z(@,a);end");
        fault(head + "y z(a,@);end");
        fault(head + "y z(a @w);end");
        fault(head + "y z(a@");
        fault(head + "y z(a,@.p(a));end");
        fault(head + "y z(-,@.p());end");
        fault(head + "y z(.p(a),@a);end");
        fault(head + "y z(.p(a),@-);end");
        fault(head + "y z(.p(a),@);end");
        fault(head + "y z(.@(a));end");
        fault(head + "y z(.p@,.q());end");
        fault(head + "y z(.p(@-));end");
        fault(head + "y z(.p(a@,a));end");
        fault(head + "y z(.p(@b));end");
        fault(head + "y z(.p(w[@2]));end");
        fault(head + "y z(.p(a),.q(),.@p(a));end");
        fault(head + "y z(.p()@end");
        fault(head + "y z()@end");
        fault(head + "@[0];end");
        fault(head + "@1;end");
        fault(head + "@;end");
    }

    private static void limits() {
        good(1, "module x(" + PORTS_16 + ");input " + PORTS_16 + ";end");
        fault("module x(" + PORTS_16 + ",@q);input " + PORTS_16 + ";end");
        fault("module x(" + PORTS_16 + ");wire @q;input " + PORTS_16 + ";end");
        good(1, "module x();wire " + PORTS_16 + ";end");
        fault("module x();wire " + PORTS_16 + ",@q;end");
        fault("module x(q);wire " + PORTS_16.replace("p", "@p") + ";input q;end");
        good(8, modules(8));
        fault(modules(8) + "module @m9(a,a)");
        good(1, "module x();" + instances(12) + "end");
        fault("module x();" + instances(12) + "y @z(((");
        good(1, "module x();wire a;" + "assign a=a;".repeat(8) + "end");
        fault("module x();wire a;" + "assign a=a;".repeat(8) + "@assign b=;end");
        good(1, "module x();wire a;y z(" + "a,".repeat(15) + "-);end");
        fault("module x();wire a;y z(" + "a,".repeat(16) + "@-);end");
        fault("module x();wire a;y z(" + "-,".repeat(16) + "@1'b0);end");
        good(1, "module x();y z(" + named(16) + ");end");
        fault("module x();y z(" + named(16) + ",@.p0());end");
    }

    private static String modules(int many) {
        StringBuilder text = new StringBuilder();
        for (int k = 0; k < many; k++) {
            text.append("module m").append(k).append("();end ");
        }
        return text.toString();
    }

    private static String instances(int many) {
        StringBuilder text = new StringBuilder();
        for (int k = 0; k < many; k++) {
            text.append("y i").append(k).append("();");
        }
        return text.toString();
    }

    private static String named(int many) {
        StringBuilder text = new StringBuilder();
        for (int k = 0; k < many; k++) {
            text.append(k == 0 ? "" : ",").append(".p").append(k).append("()");
        }
        return text.toString();
    }

    /** Every text that ends before its last word is a fault at its end, blanks and all. */
    private static void ends() {
        String[] words = ("module x ( a , b ) ; input [ 1 : 0 ] a ; output b ; wire c , d ; "
            + "assign a [ 1 : 0 ] = 2 ' b01 ; y z ( a [ 1 ] , - ) ; y t ( . p ( a ) , . q ( ) ) ; end").split(" ");
        StringBuilder text = new StringBuilder();
        for (String word : words) {
            if (text.length() > 0) {
                fault(text + "@");
                fault(text + " // \n@");
            }
            text.append(word).append(' ');
        }
        good(1, text.toString());
    }
}
