/** The short text and its faults word by word (read(1), promise 4). */
public final class ShortFaultTest {
    public static void main(String[] args) {
        heads();
        nets();
        parts();
        links();
        limits();
        ends();
        Check.end("ShortFaultTest");
    }

    private static void good(int modules, String text) {
        Check.good(Check.SHORT, modules, text);
    }

    private static void fault(String marked) {
        Check.fault(Check.SHORT, marked);
    }

    private static void heads() {
        good(2, "m x;e;m y;e;");
        fault("@module x();end");
        fault("@e;");
        fault("m @;e;");
        fault("m x @e;");
        fault("m x@();e;");
        fault("m x;e @m y;e;");
        fault("m x;e;m @x;e;");
        fault("m x;@m y;e;");
        fault("m x;e;@;");
        fault("m x;@y z;e;");
        fault("m x;@end");
        fault("m x;@ee;");
        fault("m x;@1;e;");
    }

    private static void nets() {
        good(1, "m x;w w 8;i a 1;o b 08;e;");
        fault("m x;i @1 1;e;");
        fault("m x;i a @;e;");
        fault("m x;i a @0;e;");
        fault("m x;o a @9;e;");
        fault("m x;w a @10;e;");
        fault("m x;w a @b;e;");
        fault("m x;w a 1@,b 1;e;");
        fault("m x;w a 1;i @a 1;e;");
        fault("m x;i a 1;o @a 1;e;");
        fault("m x;o a 1;w @a 1;e;");
        fault("m x;i @[1:0] a;e;");
    }

    private static void parts() {
        String head = "m x;w a 1;w w 8;i v 4;";
        good(1, head + "a w w;a w.7 a;a v w.7.4;a v.3.3 a.0;a 'b0 'b1;a w.6.0 'b1111111;e;");
        fault(head + "a @b a;e;");
        fault(head + "a a @b;e;");
        fault(head + "a a @;e;");
        fault(head + "a @;e;");
        fault(head + "a a @= a;e;");
        fault(head + "a a a @a;e;");
        fault(head + "a a @-;e;");
        fault(head + "a w.@8 a;e;");
        fault(head + "a w. @a;e;");
        fault(head + "a a.@1 a;e;");
        fault(head + "a v.@4.0 v;e;");
        fault(head + "a v w.2.@3;e;");
        fault(head + "a v w.3.0@.0;e;");
        fault(head + "a w@[1] a;e;");
        fault(head + "a a '@b;e;");
        fault(head + "a a '@b2;e;");
        fault(head + "a a '@c0;e;");
        fault(head + "a a '@0;e;");
        fault(head + "a a '@;e;");
        fault(head + "a a '@b00000000;e;");
        fault(head + "a a @1'b0;e;");
        fault(head + "a a 'b0@.0;e;");
        fault("m x;a @a 'b0;w a 1;e;");
    }

    private static void links() {
        String head = "m x;w a 1;w w 2;";
        good(1, head + "u y z;u y t -;u y u a;u y v a - 'b0 w.1.0 w.1;u y w--a-;e;");
        good(1, head + "u y y;u z a;e;");
        fault(head + "u @;e;");
        fault(head + "u y @;e;");
        fault(head + "u y @-;e;");
        fault(head + "u y z;u t @z;e;");
        fault(head + "u y z a@,a;e;");
        fault(head + "u y z @(a);e;");
        fault(head + "u y z @.p;e;");
        fault(head + "u y z - @.0;e;");
        fault(head + "u y z a @b;e;");
        fault(head + "u y z a 'b0 w.@2;e;");
        fault(head + "u y z @1;e;");
        fault(head + "u y z @e;");
    }

    private static void limits() {
        good(1, "m x;" + nets(16) + "e;");
        fault("m x;" + nets(16) + "w @q 1;e;");
        fault("m x;w w 1;" + nets(15) + "i @q 9;e;");
        good(8, modules(8));
        fault(modules(8) + "m @x;;");
        good(1, "m x;" + instances(12) + "e;");
        fault("m x;" + instances(12) + "u y @z ,;e;");
        good(1, "m x;i a 1;" + "a a a;".repeat(8) + "e;");
        fault("m x;i a 1;" + "a a a;".repeat(8) + "@a b b;e;");
        good(1, "m x;u y z" + "-".repeat(16) + ";e;");
        fault("m x;u y z" + "-".repeat(16) + "@-;e;");
        fault("m x;u y z" + "-".repeat(16) + "@'b;e;");
    }

    private static String nets(int many) {
        StringBuilder text = new StringBuilder();
        for (int k = 0; k < many; k++) {
            text.append(k % 2 == 0 ? "w n" : "o n").append(k).append(" 8;");
        }
        return text.toString();
    }

    private static String modules(int many) {
        StringBuilder text = new StringBuilder();
        for (int k = 0; k < many; k++) {
            text.append("m m").append(k).append(";e;");
        }
        return text.toString();
    }

    private static String instances(int many) {
        StringBuilder text = new StringBuilder();
        for (int k = 0; k < many; k++) {
            text.append("u y i").append(k).append(';');
        }
        return text.toString();
    }

    /** Every text that ends before its last word is a fault at its end, blanks and all. */
    private static void ends() {
        String[] words = ("m x ; i a 2 ; o b 1 ; w c 1 ; a a . 1 . 0 ' b01 ; u y z a . 1 - ' b0 ; e ;").split(" ");
        StringBuilder text = new StringBuilder();
        for (String word : words) {
            if (text.length() > 0) {
                fault(text + "@");
                fault(text + " // \n@");
            }
            text.append(word).append(' ');
        }
        good(1, text.toString());
    }
}
