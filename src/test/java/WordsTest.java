/** The words of a text: names, numbers, signs, blanks and comments (read, promise 4). */
public final class WordsTest {
    private static final int L = Check.LONG;
    private static final int S = Check.SHORT;

    public static void main(String[] args) {
        names();
        numbers();
        signs();
        blanks();
        Check.end("WordsTest");
    }

    private static void names() {
        Check.good(S, 1, "m _;e;");
        Check.good(S, 1, "m Az_09Za_;e;");
        Check.good(S, 1, "m a2345678;e;");
        Check.fault(S, "m @a23456789;e;");
        Check.fault(S, "m @_________;e;");
        Check.fault(S, "@mm x;e;");
        Check.good(S, 1, "m m;i i 1;o o 1;w w 1;w a 1;a a w;u u u i o;u e e;e;");
        for (String key : new String[] {"module", "input", "output", "wire", "assign", "end"}) {
            Check.fault(S, "m @" + key + ";e;");
            Check.fault(S, "m x;i @" + key + " 1;e;");
            Check.fault(S, "m x;u @" + key + " y;e;");
            Check.fault(S, "m x;@" + key + ";e;");
            Check.fault(L, "module @" + key + "();end");
            Check.fault(L, "module x(@" + key + ");end");
            Check.fault(L, "module x();y @" + key + "();end");
            Check.fault(L, "module x();y z(.@" + key + "());end");
            Check.good(L, 1, "module " + key + "_();end");
            Check.good(S, 1, "m " + key.toUpperCase() + ";e;");
        }
        Check.fault(L, "@modules x();end");
        Check.fault(L, "module x();endx@");
        Check.fault(L, "module x();end @x");
        Check.same("a name is as long as can be",
            Check.name(Check.of(S, "m x1y2;e;"), 0, 0, 0), "x1y2");
        Check.fault(S, "m @1x;e;");
        // A number ends where a letter comes: the name begins there.
        Check.good(S, 1, "m x;i a 1;i b 1;u y z a.0b;e;");
    }

    private static void numbers() {
        Check.good(S, 1, "m x;i a 08;e;");
        Check.good(S, 1, "m x;i a 01;e;");
        Check.fault(S, "m x;i a @00;e;");
        Check.fault(S, "m x;i a @008;e;");
        Check.fault(S, "m x;i a @10;e;");
        Check.fault(S, "m x;i a @100;e;");
        Check.good(L, 1, "module x(a);input [07:00] a;end");
        Check.fault(L, "module x(a);input [@007:0] a;end");
        Check.fault(L, "module x(a);input [7:@000] a;end");
        Check.good(L, 1, "module x(a);input [1:0] a;assign a[01]=01'b1;end");
        Check.fault(L, "module x(a);input a;assign a=@001'b1;end");
        Check.fault(L, "module x(a);input a;assign a[@000]=a;end");
    }

    private static void signs() {
        for (char c = 33; c < 127; c++) {
            boolean word = Character.isLetterOrDigit(c) || c == '_' || c == Check.MARK;
            if (!word) {
                Check.fault(L, "@" + c);
                Check.fault(S, "m x;@" + c + "e;");
            }
        }
        Check.fault(S, "m x;@;e;");
        Check.fault(S, "m x;@/ /\ne;");
        Check.fault(S, "m x;e;@/");
        Check.good(S, 1, "m x;u b c----------------;e;");
    }

    private static void blanks() {
        Check.good(L, 0, "");
        Check.good(S, 0, " \n \n");
        Check.good(L, 0, "// nothing");
        Check.good(L, 0, "//");
        Check.good(L, 0, "//\n//\n/////");
        Check.good(S, 1, "m//x;\nx//e\n;e;//e");
        Check.good(S, 1, "m x;///e;\ne;");
        Check.good(S, 1, "\n\nm\nx\n;\ne\n;\n");
        Check.fault(S, "m x;//e;@");
        Check.fault(S, "m x; \n @");
        Check.good(L, 1, " module  x ( a , b ) ;input [ 1 : 0 ] a , b ; assign a [ 1 : 0 ] = 2 ' b01 ; "
            + "c d ( . p ( a [ 1 ] ) , . q ( ) ) ; end ");
        Check.good(S, 1, " m x ; i a 3 ; a a . 2 . 1 ' b01 ; u c d a . 0 - - ; e ; ");
        Check.good(L, 1, "module x(a,b);input[1:0]a,b;assign a=b;c d(-,a[1],2'b01);end");
    }
}
