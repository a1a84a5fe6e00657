/** The sentences on the place of the first fault, and their edges: "Terms", THE FAULT. */
public final class FaultEdgesTest {
    private static final int L = Check.LONG;
    private static final int S = Check.SHORT;

    public static void main(String[] args) {
        placeFromZero();
        firstThatCannotStand();
        toldAlready();
        toldApart();
        portTwice();
        notInTheList();
        untoldAtEnd();
        untoldInR();
        bitsOfNets();
        bitsOfShortNets();
        noConstant();
        toldLinkName();
        oneTooMany();
        endsTooSoon();
        Check.end("FaultEdgesTest");
    }

    private static void placeFromZero() {
        Check.sentence("The fault", "the place of the first character, from 0, of a word");
        Check.fault(S, "@x");
        Check.fault(S, "@1");
        Check.fault(L, "@end");
        Check.fault(S, "\n@x");
        Check.fault(S, "//\n @abcdefghijk");
        Check.fault(S, " ".repeat(999) + "@x");
        Check.fault(S, "m x;e;" + " ".repeat(990) + "@1234");
        Check.same("the least answer", Check.read(new NetlistForms(), S, "m x;e" + " ".repeat(995)), -1001);
    }

    private static void firstThatCannotStand() {
        Check.sentence("The fault", "of the first word that cannot stand where it stands");
        Check.fault(S, "m @1;i 2;");
        Check.fault(S, "m x;w a @9;w a 9;e;");
        Check.fault(L, "module x(a,@a);input b;end module x();end");
        Check.fault(L, "module x();wire a;wire @a;assign b=c;end");
        Check.fault(L, "module x();y z(.p(),.@p(q));end");
        // What the whole text shows comes behind every word that cannot stand.
        Check.fault(S, "m x;w a 2;a a a.1;u x y a;e;@;");
        Check.fault(S, "m x;u x y;e@");
    }

    private static void toldAlready() {
        Check.sentence("The fault", "a module's, a net's, an instance's name (in its module; nets and instances "
            + "apart) that is told already");
        Check.fault(S, "m x;e;m @x;e;");
        Check.fault(S, Check.rows(7, "m #;e;") + "m @a;e;");
        Check.fault(L, "module x();end module y();end module @x();end");
        for (String first : new String[] {"i", "o", "w"}) {
            for (String second : new String[] {"i", "o", "w"}) {
                Check.fault(S, "m x;" + first + " a 1;" + second + " @a 1;e;");
            }
        }
        Check.fault(S, "m x;" + Check.rows(15, "w # 1;") + "i @a 1;e;");
        Check.fault(L, "module x();wire a,@a;end");
        Check.fault(L, "module x();wire a;wire @a;end");
        Check.fault(L, "module x(a);input a,@a;end");
        Check.fault(L, "module x(a);input a;output @a;end");
        Check.fault(L, "module x(a);output a;wire @a;end");
        Check.fault(S, "m x;u y z;u t @z;e;");
        Check.fault(S, "m x;" + Check.rows(11, "u y #;") + "u y @a;e;");
        Check.fault(L, "module x();y z();y @z();end");
    }

    private static void toldApart() {
        Check.sentence("The fault", "(in its module; nets and instances apart)");
        Check.good(S, 2, "m x;w a 1;u y z a;e;m y2;w a 1;u y z a;e;");
        Check.good(S, 1, "m x;w a 1;u y a a;e;");
        Check.good(S, 1, "m x;u y a;w a 1;e;");
        Check.good(S, 1, "m x;w x 1;u y x;e;");
        Check.good(S, 2, "m x;w y 1;u y y;e;m y;w x 1;u b x;e;");
        Check.good(L, 2, "module x(a);input a;y a(a);end module y(a);output a;b a(a);end");
        Check.good(L, 1, "module x();wire a;b c(.a(a),.x(a));b d(.a(a),.x(a));end");
    }

    private static void portTwice() {
        Check.sentence("The fault", "in a long list a port twice");
        Check.fault(L, "module x(a,@a);input a;end");
        Check.fault(L, "module x(a,b,@a);input a,b;end");
        Check.fault(L, "module x(a,b,@b);input a,b;end");
        Check.fault(L, "module x(" + Check.list(15, "#") + ",@o);end");
        Check.fault(L, "module x(" + Check.list(15, "#") + ",@a);end");
        Check.good(L, 2, "module x(a);input a;end module y(a);input a;end");
    }

    private static void notInTheList() {
        Check.sentence("The fault", "an input or output that is not in the list, or a wire that is");
        for (String sort : new String[] {"input", "output"}) {
            Check.fault(L, "module x();" + sort + " @a;end");
            Check.fault(L, "module x(a);" + sort + " @b;end");
            Check.fault(L, "module x(a);" + sort + " a,@b;end");
            Check.fault(L, "module x(a);" + sort + " @aa;end");
            Check.fault(L, "module x();wire a;" + sort + " @a;end");
            Check.fault(L, "module x(a);" + sort + " a;end module y();" + sort + " @a;end");
            Check.good(L, 1, "module x(a);" + sort + " a;end");
        }
        Check.fault(L, "module x(a);wire @a;end");
        Check.fault(L, "module x(a,b);wire @b;input a,b;end");
        Check.fault(L, "module x(a);wire c,@a;end");
        Check.fault(L, "module x(a);input a;wire @a;end");
        Check.good(L, 2, "module x(a);input a;wire b;end module y(b);input b;wire a;end");
    }

    private static void untoldAtEnd() {
        Check.sentence("The fault", "at end, if a port of the list has no input or output");
        Check.fault(L, "module x(a);@end");
        Check.fault(L, "module x(a,b);input a;@end");
        Check.fault(L, "module x(a,b);output b;@end");
        Check.fault(L, "module x(" + Check.list(16, "#") + ");input " + Check.list(15, "#") + ";@end");
        Check.good(L, 1, "module x(" + Check.list(16, "#") + ");input " + Check.list(15, "#") + ";output p;end");
        Check.good(L, 1, "module x();end");
        Check.fault(L, "module x(a);input a;end module y(a);@end");
        Check.fault(L, "module x(a);wire b;@end ;");
    }

    private static void untoldInR() {
        Check.sentence("The fault", "a net in R that is not told yet by its item");
        Check.fault(L, "module x(a);assign @a=a;input a;end");
        Check.good(L, 1, "module x(a);input a;assign a=a;end");
        Check.fault(L, "module x(a);y z(@a);input a;end");
        Check.fault(L, "module x(a);y z(.p(@a));input a;end");
        Check.fault(L, "module x(a,b);input a;assign a=@b;output b;end");
        Check.fault(L, "module x();y z(@w);wire w;end");
        Check.fault(L, "module x();y z(@z);end");
        Check.fault(L, "module x();y z(@x);end");
        Check.fault(L, "module x();wire a;end module y();z t(@a);end");
        Check.fault(S, "m x;a @a a;w a 1;e;");
        Check.fault(S, "m x;w a 1;a a @b;w b 1;e;");
        Check.fault(S, "m x;u y z @a;i a 1;e;");
        Check.fault(S, "m x;w a 1;e;m y;u z t @a;e;");
        Check.good(S, 1, "m x;w a 1;a a a;u y z a;e;");
    }

    private static void bitsOfNets() {
        Check.sentence("The fault", "A not below its width, or B above A");
        for (int width = 1; width <= 8; width++) {
            String head = "module x();wire [" + (width - 1) + ":0] a;y z(";
            for (int a = 0; a < width; a++) {
                Check.good(L, 1, head + "a[" + a + "]);end");
                Check.good(L, 1, head + "a[" + a + ":0]);end");
                Check.good(L, 1, head + "a[" + a + ":" + a + "]);end");
                Check.fault(L, head + "a[" + a + ":@" + (a + 1) + "]);end");
            }
            Check.fault(L, head + "a[@" + width + "]);end");
            Check.fault(L, head + "a[@" + width + ":0]);end");
            Check.fault(L, head + "a[@" + (width + 1) + ":9]);end");
            Check.fault(L, head + "a[@99]);end");
            Check.fault(L, head + "a[0:@99]);end");
        }
        Check.fault(L, "module x();wire a;assign a[@1]=a;end");
        Check.fault(L, "module x();wire a;assign a=a[@1];end");
        Check.fault(L, "module x();wire a;y z(.p(a[@1]));end");
        // The width is the net's own, not that of another.
        Check.fault(L, "module x();wire [7:0] b;wire a;wire [7:0] c;y z(a[@1]);end");
    }

    private static void bitsOfShortNets() {
        Check.sentence("The fault", "A not below its width, or B above A");
        for (int width = 1; width <= 8; width++) {
            String head = "m x;i a " + width + ";u y z ";
            for (int a = 0; a < width; a++) {
                Check.good(S, 1, head + "a." + a + ";e;");
                Check.good(S, 1, head + "a." + a + ".0;e;");
                Check.good(S, 1, head + "a." + a + "." + a + ";e;");
                Check.fault(S, head + "a." + a + ".@" + (a + 1) + ";e;");
            }
            Check.fault(S, head + "a.@" + width + ";e;");
            Check.fault(S, head + "a.@" + width + ".0;e;");
            Check.fault(S, head + "a.@99;e;");
            Check.fault(S, head + "a.0.@99;e;");
        }
        Check.fault(S, "m x;i a 1;a a.@1 a;e;");
        Check.fault(S, "m x;i a 1;a a a.@1;e;");
    }

    private static void noConstant() {
        Check.sentence("The fault", "a K that is none");
        for (String none : new String[] {"b", "b2", "b00", "c0", "B0", "_0", "b0_", "0", "b00000000", "end"}) {
            Check.fault(L, "module x();wire a;assign a=1'@" + none + ";end");
            Check.fault(L, "module x();wire a;assign 1'@" + none + "=a;end");
            Check.fault(L, "module x();y z(1'@" + none + ");end");
            Check.fault(L, "module x();y z(.p(1'@" + none + "));end");
        }
        for (String none : new String[] {"b", "b2", "c0", "B0", "_0", "b0_", "0", "b00000000", "end"}) {
            Check.fault(S, "m x;w a 1;a a '@" + none + ";e;");
            Check.fault(S, "m x;w a 1;a '@" + none + " a;e;");
            Check.fault(S, "m x;u y z '@" + none + ";e;");
        }
    }

    private static void toldLinkName() {
        Check.sentence("The fault", "of links by name a P that is told already");
        String head = "module x();wire a;y z(";
        Check.fault(L, head + ".p(),.@p());end");
        Check.fault(L, head + ".p(a),.q(),.@p(a));end");
        Check.fault(L, head + Check.list(15, ".#()") + ",.@a());end");
        Check.fault(L, head + Check.list(15, ".#()") + ",.@o());end");
        Check.good(L, 1, head + ".p(),.p_(),.P());y t(.p());end");
        Check.fault(L, head + ".p(),.@p());end module y(p);input p;end");
    }

    private static void oneTooMany() {
        Check.sentence("The fault", "the name (of assigns: the first word) of the one too many (of ports in the "
            + "list, too), a link's first word");
        Check.fault(L, Check.rows(8, "module #();end ") + "module @z(;;");
        Check.fault(S, Check.rows(8, "m #;e;") + "m @z,,");
        Check.fault(L, "module x();wire " + Check.list(16, "#") + ",@z,,");
        Check.fault(S, "m x;" + Check.rows(16, "w # 1;") + "w @z 99;");
        Check.fault(L, "module x(" + Check.list(16, "#") + ",@z;;");
        Check.fault(L, "module x();" + Check.rows(12, "y #();") + "y @z;;");
        Check.fault(S, "m x;" + Check.rows(12, "u y #;") + "u y @z,,");
        Check.fault(L, "module x();wire a;" + "assign a=a;".repeat(8) + "@assign 9;");
        Check.fault(S, "m x;w a 1;" + "a a a;".repeat(8) + "@a 9;");
        Check.fault(L, "module x();wire a;y z(" + "a,".repeat(16) + "@a[9]);end");
        Check.fault(L, "module x();y z(" + "-,".repeat(16) + "@1'b2);end");
        Check.fault(L, "module x();y z(" + Check.list(16, ".#()") + ",@.a(9));end");
        Check.fault(S, "m x;w a 1;u y z" + " a".repeat(16) + " @a.9;e;");
        Check.fault(S, "m x;u y z" + "-".repeat(16) + "@'b2;e;");
        // The words before the name stand, though there is no room for what they begin.
        Check.fault(L, Check.rows(8, "module #();end ") + "module @;");
        Check.fault(L, Check.rows(8, "module #();end ") + "module@");
        Check.fault(L, "module x();" + Check.rows(12, "y #();") + "y@");
        Check.fault(S, "m x;" + Check.rows(16, "w # 1;") + "w@");
        Check.fault(L, "module x();wire " + Check.list(16, "#") + ";wire [@8:0] z;end");
        Check.fault(L, "module x();y z(" + "-,".repeat(16) + "@");
    }

    private static void endsTooSoon() {
        Check.sentence("The fault", "if the text ends too soon, its length");
        String longText = "module x ( a , b ) ; input [ 1 : 0 ] a ; output b ; wire c , d ; "
            + "assign a [ 1 : 0 ] = 2 ' b01 ; y z ( a [ 1 ] , - ) ; y t ( . p ( a ) , . q ( ) ) ; end";
        String shortText = "m x ; i a 2 ; o b 1 ; w c 1 ; a a . 1 . 0 ' b01 ; u y z a . 1 - ' b0 ; e ;";
        for (int place = 0; place < longText.length(); place++) {
            endsAt(L, longText, place);
        }
        for (int place = 0; place < shortText.length(); place++) {
            endsAt(S, shortText, place);
        }
        Check.fault(S, "m x;" + " ".repeat(996) + "@");
        Check.fault(L, "module x();//" + " ".repeat(987) + "@");
        Check.good(L, 0, "");
        Check.good(S, 1, shortText);
        Check.good(L, 1, longText);
    }

    /** The text up to a blank in it ends too soon there, and behind what counts as a blank. */
    private static void endsAt(int form, String text, int place) {
        if (text.charAt(place) == ' ') {
            String begun = text.substring(0, place);
            Check.fault(form, begun + "@");
            Check.fault(form, begun + " \n@");
            Check.fault(form, begun + " //end e;@");
            // Nothing of a longer text that was read before stands in for what is missing.
            NetlistForms forms = Check.of(form, text);
            Check.same("read of " + begun + " behind the whole text", Check.read(forms, form, begun), -1 - place);
        }
    }
}
