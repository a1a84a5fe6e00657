/** The sentences on words and their edges, in both texts: "Terms", 1 WORDS. */
public final class WordEdgesTest {
    private static final int L = Check.LONG;
    private static final int S = Check.SHORT;
    private static final String[] KEYS = {"module", "input", "output", "wire", "assign", "end"};

    public static void main(String[] args) {
        charactersOfNames();
        namesAsLongAsCanBe();
        firstOfNames();
        lengthOfNames();
        lengthOfNamesInLongText();
        noKeyword();
        numbersAsLongAsCanBe();
        numbersAreNoSigns();
        lengthOfNumbers();
        zerosInFront();
        oneLongWord();
        signsAlone();
        blanks();
        comments();
        commentsAtTheEnd();
        Check.end("WordEdgesTest");
    }

    private static void charactersOfNames() {
        Check.sentence("Terms", "NAMES, rows of letters, digits and _");
        for (char c : "AZaz_09".toCharArray()) {
            NetlistForms forms = Check.of(S, "m x" + c + "y;e;");
            Check.same("module's name with " + c, Check.name(forms, 0, 0, 0), "x" + c + "y");
        }
        for (char c : "/:[^`{".toCharArray()) {
            Check.fault(S, "m x@" + c + ";e;");
        }
        Check.same("read of m x@;e;", Check.read(new NetlistForms(), S, "m x@;e;"), -1 - 3);
    }

    private static void namesAsLongAsCanBe() {
        Check.sentence("Terms", "as long as can be that begin with a letter or _");
        Check.same("m1_", Check.name(Check.of(S, "m m1_;e;"), 0, 0, 0), "m1_");
        Check.fault(S, "@mx;e;");
        Check.fault(S, "m x;@i1 a 1;e;");
        Check.fault(L, "@modulex();end");
        Check.fault(L, "@module_ x();end");
        Check.fault(L, "module x();endx@");
        Check.good(L, 2, "module x();end module y();end");
    }

    private static void firstOfNames() {
        Check.sentence("Terms", "that begin with a letter or _");
        for (char c : "AZaz_".toCharArray()) {
            Check.good(S, 1, "m " + c + ";e;");
            Check.good(S, 1, "m " + c + "9;e;");
        }
        for (char c : "09-".toCharArray()) {
            Check.fault(S, "m @" + c + ";e;");
            Check.fault(S, "m @" + c + "x;e;");
        }
        // A digit does not join the name behind it: 0b is a number and a name.
        Check.good(S, 1, "m x;w a 1;w b 1;u y z a.0b;e;");
    }

    private static void lengthOfNames() {
        Check.sentence("Terms", "(8 at most;");
        String full = "n2345678";
        String over = "n23456789";
        Check.same("8 letters", Check.name(Check.of(S, "m " + full + ";e;"), 0, 0, 0), full);
        for (char sort : "iow".toCharArray()) {
            Check.good(S, 1, "m x;" + sort + " " + full + " 1;e;");
            Check.fault(S, "m x;" + sort + " @" + over + " 1;e;");
        }
        Check.fault(S, "m @" + over + ";e;");
        Check.good(S, 1, "m x;u " + full + " " + full + ";e;");
        Check.fault(S, "m x;u @" + over + " y;e;");
        Check.fault(S, "m x;u y @" + over + ";e;");
        Check.good(S, 1, "m x;w " + full + " 1;a " + full + " " + full + ";u y z " + full + ";e;");
        Check.fault(S, "m x;w " + full + " 1;a @" + over + " " + full + ";e;");
        Check.fault(S, "m x;w " + full + " 1;a " + full + " @" + over + ";e;");
        Check.fault(S, "m x;w " + full + " 1;u y z @" + over + ";e;");
        Check.good(S, 2, "m x;w n2345678 1;w n2345679 1;w n234567 1;e;m n2345678;e;");
    }

    private static void lengthOfNamesInLongText() {
        Check.sentence("Terms", "(8 at most;");
        String full = "________";
        String over = "_________";
        Check.good(L, 1, "module " + full + "(" + full + ");input " + full + ";end");
        Check.fault(L, "module @" + over + "();end");
        Check.fault(L, "module x(@" + over + ");end");
        Check.fault(L, "module x(" + full + ");input @" + over + ";end");
        Check.fault(L, "module x(" + full + ");output @" + over + ";end");
        Check.fault(L, "module x();wire @" + over + ";end");
        Check.good(L, 1, "module x();" + full + " " + full + "(." + full + "());end");
        Check.fault(L, "module x();@" + over + " y();end");
        Check.fault(L, "module x();y @" + over + "();end");
        Check.fault(L, "module x();y z(.@" + over + "());end");
    }

    private static void noKeyword() {
        Check.sentence("Terms", "none is module, input, output, wire, assign or end)");
        for (String key : KEYS) {
            Check.fault(L, "module @" + key + "();end");
            Check.fault(L, "module x(@" + key + ");end");
            Check.fault(L, "module x(a);input @" + key + ";end");
            Check.fault(L, "module x();wire @" + key + ";end");
            Check.fault(L, "module x();y @" + key + "();end");
            Check.fault(L, "module x();y z(@" + key + ");end");
            Check.fault(L, "module x();y z(.@" + key + "());end");
            Check.fault(L, "module x();assign @" + key + "=1'b0;end");
            Check.fault(S, "m @" + key + ";e;");
            Check.fault(S, "m x;w @" + key + " 1;e;");
            Check.fault(S, "m x;u @" + key + " y;e;");
            Check.fault(S, "m x;u y @" + key + ";e;");
            for (String name : new String[] {key + "s", "_" + key, key.substring(1),
                key.substring(0, key.length() - 1), key.toUpperCase()}) {
                Check.good(L, 1, "module " + name + "();end");
                Check.good(L, 1, "module x();wire " + name + ";" + (name + " #(#);end").replace("#", name));
                Check.good(S, 1, "m " + name + ";w " + name + " 1;u b " + name + ";e;");
            }
        }
    }

    private static void numbersAsLongAsCanBe() {
        Check.sentence("Terms", "NUMBERS, rows of digits as long as can be");
        for (char c : "/:".toCharArray()) {
            Check.fault(S, "m x;i a 8@" + c + ";e;");
        }
        Check.fault(S, "m x;i a @18;e;");
        Check.fault(S, "m x;i a 1 @8;e;");
        Check.fault(S, "m x;i a @81;e;");
        Check.fault(S, "m x;i a 8@_;e;");
        Check.fault(L, "module x();wire [@77:0] a;end");
        Check.fault(L, "module x();wire [7:@01] a;end");
    }

    /** A number, or a row that is too long, has at times the code of the sign that is due. */
    private static void numbersAreNoSigns() {
        Check.sentence("Terms", "NUMBERS, rows of digits as long as can be (2 at most;");
        String longText = "module x ( a , b ) ; input [ 1 : 0 ] a ; output b ; "
            + "assign a [ 1 : 0 ] = 2 ' b01 ; y z ( a [ 1 ] , - ) ; y t ( . p ( a ) , . q ( ) ) ; end";
        String shortText = "m x ; i a 2 ; a a . 1 . 0 ' b01 ; u y z a . 1 - ' b0 ; e ;";
        Check.good(L, 1, longText);
        Check.good(S, 1, shortText);
        for (char sign : "(),;[:]='-.".toCharArray()) {
            codeForSign(L, longText, sign);
            codeForSign(S, shortText, sign);
        }
    }

    private static void codeForSign(int form, String text, char sign) {
        for (int place = text.indexOf(sign); place >= 0; place = text.indexOf(sign, place + 1)) {
            String begun = text.substring(0, place);
            String rest = text.substring(place + 1);
            Check.fault(form, begun + "@" + (int) sign + rest);
            Check.fault(form, begun + "@" + (int) sign + "9" + rest);
        }
    }

    private static void lengthOfNumbers() {
        Check.sentence("Terms", "(2 at most; 0s in front count for nothing");
        Check.good(S, 1, "m x;i a 8;e;");
        Check.good(S, 1, "m x;i a 08;e;");
        Check.fault(S, "m x;i a @008;e;");
        Check.good(L, 1, "module x();wire [07:00] a;assign a[07:00]=a[7:0];assign a[06:00]=07'b0000000;end");
        Check.fault(L, "module x();wire [@007:0] a;end");
        Check.fault(L, "module x();wire [7:@000] a;end");
        Check.fault(L, "module x();wire a;assign a[@000]=a;end");
        Check.fault(L, "module x();wire a;assign a[0:@000]=a;end");
        Check.fault(L, "module x();wire a;assign a=@001'b1;end");
        Check.fault(S, "m x;w a 1;a a.@000 a;e;");
        Check.fault(S, "m x;w a 1;a a.0.@000 a;e;");
    }

    private static void zerosInFront() {
        Check.sentence("Terms", "0s in front count for nothing, and are not printed)");
        for (int width = 1; width <= 8; width++) {
            NetlistForms forms = Check.of(S, "m x;i a 0" + width + ";e;");
            Check.same("width of 0" + width, forms.net(0, 0, 1), width);
            Check.same("printed", Check.printed(S, "m x;i a 0" + width + ";e;", S), "m x;\ni a " + width + ";\ne;\n");
        }
        Check.fault(S, "m x;i a @00;e;");
        Check.fault(S, "m x;i a @09;e;");
        String text = "module x();wire [02:00] a;assign a[02]=a[00];assign a[02:01]=02'b01;end";
        Check.same("printed long", Check.printed(L, text, L),
            "module x();\nwire [2:0] a;\nassign a[2]=a[0];\nassign a[2:1]=2'b01;\nend\n");
        Check.same("printed short", Check.printed(L, text, S), "m x;\nw a 3;\na a.2 a.0;\na a.2.1 'b01;\ne;\n");
        // The 0s of a name are no 0s in front.
        Check.same("a name's 0s", Check.printed(S, "m a01;w a1 1;a a1 'b0;e;", S), "m a01;\nw a1 1;\na a1 'b0;\ne;\n");
    }

    private static void oneLongWord() {
        Check.sentence("Terms", "a longer row is one word that cannot stand");
        Check.fault(S, "m @abcdefgh9;e;");
        Check.fault(S, "m x;@eeeeeeeee;");
        Check.fault(S, "m x;u y z - @abcdefghi - ;e;");
        Check.fault(S, "m x;i a @088;e;");
        Check.fault(S, "m x;i a @0000000000000000008;e;");
        // These are 1 and 8 if a number of 32 or 64 bits runs over.
        Check.fault(S, "m x;i a @4294967297;e;");
        Check.fault(S, "m x;i a @18446744073709551624;e;");
        Check.fault(S, "m x;e;@abcdefghi");
        Check.fault(S, "@123");
        Check.fault(L, "@modulemodule x();end");
        Check.fault(S, "m x;w a 7;a a '@b10101010;e;");
    }

    private static void signsAlone() {
        Check.sentence("Terms", "each other character alone (a SIGN)");
        for (char c = 33; c < 127; c++) {
            boolean inRow = Character.isLetterOrDigit(c) || c == '_';
            if (!inRow) {
                Check.same("read of " + c, Check.read(new NetlistForms(), L, " " + c), -1 - 1);
                Check.same("read behind " + c, Check.read(new NetlistForms(), S, "m x;e;" + c + "m"), -1 - 6);
            }
        }
        NetlistForms forms = Check.of(S, "m x;u y z--;e;");
        Check.same("two signs are two links", forms.instance(0, 0, 1), 2);
        Check.fault(S, "m x;@;e;");
        Check.fault(S, "m x;w a 1;a a.@.0 a;e;");
    }

    private static void blanks() {
        Check.sentence("Terms", "Between them are blanks (32, 10)");
        for (String blank : new String[] {" ", "\n", "  ", " \n", "\n\n"}) {
            Check.good(S, 0, blank);
            Check.good(S, 1, " m x ; i a 2 ; a a . 1 . 0 ' b01 ; u y z - a . 1 ; e ; ".replace(" ", blank));
            Check.good(L, 1, (" module x ( a ) ; input [ 1 : 0 ] a ; assign a [ 1 : 0 ] = 2 ' b01 ; "
                + "y z ( - ) ; y t ( . p ( a ) , . q ( ) ) ; end ").replace(" ", blank));
            Check.fault(S, "m x;" + blank + "@;");
            Check.fault(S, "m x" + blank + "@y;e;");
            Check.fault(S, "m x;i a @0" + blank + "8;e;");
        }
        // Where a sign stands no blank is needed.
        Check.good(S, 1, "m x;i a 2;u y z-a.1'b0;e;");
        Check.good(L, 1, "module x(a);input[1:0]a;end");
    }

    private static void comments() {
        Check.sentence("Terms", "from // to the next 10 or the end, what counts as a blank");
        Check.good(S, 1, "//\nm x;e;");
        Check.good(S, 1, "//m\nm//x;\nx//\n;//;\ne;");
        Check.good(S, 1, "m x;///e;\ne;");
        Check.good(S, 1, "m x;// // abcdefghi 123 @ module\ne;");
        Check.fault(S, "m x//\n@y;e;");
        Check.fault(S, "m x;//\n//\n@;");
        Check.fault(S, "m x;@/\n/ e;");
        Check.fault(S, "m x;@/ / e;");
        Check.fault(S, "m x;@/e;");
        Check.good(L, 1, "module//\nx//\n(//\n)//\n;//\nend//\n");
    }

    private static void commentsAtTheEnd() {
        Check.sentence("Terms", "or the end, what counts as a blank");
        Check.good(L, 0, "//");
        Check.good(L, 0, "///");
        Check.good(S, 1, "m x;e;//");
        Check.good(S, 1, "m x;e;// m y;e");
        Check.good(S, 1, "m x;e;//" + "/".repeat(992));
        Check.fault(S, "m x;e;@/");
        Check.fault(S, "m x;e;" + " ".repeat(993) + "@/");
        Check.fault(S, "m x;//e;@");
        Check.fault(L, "module x();//end@");
    }
}
