/** Promises 1 (a new object), 2 (unit), 3 (units), 12 (count), and what read does to the tape (4). */
public final class TapeTest {
    public static void main(String[] args) {
        newObject();
        oneCharacter();
        fourCharacters();
        room();
        counts();
        readEmptiesTheTape();
        Check.end("TapeTest");
    }

    private static void newObject() {
        NetlistForms forms = new NetlistForms();
        Check.same("count(0)", forms.count(0), 0);
        Check.same("count(1)", forms.count(1), 0);
        Check.same("write(0, 0)", forms.write(0, 0), NetlistForms.NONE);
        Check.same("write(1, 0)", forms.write(1, 0), NetlistForms.NONE);
        Check.refused("module(0, 0)", () -> forms.module(0, 0));
        Check.refused("letter(0, 0, 0, 0)", () -> forms.letter(0, 0, 0, 0));
        Check.same("read(0)", forms.read(0), 0);
        Check.same("read(1)", forms.read(1), 0);
    }

    private static void oneCharacter() {
        NetlistForms forms = new NetlistForms();
        int taken = 0;
        for (int u = -3; u < 300; u++) {
            boolean due = u >= 32 && u <= 126 || u == 10;
            Check.same("unit(" + u + ")", forms.unit(u), due);
            taken += due ? 1 : 0;
        }
        Check.same("unit(MIN)", forms.unit(Integer.MIN_VALUE), false);
        Check.same("unit(MAX)", forms.unit(Integer.MAX_VALUE), false);
        Check.same("unit(65536 + 'a')", forms.unit(65536 + 'a'), false);
        Check.same("count(1)", forms.count(1), taken);
    }

    private static void fourCharacters() {
        NetlistForms forms = new NetlistForms();
        units(forms, 0, true, 0);
        units(forms, 'm' << 24, true, 1);
        units(forms, ' ' << 16, true, 2);
        units(forms, 'x' << 8, true, 3);
        units(forms, ';', true, 4);
        units(forms, 'u' << 24 | ' ' << 16 | 'b' << 8 | 1, false, 4);
        units(forms, 'u' << 24 | 200 << 16 | 'b' << 8 | 'c', false, 4);
        units(forms, 127, false, 4);
        units(forms, 9 << 24, false, 4);
        units(forms, -1, false, 4);
        units(forms, Integer.MIN_VALUE, false, 4);
        units(forms, 'e' << 24 | 10 << 16 | ';' << 8 | '~', true, 8);
        // The highest byte comes first: only then is the ~ the first word that cannot stand.
        Check.same("read(1)", forms.read(1), -1 - 7);
    }

    private static void units(NetlistForms forms, int four, boolean due, int length) {
        Check.same("units(" + four + ")", forms.units(four), due);
        Check.same("count(1) behind units(" + four + ")", forms.count(1), length);
    }

    private static void room() {
        NetlistForms forms = new NetlistForms();
        Check.put(forms, " ".repeat(998));
        units(forms, 0x20202000, false, 998);
        units(forms, 0x20202020, false, 998);
        units(forms, 0x00200000, true, 999);
        units(forms, 0x20000020, false, 999);
        Check.same("the 1000th", forms.unit('x'), true);
        Check.same("the 1001st", forms.unit('x'), false);
        units(forms, 0x20, false, 1000);
        units(forms, 0, true, 1000);
        Check.same("read of 1000", forms.read(0), -1 - 999);
        units(forms, 0x20202020, true, 4);
        // Each on an object of its own: so long a text takes half the calls that one object has.
        Check.good(0, 0, " ".repeat(1000));
        Check.good(1, 1, " ".repeat(994) + "m x;e;");
        Check.fault(0, "@" + ";".repeat(1000));
        Check.fault(1, " ".repeat(996) + "@x//y");
        Check.fault(1, "m x;" + " ".repeat(996) + "@");
        Check.fault(1, "m x;e;" + " ".repeat(993) + "@/");
    }

    private static void counts() {
        NetlistForms forms = Check.of(1, "m x;e;m y;e;m z;e;");
        Check.same("count(0)", forms.count(0), 3);
        Check.same("count(1)", forms.count(1), 0);
        forms.unit('m');
        Check.same("count(0)", forms.count(0), 3);
        Check.same("count(1)", forms.count(1), 1);
        for (int what : new int[] {-1, 2, 3, Integer.MIN_VALUE, Integer.MAX_VALUE}) {
            Check.refused("count(" + what + ")", () -> forms.count(what));
        }
    }

    private static void readEmptiesTheTape() {
        NetlistForms forms = Check.of(1, "m x;e;");
        Check.put(forms, "m y;e; m z;e;");
        for (int form : new int[] {-1, 2, 3, Integer.MIN_VALUE, Integer.MAX_VALUE}) {
            Check.refused("read(" + form + ")", () -> forms.read(form));
        }
        Check.same("count(1) behind a refused read", forms.count(1), 13);
        Check.same("count(0) behind a refused read", forms.count(0), 1);
        Check.same("read(1)", forms.read(1), 2);
        Check.same("count(1) behind read", forms.count(1), 0);
        Check.same("first module", Check.name(forms, 0, 0, 0), "y");
        Check.same("faulty read", Check.read(forms, 1, "m q;e"), -1 - 5);
        Check.same("count(1) behind a faulty read", forms.count(1), 0);
        Check.same("count(0) behind a faulty read", forms.count(0), 2);
        Check.same("modules stay", Check.name(forms, 0, 1, 0), "z");
        Check.same("a comment at the end", Check.read(forms, 1, "m x;e;//"), 1);
        Check.same("nothing of it is left", Check.read(forms, 1, "m x;e;/"), -1 - 6);
        Check.same("read of nothing", forms.read(0), 0);
        Check.same("count(0) behind read of nothing", forms.count(0), 0);
    }
}
