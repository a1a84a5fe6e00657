/** The sentences on the tape and its edges: "Terms" and promises 1, 2, 3, 4 and 12. */
public final class TapeEdgesTest {
    private static final int L = Check.LONG;
    private static final int S = Check.SHORT;
    private static final int[] NO_CHARACTERS = {1, 9, 11, 31, 127, 128, 138, 160, 255};
    private static final int[] CHARACTERS = {10, 32, 33, 125, 126};

    public static void main(String[] args) {
        lengthByUnit();
        lengthByUnits();
        lengthAsRead();
        charactersOfUnit();
        charactersOfUnits();
        calls();
        newObject();
        unitMore();
        highestFirst();
        zerosLeftOut();
        noneComes();
        tapeIsEmptyThen();
        inPlaceOfTheModulesBefore();
        theseStay();
        theTapeStays();
        counts();
        Check.end("TapeEdgesTest");
    }

    private static void holds(NetlistForms forms, int characters) {
        Check.same("count(1)", forms.count(1), characters);
    }

    private static void lengthByUnit() {
        Check.sentence("Terms", "THE TAPE has up to 1000 characters");
        NetlistForms forms = new NetlistForms();
        Check.put(forms, " ".repeat(996));
        for (int k = 997; k <= 1000; k++) {
            Check.same("unit, character " + k, forms.unit(' '), true);
            holds(forms, k);
        }
        for (int k = 0; k < 3; k++) {
            Check.same("unit, character 1001", forms.unit(' '), false);
            holds(forms, 1000);
        }
    }

    private static void lengthByUnits() {
        Check.sentence("Terms", "THE TAPE has up to 1000 characters");
        int[] fours = {0, 0x20, 0x2020, 0x202020, 0x20202020};
        for (int before = 995; before <= 1000; before++) {
            for (int more = 0; more <= 4; more++) {
                NetlistForms forms = new NetlistForms();
                Check.put(forms, " ".repeat(before));
                boolean due = before + more <= 1000;
                Check.same("units of " + more + " behind " + before, forms.units(fours[more]), due);
                holds(forms, due ? before + more : before);
            }
        }
    }

    private static void lengthAsRead() {
        Check.sentence("Terms", "THE TAPE has up to 1000 characters");
        NetlistForms forms = new NetlistForms();
        Check.same("a full tape", Check.read(forms, S, " ".repeat(994) + "m x;e;"), 1);
        Check.same("a full tape again", Check.read(forms, S, "m x;e;" + "\n".repeat(993) + ";"), -1 - 999);
        Check.good(L, 0, " ".repeat(1000));
        Check.good(S, 0, "//" + "x".repeat(998));
        Check.fault(L, "@" + "x".repeat(1000));
        Check.fault(L, "@" + "0".repeat(1000));
        Check.fault(S, "@" + ";".repeat(1000));
        Check.fault(S, "m x;" + " ".repeat(996) + "@");
    }

    private static void charactersOfUnit() {
        Check.sentence("Terms", "(32 .. 126, and 10)");
        NetlistForms forms = new NetlistForms();
        int many = 0;
        for (int u : CHARACTERS) {
            Check.same("unit(" + u + ")", forms.unit(u), true);
            many++;
            holds(forms, many);
        }
        for (int u : NO_CHARACTERS) {
            Check.same("unit(" + u + ")", forms.unit(u), false);
        }
        for (int u : new int[] {0, -1, -10, -32, -126, 256 + 'a', 65536 + 'a', 65536 + 10, 'a' - 65536, 'a' << 24,
            Integer.MIN_VALUE + 'a', Integer.MIN_VALUE, Integer.MAX_VALUE}) {
            Check.same("unit(" + u + ")", forms.unit(u), false);
        }
        holds(forms, many);
    }

    private static void charactersOfUnits() {
        Check.sentence("Terms", "(32 .. 126, and 10)");
        NetlistForms forms = new NetlistForms();
        int many = 0;
        for (int shift = 0; shift < 32; shift += 8) {
            for (int u : CHARACTERS) {
                Check.same("units(" + u + " << " + shift + ")", forms.units(u << shift), true);
                many++;
            }
            for (int u : NO_CHARACTERS) {
                Check.same("units(" + u + " << " + shift + ")", forms.units(u << shift), false);
            }
        }
        holds(forms, many);
    }

    private static void calls() {
        Check.sentence("What it is", "An object is used for at most 512 calls after it has been made");
        NetlistForms forms = new NetlistForms();
        int calls = Check.put(forms, "m x;e;" + " ".repeat(994));
        Check.same("read, call " + (calls + 1), forms.read(S), 1);
        calls++;
        calls += Check.put(forms, " ".repeat(996) + "m y;");
        Check.same("read, call " + (calls + 1), forms.read(S), -1 - 1000);
        calls++;
        for (; calls < Check.MOST_CALLS - 1; calls++) {
            Check.same("unit, call " + (calls + 1), forms.unit('m'), true);
        }
        Check.same("the 512th call", forms.letter(0, 0, 0, 0), (int) 'x');
    }

    private static void newObject() {
        Check.sentence("Promise 1", "No modules.");
        NetlistForms forms = new NetlistForms();
        Check.same("count(0)", forms.count(0), 0);
        holds(forms, 0);
        Check.same("write(0, 0)", forms.write(L, 0), NetlistForms.NONE);
        Check.same("write(1, 0)", forms.write(S, 0), NetlistForms.NONE);
        Check.range("module", 0, k -> forms.module(k, 0));
        Check.range("net of module", 0, k -> forms.net(k, 0, 0));
        Check.range("instance of module", 0, k -> forms.instance(k, 0, 0));
        Check.range("joined of module", 0, k -> forms.joined(k, 0, 0, 0));
        Check.range("assign of module", 0, k -> forms.assign(k, 0, 0, 0));
        for (int sort = 0; sort < 4; sort++) {
            int s = sort;
            Check.range("letter, sort " + s + ", of module", 0, k -> forms.letter(s, k, 0, 0));
        }
        Check.same("another object has its own", Check.read(new NetlistForms(), S, "m x;e;"), 1);
        Check.same("count(0) still", forms.count(0), 0);
    }

    private static void unitMore() {
        Check.sentence("Promise 2", "A character more on the tape: whether it was one and there was room.");
        NetlistForms forms = new NetlistForms();
        for (char c : "m x;e;".toCharArray()) {
            Check.same("unit(127)", forms.unit(127), false);
            Check.same("unit(" + c + ")", forms.unit(c), true);
        }
        holds(forms, 6);
        Check.same("only the characters came", forms.read(S), 1);
        Check.put(forms, " ".repeat(994) + "m y;e;");
        Check.same("unit(';') without room", forms.unit(';'), false);
        Check.same("it has not come", forms.read(S), 1);
        Check.same("there is room again", forms.unit(';'), true);
    }

    private static void highestFirst() {
        Check.sentence("Promise 3", "Four characters more, the highest byte first");
        NetlistForms forms = new NetlistForms();
        Check.same("units('m x;')", forms.units('m' << 24 | ' ' << 16 | 'x' << 8 | ';'), true);
        Check.same("units('e;  ')", forms.units('e' << 24 | ';' << 16 | ' ' << 8 | 10), true);
        holds(forms, 8);
        Check.same("read(1)", forms.read(S), 1);
    }

    private static void zerosLeftOut() {
        Check.sentence("Promise 3", "0s are left out");
        String[] parts = {"", "m", "mx", "m;", "m x", "m_x;"};
        for (String part : parts) {
            for (int taken = 0; taken < 16; taken++) {
                if (Integer.bitCount(taken) == part.length()) {
                    zerosBetween(part, taken);
                }
            }
        }
    }

    /** The characters of the part stand at the bytes whose bit is 1, the highest bit being the first. */
    private static void zerosBetween(String part, int taken) {
        int four = 0;
        int next = 0;
        for (int place = 0; place < 4; place++) {
            boolean used = (taken >> 3 - place & 1) == 1;
            four = four << 8 | (used ? part.charAt(next) : 0);
            next += used ? 1 : 0;
        }
        NetlistForms forms = new NetlistForms();
        Check.same("units(" + four + ")", forms.units(four), true);
        holds(forms, part.length());
        NetlistForms byOne = new NetlistForms();
        for (char c : part.toCharArray()) {
            byOne.unit(c);
        }
        Check.same("read behind units(" + four + ")", forms.read(S), byOne.read(S));
    }

    private static void noneComes() {
        Check.sentence("Promise 3", "whether all were such, and there was room for them (else none comes)");
        NetlistForms forms = new NetlistForms();
        Check.put(forms, "m x;");
        for (int shift = 0; shift < 32; shift += 8) {
            int three = 0x3b3b3b3b & ~(255 << shift);
            for (int u : NO_CHARACTERS) {
                Check.same("units with " + u + " at " + shift, forms.units(three | u << shift), false);
            }
        }
        Check.same("units(-1)", forms.units(-1), false);
        Check.same("units(MIN)", forms.units(Integer.MIN_VALUE), false);
        Check.same("units(MAX)", forms.units(Integer.MAX_VALUE), false);
        holds(forms, 4);
        Check.put(forms, "e;" + " ".repeat(992));
        Check.same("units of 3 where there is room for 2", forms.units(0x3b3b3b), false);
        Check.same("units of 4 where there is room for 2", forms.units(0x3b3b3b3b), false);
        holds(forms, 998);
        Check.same("none has come", forms.read(S), 1);
    }

    private static void tapeIsEmptyThen() {
        Check.sentence("Promise 4", "The tape (which is empty then) is read as a text");
        NetlistForms forms = new NetlistForms();
        Check.same("read of an empty tape, long", forms.read(L), 0);
        Check.same("read of an empty tape, short", forms.read(S), 0);
        Check.same("a good text", Check.read(forms, S, "m x;e;//"), 1);
        holds(forms, 0);
        Check.same("the text before is gone", Check.read(forms, S, "m x;e;/"), -1 - 6);
        holds(forms, 0);
        Check.same("the faulty text before is gone", Check.read(forms, S, "m y"), -1 - 3);
        holds(forms, 0);
        Check.same("an empty tape again", forms.read(S), 0);
    }

    private static void inPlaceOfTheModulesBefore() {
        Check.sentence("Promise 4", "in place of the modules before: how many modules");
        NetlistForms forms = Check.of(S, "m a;w w 1;a w w;u b i w;e;m c;e;");
        Check.same("one in place of two", Check.read(forms, L, "module d();end"), 1);
        Check.same("count(0)", forms.count(0), 1);
        Check.same("its name", Check.name(forms, 0, 0, 0), "d");
        Check.same("its nets", forms.module(0, 1), 0);
        Check.refused("the module before", () -> forms.module(1, 0));
        Check.same("eight in place of one", Check.read(forms, S, Check.rows(8, "m #;e;")), 8);
        Check.same("none in place of eight", forms.read(S), 0);
        Check.same("count(0) of none", forms.count(0), 0);
        Check.refused("a module of none", () -> forms.module(0, 0));
        Check.same("write of none", forms.write(S, 0), NetlistForms.NONE);
    }

    private static void theseStay() {
        Check.sentence("Promise 4", "-1 less the fault: then these stay");
        NetlistForms forms = Check.of(S, "m x;w a 3;a a a;u y z a;e;");
        Check.same("a fault at 0", Check.read(forms, S, ";"), -1);
        Check.same("a fault at 1", Check.read(forms, S, " ;"), -2);
        Check.same("a text too short", Check.read(forms, S, "m q;"), -5);
        Check.same("a link that does not fit", Check.read(forms, S, "m q;u r s -;e;m r;e;"), -1 - 10);
        Check.same("a ring", Check.read(forms, S, "m q;u q s;e;"), -3);
        Check.same("count(0)", forms.count(0), 1);
        Check.same("name", Check.name(forms, 0, 0, 0), "x");
        Check.same("width", forms.net(0, 0, 1), 3);
        Check.same("assigns", forms.module(0, 3), 1);
        Check.same("instance's place", forms.instance(0, 0, 2), 20);
        Check.same("joined", forms.joined(0, 0, 0, 2), 2);
    }

    private static void theTapeStays() {
        Check.sentence("Promise 4", "IndexOutOfBoundsException (the tape stays).");
        NetlistForms forms = Check.of(S, "m x;e;");
        Check.put(forms, "m y;e;m z;e;");
        Check.refused("read(-1)", () -> forms.read(-1));
        Check.refused("read(2)", () -> forms.read(2));
        Check.refused("read(256)", () -> forms.read(256));
        Check.refused("read(MIN)", () -> forms.read(Integer.MIN_VALUE));
        Check.refused("read(MAX)", () -> forms.read(Integer.MAX_VALUE));
        holds(forms, 12);
        Check.same("count(0)", forms.count(0), 1);
        Check.same("the tape as it was", forms.read(S), 2);
        Check.same("its first module", Check.name(forms, 0, 0, 0), "y");
    }

    private static void counts() {
        Check.sentence("Promise 12", "How many: what = 0 modules, 1 characters on the tape.");
        NetlistForms forms = Check.of(S, "m x;e;m y;e;");
        Check.put(forms, "m z;e");
        Check.same("count(0)", forms.count(0), 2);
        holds(forms, 5);
        Check.range("count", 2, what -> forms.count(what));
        Check.same("count(0) still", forms.count(0), 2);
        holds(forms, 5);
    }
}
