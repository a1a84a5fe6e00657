/**
 * Netlists in two texts, a long and a short one: read from a tape of characters, with the place of
 * the first fault, asked bit by bit, and printed in either text.
 */
public final class NetlistForms {
    public static final int NONE = -1;
    public static final int ZERO = -2;
    public static final int ONE = -3;

    private static final int LONG = 0;
    private static final int SHORT = 1;

    private static final int MOST_CHARACTERS = 1000;
    private static final int MOST_MODULES = 8;
    private static final int MOST_NETS = 16;
    private static final int MOST_INSTANCES = 12;
    private static final int MOST_LINKS = 16;
    private static final int MOST_ASSIGNS = 8;
    private static final int MOST_WIDTH = 8;
    private static final int MOST_DIGITS = 7;

    /** Above every place, so that the first of several faults is the least of their places. */
    private static final int NO_FAULT = MOST_CHARACTERS + 1;

    private final Words words = new Words();
    private final Reader longReader = new LongReader(words);
    private final Reader shortReader = new ShortReader(words);
    private final Printer printer = new Printer();
    private Design design = new Design();

    public NetlistForms() {
    }

    public boolean unit(int u) {
        if (!Words.isCharacter(u) || words.room() < 1) {
            return false;
        }
        words.append((char) u);
        return true;
    }

    public boolean units(int four) {
        int given = 0;
        for (int shift = 24; shift >= 0; shift -= 8) {
            int u = four >>> shift & 255;
            if (u != 0 && !Words.isCharacter(u)) {
                return false;
            }
            given += u == 0 ? 0 : 1;
        }
        if (given > words.room()) {
            return false;
        }
        for (int shift = 24; shift >= 0; shift -= 8) {
            int u = four >>> shift & 255;
            if (u != 0) {
                words.append((char) u);
            }
        }
        return true;
    }

    public int read(int form) throws IndexOutOfBoundsException {
        refuseUnless(form == LONG || form == SHORT);
        Design fresh = new Design();
        Reader reader = form == LONG ? longReader : shortReader;
        words.scan();
        int fault = reader.faultOf(fresh);
        words.clear();
        if (fault != NO_FAULT) {
            return -1 - fault;
        }
        design = fresh;
        return design.moduleCount;
    }

    public int module(int k, int what) throws IndexOutOfBoundsException {
        NetModule asked = moduleAt(k);
        switch (what) {
            case 0:
                return asked.portCount;
            case 1:
                return asked.netCount;
            case 2:
                return asked.bitCount;
            case 3:
                return asked.assignCount;
            case 4:
                return asked.instanceCount;
            case 5:
                return asked.below;
            default:
                throw new IndexOutOfBoundsException();
        }
    }

    public int net(int module, int k, int what) throws IndexOutOfBoundsException {
        Net asked = netAt(module, k);
        switch (what) {
            case 0:
                return asked.sort;
            case 1:
                return asked.width;
            case 2:
                return asked.firstBit;
            default:
                throw new IndexOutOfBoundsException();
        }
    }

    public int instance(int module, int k, int what) throws IndexOutOfBoundsException {
        Instance asked = instanceAt(module, k);
        switch (what) {
            case 0:
                return asked.kind == null ? NONE : asked.kind.index;
            case 1:
                return asked.pinCount();
            case 2:
                return asked.place;
            case 3:
                return asked.byName ? 1 : 0;
            default:
                throw new IndexOutOfBoundsException();
        }
    }

    public int joined(int module, int instance, int pin, int bit) throws IndexOutOfBoundsException {
        Instance asked = instanceAt(module, instance);
        refuseUnless(pin >= 0 && pin < asked.pinCount());
        refuseUnless(bit >= 0 && bit < asked.pinWidth(pin));
        Part part = asked.partAt(pin);
        return part == null ? NONE : part.bitAt(bit);
    }

    public int assign(int module, int k, int side, int bit) throws IndexOutOfBoundsException {
        NetModule asked = moduleAt(module);
        refuseUnless(k >= 0 && k < asked.assignCount);
        refuseUnless(side == 0 || side == 1);
        Part part = side == 0 ? asked.targets[k] : asked.sources[k];
        refuseUnless(bit >= 0 && bit < part.width());
        return part.bitAt(bit);
    }

    public int letter(int sort, int a, int b, int i) throws IndexOutOfBoundsException {
        refuseUnless(i >= 0);
        int found = Words.letterOf(nameOf(sort, a, b), i);
        return found == 0 ? NONE : found;
    }

    public int write(int form, int i) throws IndexOutOfBoundsException {
        refuseUnless(form == LONG || form == SHORT);
        refuseUnless(i >= 0);
        return printer.pick(design, form, i);
    }

    public int count(int what) throws IndexOutOfBoundsException {
        refuseUnless(what == 0 || what == 1);
        return what == 0 ? design.moduleCount : words.length;
    }

    private static void refuseUnless(boolean there) {
        if (!there) {
            throw new IndexOutOfBoundsException();
        }
    }

    private NetModule moduleAt(int k) {
        refuseUnless(k >= 0 && k < design.moduleCount);
        return design.modules[k];
    }

    private Net netAt(int module, int k) {
        NetModule home = moduleAt(module);
        refuseUnless(k >= 0 && k < home.netCount);
        return home.nets[k];
    }

    private Instance instanceAt(int module, int k) {
        NetModule home = moduleAt(module);
        refuseUnless(k >= 0 && k < home.instanceCount);
        return home.instances[k];
    }

    private long nameOf(int sort, int a, int b) {
        switch (sort) {
            case 0:
                return moduleAt(a).name;
            case 1:
                return netAt(a, b).name;
            case 2:
                return instanceAt(a, b).name;
            case 3:
                return instanceAt(a, b).of;
            default:
                throw new IndexOutOfBoundsException();
        }
    }

    /**
     * The tape, and the words on it with a cursor. A word that cannot stand is told by an
     * IllegalStateException; the cursor is then still on it, so that its place is the fault.
     *
     * A name has 8 characters at most and is held as a long, the first one in the highest byte:
     * names are compared at once and need no text to be kept.
     */
    private static final class Words {
        static final int MOST_LETTERS = 8;
        static final int MOST_NUMERALS = 2;

        static final int NAME = 0;
        static final int KEYWORD = 1;
        static final int NUMBER = 2;
        static final int SIGN = 3;
        static final int TOO_LONG = 4;
        static final int END = 5;

        private final char[] tape = new char[MOST_CHARACTERS];
        private int length = 0;

        // One more than the characters: the end of the text stands behind the last word.
        private final int[] places = new int[MOST_CHARACTERS + 1];
        private final int[] kinds = new int[MOST_CHARACTERS + 1];
        private final long[] values = new long[MOST_CHARACTERS + 1];
        private int wordCount = 0;
        private int at = 0;

        static boolean isCharacter(int u) {
            return u >= 32 && u <= 126 || u == 10;
        }

        static boolean isDigit(int c) {
            return c >= '0' && c <= '9';
        }

        static boolean isLetter(int c) {
            return c >= 'a' && c <= 'z' || c >= 'A' && c <= 'Z' || c == '_';
        }

        /** 0 behind the name. */
        static int letterOf(long name, int i) {
            return i < 0 || i >= MOST_LETTERS ? 0 : (int) (name >>> 56 - 8 * i) & 255;
        }

        static long packed(String text) {
            long name = 0;
            for (int i = 0; i < text.length() && i < MOST_LETTERS; i++) {
                name |= (long) text.charAt(i) << 56 - 8 * i;
            }
            return name;
        }

        static boolean isKeyword(long name) {
            return name == packed("module") || name == packed("input") || name == packed("output")
                || name == packed("wire") || name == packed("assign") || name == packed("end");
        }

        int room() {
            return MOST_CHARACTERS - length;
        }

        void append(char c) {
            if (length < MOST_CHARACTERS) {
                tape[length] = c;
                length++;
            }
        }

        void clear() {
            length = 0;
        }

        void scan() {
            wordCount = 0;
            at = 0;
            int place = behindBlanks(0);
            for (int n = 0; n < MOST_CHARACTERS && place < length; n++) {
                int end = rowEnd(place);
                addWord(place, end);
                place = behindBlanks(end);
            }
            places[wordCount] = length;
            kinds[wordCount] = END;
            values[wordCount] = 0;
        }

        private int behindBlanks(int from) {
            boolean inComment = false;
            for (int i = from; i < length; i++) {
                char c = tape[i];
                if (c == 10) {
                    inComment = false;
                } else if (!inComment && c == '/' && i + 1 < length && tape[i + 1] == '/') {
                    inComment = true;
                } else if (!inComment && c != ' ') {
                    return i;
                }
            }
            return length;
        }

        private int rowEnd(int from) {
            boolean digits = isDigit(tape[from]);
            if (!digits && !isLetter(tape[from])) {
                return from + 1;
            }
            for (int i = from + 1; i < length; i++) {
                if (!isDigit(tape[i]) && (digits || !isLetter(tape[i]))) {
                    return i;
                }
            }
            return length;
        }

        private void addWord(int from, int end) {
            places[wordCount] = from;
            if (isDigit(tape[from])) {
                values[wordCount] = numberIn(from, end);
                kinds[wordCount] = end - from > MOST_NUMERALS ? TOO_LONG : NUMBER;
            } else if (isLetter(tape[from])) {
                long name = nameIn(from, end);
                values[wordCount] = name;
                kinds[wordCount] = end - from > MOST_LETTERS ? TOO_LONG : isKeyword(name) ? KEYWORD : NAME;
            } else {
                values[wordCount] = tape[from];
                kinds[wordCount] = SIGN;
            }
            wordCount++;
        }

        private int numberIn(int from, int end) {
            int number = 0;
            for (int i = from; i < end && i < from + MOST_NUMERALS; i++) {
                number = number * 10 + tape[i] - '0';
            }
            return number;
        }

        private long nameIn(int from, int end) {
            long name = 0;
            for (int i = 0; i < MOST_LETTERS && from + i < end; i++) {
                name |= (long) tape[from + i] << 56 - 8 * i;
            }
            return name;
        }

        int place() {
            return places[at];
        }

        boolean isAtEnd() {
            return at >= wordCount;
        }

        boolean isNumber() {
            return kinds[at] == NUMBER;
        }

        boolean isSign(char sign) {
            return kinds[at] == SIGN && values[at] == sign;
        }

        boolean isText(String text) {
            return (kinds[at] == NAME || kinds[at] == KEYWORD) && values[at] == packed(text);
        }

        void step() {
            if (at < wordCount) {
                at++;
            }
        }

        /** Steps over the sign if it is there. */
        boolean skips(char sign) {
            boolean there = kinds[at] == SIGN && values[at] == sign;
            if (there) {
                at++;
            }
            return there;
        }

        void refuseIf(boolean cannotStand) {
            if (cannotStand) {
                throw new IllegalStateException();
            }
        }

        /** The name at the cursor, which stays on it for what else may be wrong with the name. */
        long name() {
            if (kinds[at] != NAME) {
                throw new IllegalStateException();
            }
            return values[at];
        }

        int takeNumber(int least, int most) {
            if (kinds[at] != NUMBER || values[at] < least || values[at] > most) {
                throw new IllegalStateException();
            }
            int number = (int) values[at];
            at++;
            return number;
        }

        void takeSign(char sign) {
            if (kinds[at] != SIGN || values[at] != sign) {
                throw new IllegalStateException();
            }
            at++;
        }

        void takeText(String text) {
            refuseIf(!isText(text));
            step();
        }
    }

    private static final class Net {
        /** A port of a long list whose input or output has not come yet. */
        static final int UNTOLD = -1;
        static final int INPUT = 0;
        static final int OUTPUT = 1;
        static final int WIRE = 2;

        final long name;
        int sort;
        int width;
        int firstBit = 0;

        Net(long name, int sort, int width) {
            this.name = name;
            this.sort = sort;
            this.width = width;
        }
    }

    /** An R of the document: a net, a bit or some bits of it, or a constant. */
    private static final class Part {
        static final int WHOLE = 0;
        static final int BIT = 1;
        static final int SPAN = 2;
        static final int CONSTANT = 3;

        final int shape;
        final int place;
        final Net net;
        final int high;
        final int low;
        final int digits;

        Part(int shape, int place, Net net, int high, int low) {
            this.shape = shape;
            this.place = place;
            this.net = net;
            this.high = high;
            this.low = low;
            this.digits = 0;
        }

        Part(int place, int width, int digits) {
            this.shape = CONSTANT;
            this.place = place;
            this.net = null;
            this.high = width - 1;
            this.low = 0;
            this.digits = digits;
        }

        int width() {
            return high - low + 1;
        }

        int bitAt(int bit) {
            if (net == null) {
                return (digits >> bit & 1) == 1 ? ONE : ZERO;
            }
            return net.firstBit + low + bit;
        }
    }

    private static final class Link {
        /** 0 if the link is by order. */
        final long port;
        /** Of the word that is wrong if the module has no port for this link. */
        final int place;
        /** null if the link is open. */
        final Part part;

        Link(long port, int place, Part part) {
            this.port = port;
            this.place = place;
            this.part = part;
        }
    }

    private static final class Instance {
        final long of;
        final long name;
        final int place;
        boolean byName = false;
        final Link[] links = new Link[MOST_LINKS];
        int linkCount = 0;
        /** null for a box. */
        NetModule kind = null;

        Instance(long of, long name, int place) {
            this.of = of;
            this.name = name;
            this.place = place;
        }

        boolean isFull() {
            return linkCount >= MOST_LINKS;
        }

        void addLink(Link link) {
            if (linkCount < MOST_LINKS) {
                links[linkCount] = link;
                linkCount++;
            }
        }

        Link linkTo(long port) {
            for (int k = 0; k < linkCount; k++) {
                if (links[k].port == port) {
                    return links[k];
                }
            }
            return null;
        }

        int pinCount() {
            return kind == null ? linkCount : kind.portCount;
        }

        long pinName(int pin) {
            return kind == null ? links[pin].port : kind.nets[pin].name;
        }

        int pinWidth(int pin) {
            if (kind != null) {
                return kind.nets[pin].width;
            }
            return links[pin].part == null ? 1 : links[pin].part.width();
        }

        /** What the pin is linked to, null if it is open. */
        Part partAt(int pin) {
            Link link = kind != null && byName ? linkTo(kind.nets[pin].name) : links[pin];
            return link == null ? null : link.part;
        }

        /** The first place at which the links do not fit the ports of the module. */
        int misfit() {
            if (kind == null) {
                return NO_FAULT;
            }
            if (!byName && linkCount < kind.portCount) {
                return place;
            }
            for (int k = 0; k < linkCount; k++) {
                Link link = links[k];
                Net port = byName ? kind.netAmong(kind.portCount, link.port) : kind.portAt(k);
                if (port == null) {
                    return link.place;
                }
                if (link.part != null && link.part.width() != port.width) {
                    return link.part.place;
                }
            }
            return NO_FAULT;
        }
    }

    private static final class NetModule {
        final int index;
        final long name;
        final int place;
        /** The ports, and behind them the wires. */
        final Net[] nets = new Net[MOST_NETS];
        int netCount = 0;
        int portCount = 0;
        int bitCount = 0;
        final Part[] targets = new Part[MOST_ASSIGNS];
        final Part[] sources = new Part[MOST_ASSIGNS];
        int assignCount = 0;
        final Instance[] instances = new Instance[MOST_INSTANCES];
        int instanceCount = 0;
        int below = 0;

        NetModule(int index, long name, int place) {
            this.index = index;
            this.name = name;
            this.place = place;
        }

        /** The net of that name among the first of them: all, or the ports alone. */
        Net netAmong(int many, long asked) {
            for (int k = 0; k < many && k < netCount; k++) {
                if (nets[k].name == asked) {
                    return nets[k];
                }
            }
            return null;
        }

        Net portAt(int k) {
            return k < portCount ? nets[k] : null;
        }

        boolean hasInstance(long asked) {
            for (int k = 0; k < instanceCount; k++) {
                if (instances[k].name == asked) {
                    return true;
                }
            }
            return false;
        }

        boolean canTakeNet(long asked) {
            return netCount < MOST_NETS && netAmong(netCount, asked) == null;
        }

        void addNet(Net net) {
            if (netCount >= MOST_NETS) {
                return;
            }
            int home = net.sort == Net.WIRE ? netCount : portCount;
            for (int k = netCount; k > home; k--) {
                nets[k] = nets[k - 1];
            }
            nets[home] = net;
            netCount++;
            portCount += net.sort == Net.WIRE ? 0 : 1;
        }

        void addAssign(Part target, Part source) {
            if (assignCount < MOST_ASSIGNS) {
                targets[assignCount] = target;
                sources[assignCount] = source;
                assignCount++;
            }
        }

        void addInstance(Instance made) {
            if (instanceCount < MOST_INSTANCES) {
                instances[instanceCount] = made;
                instanceCount++;
            }
        }

        boolean hasUntoldPort() {
            for (int k = 0; k < portCount; k++) {
                if (nets[k].sort == Net.UNTOLD) {
                    return true;
                }
            }
            return false;
        }

        void numberBits() {
            bitCount = 0;
            for (int k = 0; k < netCount; k++) {
                nets[k].firstBit = bitCount;
                bitCount += nets[k].width;
            }
        }

        int firstMisfit() {
            int first = NO_FAULT;
            for (int k = 0; k < assignCount; k++) {
                if (targets[k].width() != sources[k].width()) {
                    first = Math.min(first, sources[k].place);
                }
            }
            for (int k = 0; k < instanceCount; k++) {
                first = Math.min(first, instances[k].misfit());
            }
            return first;
        }

        /** A bit for each module that this one has an instance of. */
        int kindsWithin() {
            int kinds = 0;
            for (int k = 0; k < instanceCount; k++) {
                kinds |= instances[k].kind == null ? 0 : 1 << instances[k].kind.index;
            }
            return kinds;
        }

        int belowByKinds() {
            int most = 0;
            for (int k = 0; k < instanceCount; k++) {
                most = Math.max(most, instances[k].kind == null ? 0 : instances[k].kind.below + 1);
            }
            return most;
        }
    }

    /** All modules of one text. */
    private static final class Design {
        final NetModule[] modules = new NetModule[MOST_MODULES];
        int moduleCount = 0;

        NetModule moduleNamed(long asked) {
            for (int k = 0; k < moduleCount; k++) {
                if (modules[k].name == asked) {
                    return modules[k];
                }
            }
            return null;
        }

        boolean canTakeModule(long asked) {
            return moduleCount < MOST_MODULES && moduleNamed(asked) == null;
        }

        NetModule addModule(long name, int place) {
            NetModule made = new NetModule(moduleCount, name, place);
            if (moduleCount < MOST_MODULES) {
                modules[moduleCount] = made;
                moduleCount++;
            }
            return made;
        }

        /** Finds what each instance is of, and the faults that only the whole text can show. */
        int faultAsWhole() {
            for (int k = 0; k < moduleCount; k++) {
                nameKinds(modules[k]);
            }
            int first = NO_FAULT;
            for (int k = 0; k < moduleCount; k++) {
                first = Math.min(first, modules[k].firstMisfit());
            }
            if (first == NO_FAULT) {
                first = firstInRing();
            }
            if (first == NO_FAULT) {
                measureBelow();
            }
            return first;
        }

        private void nameKinds(NetModule home) {
            for (int k = 0; k < home.instanceCount; k++) {
                home.instances[k].kind = moduleNamed(home.instances[k].of);
            }
        }

        private int firstInRing() {
            int[] reached = new int[MOST_MODULES];
            for (int k = 0; k < moduleCount; k++) {
                reached[k] = modules[k].kindsWithin();
            }
            for (int over = 0; over < moduleCount; over++) {
                for (int k = 0; k < moduleCount; k++) {
                    if ((reached[k] >> over & 1) == 1) {
                        reached[k] |= reached[over];
                    }
                }
            }
            for (int k = 0; k < moduleCount; k++) {
                if ((reached[k] >> k & 1) == 1) {
                    return modules[k].place;
                }
            }
            return NO_FAULT;
        }

        /** Without rings no chain is longer than the modules are many: so many rounds settle it. */
        private void measureBelow() {
            for (int round = 0; round < moduleCount; round++) {
                for (int k = 0; k < moduleCount; k++) {
                    modules[k].below = modules[k].belowByKinds();
                }
            }
        }
    }

    /** What reading the long and the short text have in common. */
    private abstract static class Reader {
        final Words words;
        Design design = null;
        /** null between two modules. */
        NetModule current = null;

        Reader(Words words) {
            this.words = words;
        }

        /** Reads a module's head, an item of a module, or its end. */
        abstract void readPiece();

        abstract Part readPart();

        int faultOf(Design fresh) {
            design = fresh;
            current = null;
            try {
                for (int n = 0; n <= MOST_CHARACTERS && (current != null || !words.isAtEnd()); n++) {
                    readPiece();
                }
            } catch (IllegalStateException cannotStand) {
                return words.place();
            }
            return fresh.faultAsWhole();
        }

        void startModule() {
            long name = words.name();
            words.refuseIf(!design.canTakeModule(name));
            current = design.addModule(name, words.place());
            words.step();
        }

        void endModule() {
            current.numberBits();
            current = null;
        }

        /** In the long text a sign stands between the sides of an assign, in the short one none. */
        void readAssign(boolean hasSign) {
            words.refuseIf(current.assignCount >= MOST_ASSIGNS);
            words.step();
            Part target = readPart();
            if (hasSign) {
                words.takeSign('=');
            }
            Part source = readPart();
            words.takeSign(';');
            current.addAssign(target, source);
        }

        Instance startInstance() {
            long of = words.name();
            words.step();
            long name = words.name();
            words.refuseIf(current.instanceCount >= MOST_INSTANCES || current.hasInstance(name));
            Instance made = new Instance(of, name, words.place());
            current.addInstance(made);
            words.step();
            return made;
        }

        void readOrderedLink(Instance made) {
            words.refuseIf(made.isFull());
            int place = words.place();
            Part part = words.skips('-') ? null : readPart();
            made.addLink(new Link(0, place, part));
        }

        /** A net with, perhaps, one sign and a bit behind it, and another sign and a lower bit. */
        Part readNetPart(char before, char between) {
            int place = words.place();
            Net net = current.netAmong(current.netCount, words.name());
            words.refuseIf(net == null || net.sort == Net.UNTOLD);
            words.step();
            if (!words.skips(before)) {
                return new Part(Part.WHOLE, place, net, net.width - 1, 0);
            }
            int high = words.takeNumber(0, net.width - 1);
            if (!words.skips(between)) {
                return new Part(Part.BIT, place, net, high, high);
            }
            int low = words.takeNumber(0, high);
            return new Part(Part.SPAN, place, net, high, low);
        }

        /** The K of a constant, with a number of digits between the two. */
        Part readDigits(int place, int least, int most) {
            long name = words.name();
            words.refuseIf(Words.letterOf(name, 0) != 'b');
            int width = 0;
            int digits = 0;
            for (int i = 1; i < Words.MOST_LETTERS && Words.letterOf(name, i) != 0; i++) {
                int digit = Words.letterOf(name, i) - '0';
                words.refuseIf(digit != 0 && digit != 1);
                digits = digits * 2 + digit;
                width++;
            }
            words.refuseIf(width < least || width > most);
            words.step();
            return new Part(place, width, digits);
        }
    }

    private static final class LongReader extends Reader {
        LongReader(Words words) {
            super(words);
        }

        void readPiece() {
            if (current == null) {
                readHead();
            } else if (words.isText("input")) {
                readNets(Net.INPUT);
            } else if (words.isText("output")) {
                readNets(Net.OUTPUT);
            } else if (words.isText("wire")) {
                readNets(Net.WIRE);
            } else if (words.isText("assign")) {
                readAssign(true);
            } else if (words.isText("end")) {
                words.refuseIf(current.hasUntoldPort());
                words.step();
                endModule();
            } else {
                readInstance();
            }
        }

        private void readHead() {
            words.takeText("module");
            startModule();
            words.takeSign('(');
            boolean more = !words.isSign(')');
            for (int k = 0; more && k <= MOST_NETS; k++) {
                long name = words.name();
                words.refuseIf(!current.canTakeNet(name));
                current.addNet(new Net(name, Net.UNTOLD, 0));
                words.step();
                more = words.skips(',');
            }
            words.takeSign(')');
            words.takeSign(';');
        }

        private void readNets(int sort) {
            words.step();
            int width = readRange();
            boolean more = true;
            for (int k = 0; more && k <= MOST_NETS; k++) {
                if (sort == Net.WIRE) {
                    tellWire(width);
                } else {
                    tellPort(sort, width);
                }
                more = words.skips(',');
            }
            words.takeSign(';');
        }

        private int readRange() {
            if (!words.skips('[')) {
                return 1;
            }
            int high = words.takeNumber(0, MOST_WIDTH - 1);
            words.takeSign(':');
            words.takeNumber(0, 0);
            words.takeSign(']');
            return high + 1;
        }

        private void tellWire(int width) {
            long name = words.name();
            words.refuseIf(!current.canTakeNet(name));
            current.addNet(new Net(name, Net.WIRE, width));
            words.step();
        }

        private void tellPort(int sort, int width) {
            Net port = current.netAmong(current.netCount, words.name());
            words.refuseIf(port == null || port.sort != Net.UNTOLD);
            port.sort = sort;
            port.width = width;
            words.step();
        }

        private void readInstance() {
            Instance made = startInstance();
            words.takeSign('(');
            made.byName = words.isSign('.');
            boolean more = !words.isSign(')');
            for (int k = 0; more && k <= MOST_LINKS; k++) {
                if (made.byName) {
                    readNamedLink(made);
                } else {
                    readOrderedLink(made);
                }
                more = words.skips(',');
            }
            words.takeSign(')');
            words.takeSign(';');
        }

        private void readNamedLink(Instance made) {
            words.refuseIf(made.isFull());
            words.takeSign('.');
            long port = words.name();
            words.refuseIf(made.linkTo(port) != null);
            int place = words.place();
            words.step();
            words.takeSign('(');
            Part part = words.isSign(')') ? null : readPart();
            words.takeSign(')');
            made.addLink(new Link(port, place, part));
        }

        Part readPart() {
            if (words.isNumber()) {
                int place = words.place();
                int width = words.takeNumber(1, MOST_DIGITS);
                words.takeSign('\'');
                return readDigits(place, width, width);
            }
            Part part = readNetPart('[', ':');
            if (part.shape != Part.WHOLE) {
                words.takeSign(']');
            }
            return part;
        }
    }

    private static final class ShortReader extends Reader {
        ShortReader(Words words) {
            super(words);
        }

        void readPiece() {
            if (current == null) {
                words.takeText("m");
                startModule();
                words.takeSign(';');
            } else if (words.isText("i")) {
                readNet(Net.INPUT);
            } else if (words.isText("o")) {
                readNet(Net.OUTPUT);
            } else if (words.isText("w")) {
                readNet(Net.WIRE);
            } else if (words.isText("a")) {
                readAssign(false);
            } else if (words.isText("u")) {
                readInstance();
            } else {
                words.takeText("e");
                words.takeSign(';');
                endModule();
            }
        }

        private void readNet(int sort) {
            words.step();
            long name = words.name();
            words.refuseIf(!current.canTakeNet(name));
            words.step();
            current.addNet(new Net(name, sort, words.takeNumber(1, MOST_WIDTH)));
            words.takeSign(';');
        }

        private void readInstance() {
            words.step();
            Instance made = startInstance();
            for (int k = 0; k <= MOST_LINKS && !words.isSign(';'); k++) {
                readOrderedLink(made);
            }
            words.takeSign(';');
        }

        Part readPart() {
            int place = words.place();
            if (words.skips('\'')) {
                return readDigits(place, 1, MOST_DIGITS);
            }
            return readNetPart('.', '.');
        }
    }

    /**
     * Prints the modules without keeping the text: it only counts the characters up to the one that
     * is asked for, since a kept text could be many times as long as the tape.
     */
    private static final class Printer {
        private boolean isLong = true;
        private int before = 0;
        private int found = NONE;

        int pick(Design design, int form, int place) {
            isLong = form == LONG;
            before = place;
            found = NONE;
            for (int k = 0; k < design.moduleCount && found == NONE; k++) {
                if (isLong) {
                    printLong(design.modules[k]);
                } else {
                    printShort(design.modules[k]);
                }
            }
            return found;
        }

        private void put(char c) {
            if (before == 0) {
                found = c;
            }
            before--;
        }

        private void putDigit(int digit) {
            put((char) ('0' + digit));
        }

        private void putText(String text) {
            for (int i = 0; i < text.length(); i++) {
                put(text.charAt(i));
            }
        }

        private void putName(long name) {
            for (int i = 0; i < Words.MOST_LETTERS && Words.letterOf(name, i) != 0; i++) {
                put((char) Words.letterOf(name, i));
            }
        }

        private void printLong(NetModule module) {
            putText("module ");
            putName(module.name);
            put('(');
            for (int k = 0; k < module.portCount; k++) {
                putText(k == 0 ? "" : ",");
                putName(module.nets[k].name);
            }
            putText(");\n");
            for (int k = 0; k < module.netCount; k++) {
                printLongNet(module.nets[k]);
            }
            for (int k = 0; k < module.assignCount; k++) {
                putText("assign ");
                printPart(module.targets[k]);
                put('=');
                printPart(module.sources[k]);
                putText(";\n");
            }
            for (int k = 0; k < module.instanceCount; k++) {
                printLongInstance(module.instances[k]);
            }
            putText("end\n");
        }

        private void printLongNet(Net net) {
            putText(net.sort == Net.INPUT ? "input " : net.sort == Net.OUTPUT ? "output " : "wire ");
            if (net.width > 1) {
                put('[');
                putDigit(net.width - 1);
                putText(":0] ");
            }
            putName(net.name);
            putText(";\n");
        }

        private void printLongInstance(Instance instance) {
            boolean named = instance.kind != null || instance.byName;
            putName(instance.of);
            put(' ');
            putName(instance.name);
            put('(');
            for (int pin = 0; pin < instance.pinCount(); pin++) {
                putText(pin == 0 ? "" : ",");
                if (named) {
                    printNamedLink(instance.pinName(pin), instance.partAt(pin));
                } else {
                    printOrderedLink(instance.partAt(pin));
                }
            }
            putText(");\n");
        }

        private void printNamedLink(long port, Part part) {
            put('.');
            putName(port);
            put('(');
            if (part != null) {
                printPart(part);
            }
            put(')');
        }

        private void printOrderedLink(Part part) {
            if (part == null) {
                put('-');
            } else {
                printPart(part);
            }
        }

        private void printShort(NetModule module) {
            putText("m ");
            putName(module.name);
            putText(";\n");
            for (int k = 0; k < module.netCount; k++) {
                printShortNet(module.nets[k]);
            }
            for (int k = 0; k < module.assignCount; k++) {
                putText("a ");
                printPart(module.targets[k]);
                put(' ');
                printPart(module.sources[k]);
                putText(";\n");
            }
            for (int k = 0; k < module.instanceCount; k++) {
                printShortInstance(module.instances[k]);
            }
            putText("e;\n");
        }

        private void printShortNet(Net net) {
            putText(net.sort == Net.INPUT ? "i " : net.sort == Net.OUTPUT ? "o " : "w ");
            putName(net.name);
            put(' ');
            putDigit(net.width);
            putText(";\n");
        }

        private void printShortInstance(Instance instance) {
            putText("u ");
            putName(instance.of);
            put(' ');
            putName(instance.name);
            for (int pin = 0; pin < instance.pinCount(); pin++) {
                put(' ');
                printOrderedLink(instance.partAt(pin));
            }
            putText(";\n");
        }

        private void printPart(Part part) {
            if (part.net == null) {
                putConstant(part);
                return;
            }
            putName(part.net.name);
            if (part.shape == Part.WHOLE) {
                return;
            }
            put(isLong ? '[' : '.');
            putDigit(part.high);
            if (part.shape == Part.SPAN) {
                put(isLong ? ':' : '.');
                putDigit(part.low);
            }
            if (isLong) {
                put(']');
            }
        }

        private void putConstant(Part part) {
            if (isLong) {
                put((char) ('0' + part.width()));
            }
            put('\'');
            put('b');
            for (int bit = part.width() - 1; bit >= 0; bit--) {
                put(part.bitAt(bit) == ONE ? '1' : '0');
            }
        }
    }
}
