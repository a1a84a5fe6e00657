import java.util.function.IntSupplier;
import java.util.function.IntUnaryOperator;

/** What the tests have in common: answers against what is due, and objects with a text on the tape. */
final class Check {
    static final int LONG = 0;
    static final int SHORT = 1;
    /** Stands in a text for the place of the fault; no text of the tests has it as a word. */
    static final char MARK = '@';
    /** Stands in the pattern of a row for the letter that tells its names apart. */
    static final char LETTER = '#';
    static final int MOST_CALLS = 512;

    private static int right = 0;
    private static int wrong = 0;
    private static String named = "";
    private static int sentences = 0;
    private static int answersBefore = 0;

    private Check() {
    }

    /** Names the sentence of the document that the answers behind it are held to. */
    static void sentence(String where, String words) {
        refuseEmptySentence();
        named = where + ", \"" + words + "\": ";
        sentences++;
        answersBefore = right + wrong;
    }

    /** A sentence without an answer behind it would pass whatever the program does. */
    private static void refuseEmptySentence() {
        if (sentences > 0 && answersBefore == right + wrong) {
            throw new IllegalStateException(named + "nothing is asked");
        }
    }

    static void same(String what, Object got, Object due) {
        if (got.equals(due)) {
            right++;
        } else {
            wrong++;
            System.out.println(named + what + " answered " + got + ", due is " + due);
        }
    }

    static void refused(String what, IntSupplier call) {
        String got;
        try {
            got = "" + call.getAsInt();
        } catch (IndexOutOfBoundsException due) {
            got = "IndexOutOfBoundsException";
        }
        same(what, got, "IndexOutOfBoundsException");
    }

    /** The numbers 0 to many - 1 are taken, those on either side are refused. */
    static void range(String what, int many, IntUnaryOperator call) {
        for (int k : new int[] {0, many - 1}) {
            if (k >= 0 && k < many) {
                taken(what + " " + k, () -> call.applyAsInt(k));
            }
        }
        for (int k : new int[] {-1, many, many + 1, Integer.MIN_VALUE, Integer.MAX_VALUE}) {
            refused(what + " " + k, () -> call.applyAsInt(k));
        }
    }

    static void taken(String what, IntSupplier call) {
        String got = "an answer";
        try {
            call.getAsInt();
        } catch (IndexOutOfBoundsException notDue) {
            got = "IndexOutOfBoundsException";
        }
        same(what, got, "an answer");
    }

    static void end(String test) {
        refuseEmptySentence();
        System.out.println(test + ": " + (sentences > 0 ? sentences + " sentences, " : "")
            + right + " answers right, " + wrong + " wrong");
        if (wrong > 0 || right == 0) {
            System.exit(1);
        }
    }

    /** Puts a text on the tape, and answers how many calls that took. */
    static int put(NetlistForms forms, String text) {
        int calls = 0;
        for (int i = 0; i < text.length(); i += 4) {
            int four = 0;
            for (int k = i; k < i + 4; k++) {
                four = four << 8 | (k < text.length() ? text.charAt(k) : 0);
            }
            if (!forms.units(four)) {
                throw new IllegalArgumentException("the tape does not take " + text);
            }
            calls++;
        }
        return calls;
    }

    static int read(NetlistForms forms, int form, String text) {
        put(forms, text);
        return forms.read(form);
    }

    /** A new object with the modules of a text that has no fault. */
    static NetlistForms of(int form, String text) {
        NetlistForms forms = new NetlistForms();
        int modules = read(forms, form, text);
        if (modules < 0) {
            throw new IllegalArgumentException("fault at " + (-1 - modules) + " of " + text);
        }
        return forms;
    }

    static void good(int form, int modules, String text) {
        same("read of " + text, read(new NetlistForms(), form, text), modules);
    }

    /** The text has the mark before the word that is the fault, or at its end. */
    static void fault(int form, String marked) {
        int place = marked.indexOf(MARK);
        String text = marked.substring(0, place) + marked.substring(place + 1);
        same("read of " + marked, read(new NetlistForms(), form, text), -1 - place);
    }

    static String name(NetlistForms forms, int sort, int a, int b) {
        StringBuilder name = new StringBuilder();
        for (int i = 0; forms.letter(sort, a, b, i) != NetlistForms.NONE; i++) {
            name.append((char) forms.letter(sort, a, b, i));
        }
        return name.toString();
    }

    /** All modules of a text printed; a new object takes over before one has had all its calls. */
    static String printed(int readForm, String text, int writeForm) {
        StringBuilder all = new StringBuilder();
        for (int round = 0; round < 1000; round++) {
            NetlistForms forms = new NetlistForms();
            int calls = put(forms, text) + 1;
            if (forms.read(readForm) < 0) {
                throw new IllegalArgumentException("fault in " + text);
            }
            for (; calls < MOST_CALLS; calls++) {
                int c = forms.write(writeForm, all.length());
                if (c == NetlistForms.NONE) {
                    return all.toString();
                }
                all.append((char) c);
            }
        }
        throw new IllegalStateException("printing does not end");
    }

    /** The pattern so many times, each with a letter of its own in place of the #. */
    static String rows(int many, String pattern) {
        StringBuilder all = new StringBuilder();
        for (int k = 0; k < many; k++) {
            all.append(pattern.replace(LETTER, (char) ('a' + k)));
        }
        return all.toString();
    }

    /** As rows, with a comma between. */
    static String list(int many, String pattern) {
        String all = rows(many, pattern + ",");
        return all.isEmpty() ? all : all.substring(0, all.length() - 1);
    }
}
