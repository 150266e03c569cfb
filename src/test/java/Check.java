/** What the hand-made tests share: counting wrong answers, letters, and a look at all that can be seen of an object. */
final class Check {
    private static int checks;
    private static int wrong;
    private static String about = "";

    private Check() {
    }

    /** What is said ahead of each wrong answer from here on. */
    static void about(String words) {
        about = words;
    }

    static void due(String what, long got, long want) {
        checks++;
        if (got != want) {
            wrong++;
            System.out.println(about + what + " answered " + got + ", due is " + want);
        }
    }

    static void sameText(String what, String got, String want) {
        checks++;
        if (!got.equals(want)) {
            wrong++;
            System.out.println(about + what + " is\n  " + got + "\ndue is\n  " + want);
        }
    }

    /** Each of the wanted values must be what at(box, first), at(box, first + 1) .. answer. */
    static void dueAt(LaidOutBoxes x, int box, int first, int... wanted) {
        for (int i = 0; i < wanted.length; i++) {
            due("at(" + box + ", " + (first + i) + ")", x.at(box, first + i), wanted[i]);
        }
    }

    /** Place and SIZE of a BOX. */
    static void duePlace(LaidOutBoxes x, int box, int left, int upper, int wide, int high) {
        dueAt(x, box, 0, left, upper);
        dueAt(x, box, 4, wide, high);
    }

    static void dueBounds(LaidOutBoxes x, int box, int... wanted) {
        for (int i = 0; i < 4; i++) {
            due("bounds(" + box + ", " + i + ")", x.bounds(box, i), wanted[i]);
        }
    }

    static int read(LaidOutBoxes x, int parent, String letters) {
        for (int i = 0; i < letters.length(); i++) {
            x.letter(letters.charAt(i));
        }
        return x.reads(parent);
    }

    /** A new object that holds the TREE, LAID OUT on a SCREEN. */
    static LaidOutBoxes onScreen(int wide, int high, String letters) {
        LaidOutBoxes x = tree(letters);
        x.screen(wide, high);
        x.lays();
        return x;
    }

    /** A new object that holds the TREE. */
    static LaidOutBoxes tree(String letters) {
        LaidOutBoxes x = new LaidOutBoxes();
        int came = read(x, -1, letters);
        if (came <= 0) {
            due("reads(-1) of " + letters, came, 1);
        }
        return x;
    }

    static LaidOutBoxes laidTree(String letters) {
        LaidOutBoxes x = tree(letters);
        x.lays();
        return x;
    }

    static String print(LaidOutBoxes x, int box) {
        StringBuilder text = new StringBuilder();
        int length = x.printed(box, -1);
        for (int i = 0; i < length; i++) {
            text.append((char) x.printed(box, i));
        }
        return text.toString();
    }

    /** All that calls tell without changing anything. */
    static String all(LaidOutBoxes x) {
        StringBuilder text = new StringBuilder();
        for (int what = 0; what <= 13; what++) {
            text.append(x.told(what)).append(' ');
        }
        for (int box = 0; box < 24; box++) {
            for (int what = 0; what <= 14; what++) {
                text.append(x.of(box, what)).append(' ').append(x.at(box, what)).append(' ');
            }
            for (int i = 0; i < 8; i++) {
                text.append(x.child(box, i)).append(' ').append(x.bounds(box, i)).append(' ');
            }
        }
        for (int tape = 0; tape < 4; tape++) {
            for (int i = 0; i < 60; i++) {
                text.append(x.peek(tape, i)).append(' ');
            }
        }
        int seed = x.seed(0);
        x.seed(seed);
        return text.append(seed).toString();
    }

    /** Says how it went, and ends with exit code 1 if something was wrong. */
    static void end(String test) {
        System.out.println(test + ": " + checks + " checks, " + wrong + " wrong");
        if (wrong > 0) {
            System.exit(1);
        }
    }
}
