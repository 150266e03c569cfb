/** Edges of promises 10 and 11: TREES in words, read and printed. */
final class TreeEdges {
    private static final int NONE = -1, STATE = -3;
    private static final int LOWEST = Integer.MIN_VALUE, HIGHEST = Integer.MAX_VALUE;
    private static final String[] NAMES = {"block", "text", "pad", "limit", "centre", "fit", "ratio", "layers", "row", "column"};
    private static final int[] NUMBERS = {2, 2, 2, 4, 0, 0, 2, 1, 2, 2};

    private TreeEdges() {
    }

    static void all() {
        names();
        numbers();
        sharesAndChildren();
        numberFaults();
        childFaults();
        letterFaults();
        severalFaults();
        howBoxesCome();
        reads();
        readsRefused();
        printedWords();
        printed();
    }

    private static void due(String what, long got, long want) {
        Edge.due(what, got, want);
    }

    private static void good(String letters, int boxes) {
        due(letters, Check.read(new LaidOutBoxes(), -1, letters), boxes);
    }

    private static void fault(String letters, int place) {
        LaidOutBoxes x = new LaidOutBoxes();
        due(letters, Check.read(x, -1, letters), -100 - place);
        due(letters + ": no BOX, no letters", x.told(9) + x.told(10), 0);
    }

    private static String whole(int kind) {
        StringBuilder tree = new StringBuilder(NAMES[kind]);
        for (int i = 0; i < NUMBERS[kind]; i++) {
            tree.append(" 1");
        }
        return tree.toString();
    }

    private static void names() {
        Edge.of(10, "NAMES: block text pad limit centre fit ratio layers row column.");
        for (int kind = 0; kind < 10; kind++) {
            LaidOutBoxes x = new LaidOutBoxes();
            due(NAMES[kind], Check.read(x, -1, whole(kind)), 1);
            due(NAMES[kind] + " is the KIND", x.of(0, 0), kind);
            for (int length = 0; length < NAMES[kind].length(); length++) {
                fault(NAMES[kind].substring(0, length), length);
                fault(NAMES[kind].substring(0, length) + "~", length);
                fault(NAMES[kind].substring(0, length) + Character.toUpperCase(NAMES[kind].charAt(length)), length);
            }
        }
        fault("rot", 2);
        fault("cn", 1);
        fault("lb", 1);
        fault("columm 0 0", 5);
        fault(" fit", 0);
        fault("fitt", 3);
    }

    private static void numbers() {
        Edge.of(10, "NAME, its numbers (a blank ahead of each; 1 or 2 figures, as many as stand there up to 2),");
        good("row 0 0", 1);
        good("row 00 00", 1);
        good("row 04 20", 1);
        good("block 99 99", 1);
        LaidOutBoxes x = Check.tree("limit 09 99 0 05");
        due("as told", x.of(0, 3) * 1000000 + x.of(0, 4) * 10000 + x.of(0, 5) * 100 + x.of(0, 6), 9990005);
        fault("row", 3);
        fault("row ", 4);
        fault("row 1", 5);
        fault("row 1 ", 6);
        fault("row  1 1", 4);
        fault("row 1  1", 6);
        fault("row1 1", 3);
        fault("row 1,1", 5);
        fault("row +1 1", 4);
        fault("row -1 1", 4);
        fault("row 1 1 1", 7);
        fault("row 1 1 ", 7);
        fault("centre 1", 6);
        fault("layers 1 1", 8);
        fault("limit 1 1 1", 11);
    }

    private static void sharesAndChildren() {
        Edge.of(10, "maybe * and a figure (SHARE), maybe (, TREES with , between, and ).");
        LaidOutBoxes x = Check.tree("row 1 1*9(fit*0,fit*1,fit)");
        due("SHARES", x.of(0, 7) * 1000 + x.of(1, 7) * 100 + x.of(2, 7) * 10 + x.of(3, 7), 9010);
        fault("fit*", 4);
        fault("fit**1", 4);
        fault("fit *1", 3);
        fault("fit* 1", 4);
        fault("fit*10", 5);
        fault("fit*1*1", 5);
        fault("fit(", 4);
        fault("fit()", 4);
        fault("fit( fit)", 4);
        fault("fit (fit)", 3);
        fault("fit(fit", 7);
        fault("fit(fit ", 7);
        fault("fit(fit) ", 8);
        fault("fit(fit))", 8);
        fault("fit(fit)fit", 8);
        fault("fit(fit)*1", 8);
        fault("fit(fit)(fit)", 8);
        fault("row 1 1(fit,)", 12);
        fault("row 1 1(fit,,fit)", 12);
        fault("row 1 1(,fit)", 8);
        fault("row 1 1(fit;fit)", 11);
        fault("fit,fit", 3);
        fault("fit)", 3);
        fault("(fit)", 0);
        good("fit(fit(fit(fit)))", 4);
        good("row 1 1(fit(fit),fit(fit(fit)),fit)", 7);
        String deep = "fit(".repeat(23) + "fit" + ")".repeat(23);
        good(deep, 24);
        fault(deep + ")", 118);
        fault(deep.substring(1), 0);
        fault(deep.substring(0, 117), 117);
        Check.sameText("24 deep", Check.print(Check.tree(deep), 0), deep);
    }

    private static void numberFaults() {
        Edge.of(10, "FAULT: the place of: a number that may not be, its first figure (of b below a, of d below c,"
                + " too);");
        int[][] highest = {{99, 99}, {12, 31}, {20, 20}, {99, 99, 99, 99}, {}, {}, {9, 9}, {2}, {4, 20}, {4, 20}};
        for (int kind = 0; kind < 10; kind++) {
            for (int i = 0; i < NUMBERS[kind]; i++) {
                StringBuilder ahead = new StringBuilder(NAMES[kind]);
                StringBuilder behind = new StringBuilder();
                for (int j = 0; j < NUMBERS[kind]; j++) {
                    (j < i ? ahead : j > i ? behind : new StringBuilder()).append(kind == 3 && j % 2 == 1 ? " 99" : " 1");
                }
                ahead.append(' ');
                good(ahead.toString() + highest[kind][i] + behind, 1);
                if (highest[kind][i] < 99) {
                    fault(ahead.toString() + (highest[kind][i] + 1) + behind, ahead.length());
                }
                if (kind == 6) {
                    fault(ahead + "0" + behind, ahead.length());
                    fault(ahead + "00" + behind, ahead.length());
                }
            }
        }
        good("limit 5 5 5 5", 1);
        fault("limit 5 4 5 5", 8);
        fault("limit 5 04 5 5", 8);
        fault("limit 50 49 5 5", 9);
        fault("limit 5 5 5 4", 12);
        fault("limit 5 4 5 4", 8);
        fault("limit 5 4", 8);
        fault("limit 10 1", 9);
    }

    private static void childFaults() {
        Edge.of(10, "a CHILD that its PARENT doesn't take, a BOX there is no number left for, its first letter;");
        fault("block 1 1(fit)", 10);
        fault("text 1 1(fit)", 9);
        fault("fit(fit,fit)", 8);
        fault("fit(fit(fit),fit)", 13);
        fault("row 1 1(fit,fit,fit,fit,fit,fit,fit,fit,fit)", 40);
        good("row 1 1(fit,fit,fit,fit,fit,fit,fit,fit)", 9);
        fault("block 1 1(", 10);
        fault("fit(fit,", 8);
        LaidOutBoxes x = new LaidOutBoxes();
        for (int i = 0; i < 22; i++) {
            x.comes(8, i == 0 ? -1 : (i - 1) / 8, 0, 0, 0, 0);
        }
        due("two numbers left, three BOXES", Check.read(x, 21, "fit(fit(fit))"), -108);
        due("two numbers left, the second one wrong", Check.read(x, 21, "fit(fit("), -108);
        due("a fault ahead of that", Check.read(x, 21, "fit(fix(fit))"), -106);
        due("no BOX came", x.told(9), 22);
        due("two BOXES", Check.read(x, 21, "fit(fit)"), 2);
        due("none left", Check.read(x, 21, "fit"), -100);
        due("none left, no letters", Check.read(x, 21, ""), -100);
        due("24 came", x.told(9), 24);
    }

    private static void letterFaults() {
        Edge.of(10, "else the first letter with which no TREE goes on (how many there are, if too few).");
        fault("", 0);
        fault("x", 0);
        String tree = "row 1 1*1(fit,limit 1 1 1 1*2(ratio 1 1),column 1 1)";
        good(tree, 5);
        for (int length = 0; length < tree.length(); length++) {
            boolean whole = length == "row 1 1".length() || length == "row 1 1*1".length();
            due(tree.substring(0, length), Check.read(new LaidOutBoxes(), -1, tree.substring(0, length)),
                    whole ? 1 : -100 - length);
            fault(tree.substring(0, length) + "~", length);
            fault(tree.substring(0, length) + "~" + tree.substring(length), length);
        }
        fault(tree + "~", tree.length());
        fault(tree + tree, tree.length());
    }

    private static void severalFaults() {
        Edge.of(10, "Of several FAULTS of a TREE the one whose place is least; a third figure of a number is a letter"
                + " with which none goes on.");
        fault("row 100 0", 4);
        fault("row 040 0", 6);
        fault("row 004 0", 6);
        fault("row 1 200", 8);
        fault("row 1 210", 6);
        fault("block 999 1", 8);
        fault("block 000 1", 8);
        fault("row 5", 4);
        fault("row 9x", 4);
        fault("row 1 1(row 5 x", 12);
        fault("block 1 1(row 9 9", 10);
        fault("fit(fit,row 9 9", 8);
        fault("limit 1 0 1 0(fit,fit)", 8);
    }

    private static void howBoxesCome() {
        Edge.of(10, "BOXES come as they begin, each as by comes(), its SHARE with it.");
        LaidOutBoxes x = Check.tree("row 1 1(pad 1 1(fit*3),row 1 1*2(fit,fit),centre)");
        int[] parents = {-1, 0, 1, 0, 3, 3, 0};
        for (int box = 0; box < parents.length; box++) {
            due("PARENT of " + box, x.of(box, 1), parents[box]);
            due("SHARE of " + box, x.of(box, 7), box == 2 ? 3 : box == 3 ? 2 : 0);
        }
        due("all DIRTY", x.told(4), 127);
        due("THE TOP is on THE LIST", x.told(5), 1);
        LaidOutBoxes y = Check.laidTree("pad 0 0(limit 5 5 5 5(layers 0))");
        Check.read(y, 2, "fit*1");
        due("who gets it is MARKED", y.told(4) * 100 + y.told(5), 1204);
        y.lays();
        y.asks(2, 0);
        Check.read(y, 2, "fit*1");
        due("once, its SHARE with it", y.told(5), 1);
        y.lays();
        y.asks(2, 0);
        Check.read(y, 2, "fit(fit)");
        due("and once more for the second one", y.told(5), 5);
    }

    private static void reads() {
        Edge.of(10, "The letters, which are none then, become a TREE, that comes as the last CHILD of a PARENT (-1:"
                + " as THE TOP): how many BOXES; -100 less the FAULT.");
        LaidOutBoxes x = new LaidOutBoxes();
        due("as THE TOP", Check.read(x, -1, "row 1 1(fit)"), 2);
        due("none then", x.told(10), 0);
        due("THE TOP", x.told(2), 0);
        due("as the last CHILD", Check.read(x, 0, "centre(fit)") * 10 + x.child(0, 1), 22);
        due("of another", Check.read(x, 1, "fit") * 10 + x.child(1, 0), 14);
        due("letters of an earlier TREE are none", Check.read(x, 0, "fi"), -102);
        due("letters of an earlier TREE are none", Check.read(x, 0, "centre("), -107);
        due("FAULT 0", Check.read(x, 0, "!"), -100);
        due("FAULT 7", Check.read(x, 0, "row 1 1!"), -107);
        String tooFew = "row 00 00(fit,fit,fit,fit,fit,fit,fit,row 00 00(fit,fit,fit,fit,fit,fit,fit,"
                + "row 00 00(fit,fit,fit,fit,fit,fit,row 01 01(";
        due("letters", tooFew.length(), 120);
        due("the greatest FAULT: 120 are too few", Check.read(new LaidOutBoxes(), -1, tooFew), -220);
    }

    private static void readsRefused() {
        Edge.of(10, "NONE: parent (the letters stay); STATE: as comes() (they stay).");
        LaidOutBoxes x = new LaidOutBoxes();
        for (int parent : new int[] {-2, 0, 1, 23, 24, 32, LOWEST, HIGHEST}) {
            due("parent " + parent, x.reads(parent), NONE);
        }
        due("the letters stay", Check.read(x, 0, "fit(fit)"), NONE);
        due("eight of them", x.told(10), 8);
        due("read then", x.reads(-1), 2);
        due("there is a TOP", Check.read(x, -1, "fit"), STATE);
        due("its PARENT has one", x.reads(0), STATE);
        due("three of them", x.told(10), 3);
        due("read then", x.reads(1), 1);
        x.drops(2);
        due("a PARENT that is gone", Check.read(x, 2, "fit"), NONE);
        due("read then", x.reads(1), 1);
        Edge.of(10, "reads(): NONE and STATE are looked at ahead of the letters; with a FAULT no BOX comes, and the"
                + " letters are none.");
        due("NONE ahead of a FAULT", Check.read(x, 9, "x"), NONE);
        due("STATE ahead of a FAULT", x.reads(-1), STATE);
        due("STATE ahead of a FAULT", x.reads(0), STATE);
        due("it stays", x.told(10), 1);
        due("the FAULT", x.reads(3), -100);
        due("none stays", x.told(10), 0);
        due("no BOX came", x.told(9), 4);
        due("NONE ahead of no letters", x.reads(9), NONE);
        due("STATE ahead of no letters", x.reads(-1), STATE);
        due("no letters", x.reads(3), -100);
        LaidOutBoxes full = new LaidOutBoxes();
        for (int i = 0; i < 24; i++) {
            full.comes(2, i - 1, 0, 0, 0, 0);
        }
        due("STATE ahead of no number left", Check.read(full, 0, "fit"), STATE);
        due("NONE ahead of no number left", full.reads(24), NONE);
        due("they stay", full.told(10), 3);
        due("no number left", full.reads(23), -100);
        due("none stays", full.told(10), 0);
    }

    private static void printedWords() {
        Edge.of(11, "PRINTED: a BOX with all in it likewise, * if it has a SHARE, () if it has CHILDREN (its LEAST,"
                + " MOST not).");
        for (int kind = 0; kind < 10; kind++) {
            Check.sameText("KIND " + kind, Check.print(Check.tree(whole(kind)), 0), whole(kind));
        }
        LaidOutBoxes x = Check.tree("row 04 09*9(block 00 99*0,limit 09 10 9 99*1(fit),layers 2*0)");
        x.tells(1, 5, 10);
        x.tells(1, 6, 20);
        Check.sameText("as short as can be", Check.print(x, 0), "row 4 9*9(block 0 99,limit 9 10 9 99*1(fit),layers 2)");
        x.drops(3);
        Check.sameText("a CHILD is gone", Check.print(x, 2), "limit 9 10 9 99*1");
        x.moves(4, 0);
        Check.sameText("another order", Check.print(x, 0), "row 4 9*9(layers 2,block 0 99,limit 9 10 9 99*1)");
        x.tells(2, 4, 0);
        x.tells(2, 1, 9);
        Check.sameText("told", Check.print(x, 2), "limit 9 9 9 99");
        LaidOutBoxes again = Check.tree(Check.print(x, 0));
        Check.sameText("read and printed again", Check.print(again, 0), Check.print(x, 0));
    }

    private static void printed() {
        Edge.of(11, "Letter i of a BOX PRINTED (i -1: how many). NONE: box, i.");
        LaidOutBoxes x = Check.tree("fit(centre)");
        due("how many", x.printed(0, -1), 11);
        due("the first", x.printed(0, 0), 'f');
        due("the last", x.printed(0, 10), ')');
        for (int i : new int[] {-2, 11, 12, 500, 1000, LOWEST, HIGHEST}) {
            due("letter " + i, x.printed(0, i), NONE);
        }
        for (int box : new int[] {-1, 2, 24, 32, LOWEST, HIGHEST}) {
            due("box " + box, x.printed(box, -1), NONE);
            due("box " + box, x.printed(box, 0), NONE);
        }
        LaidOutBoxes longest = new LaidOutBoxes();
        for (int i = 0; i < 24; i++) {
            longest.comes(3, i - 1, 10, 10, 10, 10);
            longest.tells(i, 4, 9);
        }
        due("more than the 120 letters that are read", longest.printed(0, -1), 24 * 19 + 23 * 2);
        due("its last one", longest.printed(0, 24 * 19 + 23 * 2 - 1), ')');
        due("none behind", longest.printed(0, 24 * 19 + 23 * 2), NONE);
    }
}
