/** Counts the answers that are not the ones that are due. */
final class Due {
    private int asked;
    private int wrong;
    private String part = "";

    void part(String name) {
        part = name;
    }

    void due(String call, long got, long want) {
        asked++;
        if (got != want) {
            wrong++;
            System.out.println(part + ": " + call + " answered " + got + ", due is " + want);
        }
    }

    void holds(String claim, boolean is) {
        due(claim, is ? 1 : 0, 1);
    }

    void finish() {
        System.out.println(asked + " answers, " + wrong + " not as due");
        if (wrong != 0 || asked == 0) {
            System.exit(1);
        }
    }

    /** A new object whose text is this one. */
    static TypedBlocks told(String text) {
        TypedBlocks x = new TypedBlocks();
        retell(x, text);
        return x;
    }

    static void retell(TypedBlocks x, String text) {
        x.wipe();
        for (int i = 0; i < text.length(); i++) {
            x.write(text.charAt(i));
        }
    }

    /** A new object in which this text is laid. */
    static TypedBlocks laid(String text) {
        TypedBlocks x = told(text);
        if (x.lay() < 0) {
            throw new IllegalStateException("cannot be laid: " + text + ", fault " + x.fault());
        }
        return x;
    }
}
