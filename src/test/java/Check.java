/** Counts and tells the answers that are not as due. */
final class Check {
    private int looked;
    private int wrong;
    private String words = "";

    /** The document's words that the next answers hold to: they stand ahead of a wrong one. */
    void sentence(String ofTheDocument) {
        words = "\"" + ofTheDocument + "\": ";
    }

    void due(String call, long got, long want) {
        looked++;
        if (got != want) {
            wrong++;
            System.out.println(words + call + " answered " + got + ", due is " + want);
        }
    }

    /** Feeds THE TEXT: how many bytes it has then. */
    static int feed(BootsStove stove, String text) {
        int has = 0;
        for (char sign : text.toCharArray()) {
            has = stove.feed(sign);
        }
        return has;
    }

    /** Feeds THE TEXT and reads the HUT. */
    static int hut(BootsStove stove, String text) {
        feed(stove, text);
        return stove.hut();
    }

    void end(String test) {
        System.out.println(test + ": " + looked + " answers looked at, " + wrong + " wrong");
        if (wrong > 0) {
            System.exit(1);
        }
    }
}
