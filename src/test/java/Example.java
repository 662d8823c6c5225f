/** How the class is used; README.md shows this file and what it prints. */
public final class Example {
    /** The TAPE has this text alone then: twenty bytes a call, cut to the text's length. */
    static void tell(OneBoots boots, String text) {
        boots.end(0);
        for (int i = 0; i < text.length(); i += 20) {
            boots.feed(four(text, i), four(text, i + 4), four(text, i + 8), four(text, i + 12), four(text, i + 16));
        }
        boots.end(text.length());
    }

    /** Four bytes as one number, the highest first; 0 behind the text's end. */
    private static int four(String text, int from) {
        int number = 0;
        for (int i = from; i < from + 4; i++) {
            number = number << 8 | (i < text.length() ? text.charAt(i) : 0);
        }
        return number;
    }

    private static void say(String what, int answer) {
        System.out.println(what + ": " + answer);
    }

    public static void main(String[] args) {
        OneBoots boots = new OneBoots();

        tell(boots, "lane 5 6; wet 5 3");
        int fault = -2 - boots.lane();
        say("the text has a FAULT at", (fault - 1) / 8);
        say("of the kind", (fault - 1) % 8);

        tell(boots, "lane 5 6; brother 0 4; brother 4 6; brother 1 8; wet 1 6; wet 2 7; wet 3 8;"
                + "frost 2 3; want 0 3 5 10; want 1 1 6 7; want 2 2 1 5; sole 9; boots 0");
        say("BROTHERS", boots.lane());
        tell(boots, "walk 0 - 1 if chill > 40; walk goal - place");
        say("RULE", boots.rule());
        say("IN FORCE was", boots.force(0));

        say("to lend them to", boots.lend(12, 0));
        say("earns", boots.lend(12, 1));
        say("by the second greatest bid they are worth", boots.bids(12));
        say("BROTHER 0 puts on the left one, worn by", boots.wear(0, 0));
        say("and the right one, worn by", boots.wear(1, 0));
        boots.image(0);
        int earned = 0;
        for (int i = 0; i < 12; i++) {
            earned += boots.hour();
        }
        say("twelve HOURS earn", earned);
        say("the left one is worn", boots.boot(0, 2));
        say("ACTS that can be UNDONE", boots.count(12));
        say("one UNDONE, more can be", boots.undo());
        say("gone back to DAY", boots.back(0));
        say("HOUR", boots.count(7));
    }
}
