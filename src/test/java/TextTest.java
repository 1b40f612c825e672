/** THE TAPE, THE TEXT of a STATION and its FAULT (promises 26 to 28): every byte, every number's end, every cut. */
public final class TextTest {
    private static final int LADY = Bounds.LADY;
    private static final int WIFE = Bounds.WIFE;
    private static final int HATBOX = Bounds.HATBOX;

    private static final Bounds B = new Bounds();

    public static void main(String[] args) {
        feedsLowestBytes();
        wipes();
        anyByteAlone();
        anyByteBehindAWord();
        anyByteBehindANumber();
        anyByteForABlank();
        blanks();
        numbersOfAThing();
        numbersOfAPerson();
        numbersAnywhere();
        zerosInFront();
        wordsAsLongAsCanBe();
        clausesInOrder();
        endsTooEarly();
        empties();
        aNinth();
        aNinthInOneText();
        theFirstFault();
        faultChangesNothing();
        asLongAsTheTape();
        itemsCome();
        B.end();
    }

    private static void told(LeftTillCalled x, String text, int want) {
        Bounds.feedText(x, text);
        B.due("'" + text + "'", x.station(), want);
        B.due("bytes of THE TAPE behind '" + text + "'", x.count(1), 0);
    }

    private static void items(String text, int want) {
        told(new LeftTillCalled(), text, want);
    }

    private static void fault(String text, int place) {
        LeftTillCalled x = new LeftTillCalled();
        told(x, text, -1 - place);
        B.due("THINGS behind '" + text + "'", x.count(0), 0);
        B.due("MEANS behind '" + text + "'", x.now(4), 600);
        B.due("findings behind '" + text + "'", x.status(-1), 0);
    }

    private static boolean isLetter(int b) {
        return b >= 'a' && b <= 'z';
    }

    private static boolean isDigit(int b) {
        return b >= '0' && b <= '9';
    }

    private static void feedsLowestBytes() {
        B.sentence("26: the n lowest bytes of a number behind it, the highest of these first (n 1 to 4): how many it has");
        LeftTillCalled x = new LeftTillCalled();
        B.due("one", x.feed(0xffffff77, 1), 1);
        B.due("two", x.feed(0xffff6966, 2), 3);
        B.due("one", x.feed(0x01020365, 1), 4);
        B.due("three", x.feed(0x80206475, 3), 7);
        B.due("four", x.feed(0x65203132, 4), 11);
        B.due("a wife due 12", x.station(), 1);
        B.due("KIND", x.of(0, 0), WIFE);
        B.due("DUE", x.of(0, 3), 12);
        B.due("four zeros", x.feed(0, 4), 4);
        B.due("they begin no TOKEN", x.station(), -1);
        B.due("a number below 0", x.feed(-1, 4), 4);
        B.due("its bytes begin no TOKEN", x.station(), -1);
        B.due("the first is the highest", x.feed(0x3b776966, 4), 4);
        B.due("it is a SIGN", x.station(), -1);
    }

    private static void wipes() {
        B.sentence("27: THE TAPE is empty: how many it had.");
        LeftTillCalled x = new LeftTillCalled();
        B.due("none", x.wipe(), 0);
        x.feed('5', 1);
        B.due("one", x.wipe(), 1);
        for (int i = 0; i < 30; i++) {
            x.feed(0x20202020, 4);
        }
        B.due("120", x.wipe(), 120);
        B.due("none again", x.wipe(), 0);
        B.due("room again", x.feed(0x77696665, 4), 4);
        B.due("only what came then", x.station(), 1);
    }

    private static void anyByteAlone() {
        B.sentence("FAULT: .. (.. another WORD, a byte that begins no TOKEN ..), or how many bytes there are");
        for (int b = 0; b < 256; b++) {
            String text = String.valueOf((char) b);
            fault(text, b == ' ' ? 1 : 0);
            fault("wife;" + text, b == ' ' ? 6 : 5);
            fault(text + "@", b == ' ' ? 1 : 0);
        }
    }

    private static void anyByteBehindAWord() {
        B.sentence("TOKENS, each as long as can be: WORDS (letters a to z)");
        for (int b = 0; b < 256; b++) {
            String text = "wife" + (char) b;
            if (b == ' ') {
                items(text, 1);
            } else if (isLetter(b)) {
                fault(text, 0);
            } else {
                fault(text, b == ';' ? 5 : 4);
            }
        }
    }

    private static void anyByteBehindANumber() {
        B.sentence("TOKENS, each as long as can be: .. NUMBERS (digits, 9999 at most), SIGN ;");
        for (int b = 0; b < 256; b++) {
            String text = "means 1 2" + (char) b;
            if (isDigit(b)) {
                LeftTillCalled x = new LeftTillCalled();
                told(x, text, 1);
                B.due("MEANS behind '" + text + "'", x.personOf(1, 0), 20 + b - '0');
            } else if (b == ' ') {
                items(text, 1);
            } else {
                fault(text, b == ';' ? 10 : 9);
            }
        }
    }

    private static void anyByteForABlank() {
        B.sentence("blanks may stand between");
        for (int b = 0; b < 256; b++) {
            String text = "wife" + (char) b + "for 1";
            if (b == ' ') {
                items(text, 1);
            } else if (isLetter(b)) {
                fault(text, 0);
            } else if (b == ';') {
                fault(text, 5);
            } else {
                fault(text, 4);
            }
        }
    }

    private static void blanks() {
        B.sentence("blanks may stand between (none, one, many)");
        items("wife", 1);
        items(" wife", 1);
        items("   wife   ", 1);
        items("wife for1due2worth3;means4 5earns6spends7", 2);
        items("  wife   for   1   due   2   worth   3   ;   means   4   5   earns   6   spends   7  ", 2);
        items("wife;lady", 2);
        items("wife ;lady", 2);
        items("wife; lady", 2);
        fault("wi fe", 0);
        fault("wife f or 1", 5);
        fault("wife for 1 2", 11);
        fault("means 1 2 3", 10);
        fault("means12", 5);
        fault("means 12", 6);
    }

    /** The words before a number, and the most that it may be: at it, just beyond it and far beyond it. */
    private static void numberUpTo(int most, String before, String behind) {
        items(before + 0 + behind, 1);
        items(before + most + behind, 1);
        fault(before + (most + 1) + behind, before.length());
        fault(before + 99999 + behind, before.length());
        fault(before + "4294967296" + behind, before.length());
        fault(before + "18446744073709551616" + behind, before.length());
        fault(before + "-1" + behind, before.length());
        fault(before + "a" + behind, before.length());
        fault(before + ";", before.length());
        fault(before, before.length());
        fault(before + "due", before.length());
    }

    private static void numbersOfAThing() {
        B.sentence("ITEM: the name of a KIND, perhaps for and a NUMBER (0 to 5)");
        numberUpTo(5, "wife for ", "");
        numberUpTo(5, "parcel for ", " due 1 worth 2");
        B.sentence("perhaps due and a NUMBER (0 to 9999)");
        numberUpTo(9999, "wife due ", "");
        numberUpTo(9999, "glove for 5 due ", " worth 2");
        B.sentence("perhaps worth and a NUMBER (0 to 9999)");
        numberUpTo(9999, "wife worth ", "");
        numberUpTo(9999, "hatbox for 5 due 9999 worth ", "");
        int[][] ends = {{0, 0, 0}, {5, 9999, 9999}, {1, 9998, 1}};
        for (int[] e : ends) {
            LeftTillCalled x = new LeftTillCalled();
            told(x, "regiment for " + e[0] + " due " + e[1] + " worth " + e[2], 1);
            B.due("LABEL", x.of(0, 1), e[0]);
            B.due("DUE", x.of(0, 3), e[1]);
            B.due("WORTH", x.of(0, 4), e[2]);
        }
    }

    private static void numbersOfAPerson() {
        B.sentence("ITEM: .. means, a NUMBER (0 to 5)");
        numberUpTo(5, "means ", " 7");
        B.sentence("means, .. a NUMBER (0 to 9999)");
        numberUpTo(9999, "means 5 ", "");
        numberUpTo(9999, "means 5 ", " earns 3 spends 2");
        B.sentence("perhaps earns and a NUMBER (0 to 999)");
        numberUpTo(999, "means 5 1 earns ", "");
        numberUpTo(999, "means 5 1 earns ", " spends 2");
        B.sentence("perhaps spends and a NUMBER (0 to 999)");
        numberUpTo(999, "means 5 1 spends ", "");
        numberUpTo(999, "means 5 1 earns 999 spends ", "");
        int[][] ends = {{0, 0, 0, 0}, {5, 9999, 999, 999}, {3, 1, 998, 1}};
        for (int[] e : ends) {
            LeftTillCalled x = new LeftTillCalled();
            told(x, "means " + e[0] + " " + e[1] + " earns " + e[2] + " spends " + e[3], 1);
            for (int what = 0; what < 3; what++) {
                B.due("personOf(" + what + ")", x.personOf(e[0], what), e[1 + what]);
            }
        }
    }

    private static void numbersAnywhere() {
        B.sentence("FAULT: .. a NUMBER that may not be");
        fault("5", 0);
        fault("10000", 0);
        fault("wife 5", 5);
        fault("wife 10000", 5);
        fault("wife for 1 10000", 11);
        fault("wife;9999", 5);
        fault("wife for 5 due 9999 worth 9999 9999", 31);
        fault("means 1 2 3", 10);
        fault("means 1 2 earns 3 4", 18);
        fault("means 1 2 spends 3 4", 19);
    }

    private static void zerosInFront() {
        B.sentence("NUMBERS (digits, 9999 at most) (with zeros in front)");
        LeftTillCalled x = new LeftTillCalled();
        told(x, "wife for 00005 due 0009999 worth 00000000000000000000000", 1);
        B.due("LABEL", x.of(0, 1), 5);
        B.due("DUE", x.of(0, 3), 9999);
        B.due("WORTH", x.of(0, 4), 0);
        fault("wife for 00006", 9);
        fault("wife due 0000010000", 9);
    }

    private static void wordsAsLongAsCanBe() {
        B.sentence("FAULT: .. another WORD");
        String[] wrong = {
            "w", "wif", "wives", "wifee", "ladywife", "lad", "ladys", "parce", "parcels", "glov", "gloves", "regimen",
            "regiments", "hatbo", "hatboxes", "mean", "meanss", "for", "due", "worth", "earns", "spends", "z", "a",
            "wifa", "xife", "parcem", "means1", "mfans 1 2"
        };
        for (String w : wrong) {
            fault(w, w.equals("means1") ? 6 : 0);
        }
        fault("wife fo 1", 5);
        fault("wife fors 1", 5);
        fault("wife du 1", 5);
        fault("wife dues 1", 5);
        fault("wife wort 1", 5);
        fault("wife worths 1", 5);
        fault("wife wife", 5);
        fault("wife means 1 2", 5);
        fault("means 1 2 earn 3", 10);
        fault("means 1 2 earnss 3", 10);
        fault("means 1 2 spend 3", 10);
        fault("means 1 2 spendss 3", 10);
        fault("means 1 2 wife", 10);
        fault("means 1 2 means 1 2", 10);
    }

    private static void clausesInOrder() {
        B.sentence("ITEM: .. perhaps for .., perhaps due .., perhaps worth (each once, in this order)");
        items("wife", 1);
        items("wife for 1", 1);
        items("wife due 1", 1);
        items("wife worth 1", 1);
        items("wife for 1 due 2", 1);
        items("wife for 1 worth 2", 1);
        items("wife due 1 worth 2", 1);
        items("wife for 1 due 2 worth 3", 1);
        fault("wife for 1 for 1", 11);
        fault("wife due 1 due 1", 11);
        fault("wife worth 1 worth 1", 13);
        fault("wife due 1 for 1", 11);
        fault("wife worth 1 for 1", 13);
        fault("wife worth 1 due 1", 13);
        fault("wife for 1 earns 1", 11);
        fault("wife spends 1", 5);
        B.sentence("ITEM: means .., perhaps earns .., perhaps spends (each once, in this order)");
        items("means 1 2", 1);
        items("means 1 2 earns 3", 1);
        items("means 1 2 spends 3", 1);
        items("means 1 2 earns 3 spends 4", 1);
        fault("means 1 2 earns 3 earns 4", 18);
        fault("means 1 2 spends 3 spends 4", 19);
        fault("means 1 2 spends 3 earns 4", 19);
        fault("means 1 2 due 3", 10);
        fault("means 1 2 for 3", 10);
        fault("means for 1", 6);
        fault("means 1 earns 2", 8);
    }

    private static void endsTooEarly() {
        B.sentence("FAULT: .. or how many bytes there are if it ends too early (each cut of a text)");
        String[] tokens = {
            "hatbox", "for", "3", "due", "44", "worth", "55", ";", "means", "2", "33", "earns", "4", "spends", "66"
        };
        boolean[] mayEnd = {
            true, false, true, false, true, false, true, false, false, false, true, false, true, false, true
        };
        StringBuilder text = new StringBuilder();
        for (int i = 0; i < tokens.length; i++) {
            int place = text.length();
            for (int cut = 1; cut <= tokens[i].length(); cut++) {
                String all = text + tokens[i].substring(0, cut);
                boolean isWord = tokens[i].charAt(0) >= 'a';
                if (isWord && cut < tokens[i].length()) {
                    fault(all, place);
                } else {
                    endsAt(all, mayEnd[i], i);
                    endsAt(all + " ", mayEnd[i], i);
                    endsAt(all + "   ", mayEnd[i], i);
                }
            }
            text.append(tokens[i]).append(' ');
        }
    }

    private static void endsAt(String text, boolean mayEnd, int token) {
        if (mayEnd) {
            items(text, token < 7 ? 1 : 2);
        } else {
            fault(text, text.length());
        }
    }

    private static void empties() {
        B.sentence("FAULT: .. or how many bytes there are (none, blanks alone, a SIGN too many)");
        fault("", 0);
        fault(" ", 1);
        fault("          ", 10);
        fault(" ".repeat(119), 119);
        fault(" ".repeat(120), 120);
        fault(";", 0);
        fault("  ;", 2);
        fault("wife;", 5);
        fault("wife ; ", 7);
        fault("wife;;lady", 5);
        fault("wife; ;lady", 6);
        fault(";wife", 0);
        fault("means 1 2;", 10);
    }

    private static LeftTillCalled things(int n) {
        LeftTillCalled x = new LeftTillCalled();
        for (int t = 0; t < n; t++) {
            x.thing(0, 0);
        }
        return x;
    }

    private static void aNinth() {
        B.sentence("FAULT: .. the name of a KIND for a 9th: its own");
        String[] names = {"parcel", "lady", "glove", "regiment", "wife", "hatbox"};
        for (String name : names) {
            LeftTillCalled x = things(7);
            told(x, name, 1);
            B.due("THINGS", x.count(0), 8);
            told(x, name, -1);
            told(x, "  " + name + " for 9", -3);
            told(x, name + " @", -1);
            told(x, "means 1 2;" + name, -11);
            B.due("MEANS", x.personOf(1, 0), 100);
            told(x, "means 1 2;" + name.substring(1), -11);
            told(x, "means 1 2", 1);
            B.due("MEANS", x.personOf(1, 0), 2);
            B.due("THINGS", x.count(0), 8);
            B.due("findings", x.status(-1), 0);
        }
        LeftTillCalled x = things(7);
        told(x, "wife for 5;lady for 6", -12);
        B.due("THINGS", x.count(0), 7);
        told(x, "wife for 6;lady for 6", -10);
        B.due("THINGS", x.count(0), 7);
        x.call(0);
        told(x, "wife;lady", -6);
        B.due("one that isn't there counts", x.count(0), 7);
    }

    private static void aNinthInOneText() {
        B.sentence("THINGS .. (at most 8), from one text");
        LeftTillCalled x = new LeftTillCalled();
        told(x, "wife;wife;wife;wife;wife;wife;wife;wife;lady", -1 - 40);
        B.due("none came", x.count(0), 0);
        told(x, "wife;wife;wife;wife;wife;wife;wife;lady", 8);
        B.due("eight came", x.count(0), 8);
        B.due("the last", x.of(7, 0), LADY);
        B.due("all there", x.now(2), 255);
        B.due("findings", x.status(-1), 0);
        B.due("a 9th by a call", x.thing(0, 0), Bounds.FULL);
    }

    private static void theFirstFault() {
        B.sentence("FAULT: the place (from 0) of the first byte of the first TOKEN that can't stand there");
        fault("@ 10000 x", 0);
        fault("10000 @ x", 0);
        fault("x @ 10000", 0);
        fault("wife @ due 10000", 5);
        fault("wife due 10000 @", 9);
        fault("wife for 6 due 10000", 9);
        fault("wife for 5 due 10000 worth 10000", 15);
        fault("wife worth 1 due @", 13);
        fault("means 6 10000", 6);
        fault("means 5 10000 earns 1000", 8);
        fault("means 5 1 earns 1000 spends 1000", 16);
        fault("wife;lady;glover;@", 10);
        fault("lady for 12345678901234567890 ;", 9);
        fault(" \u00e9wife", 1);
    }

    private static LeftTillCalled with(String text) {
        LeftTillCalled x = Bounds.rich();
        x.wipe();
        Bounds.feedText(x, text);
        return x;
    }

    private static void faultChangesNothing() {
        B.sentence("28: With a FAULT: -1 less its place (nothing changes but that THE TAPE is empty; no finding).");
        String[] texts = {
            "", "x", "means 1 5 earns 6 spends 7;wife for 9", "wife for 2 due 3 worth 4;", "wife;lady;hatbox;glove",
            "means 1 5 earns 6 spends 1000", "means 0 1;means 1 1;means 2 1;means 3 1;means 4 1;means 5 1;means 6 1"
        };
        int[] places = {0, 0, 36, 25, 17, 25, 66};
        for (int i = 0; i < texts.length; i++) {
            LeftTillCalled x = with(texts[i]);
            LeftTillCalled twin = with(texts[i]);
            twin.wipe();
            B.due("'" + texts[i] + "'", x.station(), -1 - places[i]);
            for (int which = -1; which < 7; which++) {
                B.due("status(" + which + ")", x.status(which), twin.status(which));
            }
            B.sameSeen("station() of '" + texts[i] + "'", x, twin);
        }
    }

    private static void asLongAsTheTape() {
        B.sentence("THE TAPE (bytes, at most 120): a text to its end");
        String twelve = "means 0 1;".repeat(11) + "means 0 99";
        items(twelve, 12);
        LeftTillCalled x = new LeftTillCalled();
        told(x, twelve, 12);
        B.due("bytes", twelve.length(), 120);
        B.due("MEANS", x.personOf(0, 0), 99);
        fault("means 0 1;".repeat(12), 120);
        fault("means 0 1;".repeat(11) + "means 0 1x", 119);
        fault("means0 1;".repeat(13), 117);
        items("means0 1;".repeat(12) + "means0 1", 13);
        items("wife" + " ".repeat(116), 1);
        items(" ".repeat(116) + "wife", 1);
        fault(" ".repeat(115) + "wifes", 115);
        items("wife due " + "0".repeat(110) + "7", 1);
        fault("wife due " + "9".repeat(111), 9);
        fault("z".repeat(120), 0);
        fault("9".repeat(120), 0);
        fault(";".repeat(120), 0);
    }

    private static void itemsCome() {
        B.sentence("28: whose ITEMS come to what there is, and empty then: how many ITEMS");
        LeftTillCalled x = Bounds.poor();
        x.days(9);
        x.thing(HATBOX, 2);
        told(x, "wife for 3;means 3 4;lady due 5;means 3 6 spends 7;means 2 0 earns 8", 5);
        int[][] of = {{HATBOX, 2, 9, 0, 100, -1}, {WIFE, 3, 9, 0, 100, -1}, {LADY, 0, 9, 5, 100, -1}};
        for (int t = 0; t < 3; t++) {
            for (int what = 0; what < 6; what++) {
                B.due("of(" + t + ", " + what + ")", x.of(t, what), of[t][what]);
            }
        }
        B.due("THINGS", x.count(0), 3);
        int[][] people = {{2, 0, 8, 0}, {3, 6, 0, 7}, {4, 0, 0, 0}};
        for (int[] p : people) {
            for (int what = 0; what < 3; what++) {
                B.due("personOf(" + p[0] + ", " + what + ")", x.personOf(p[0], what), p[1 + what]);
            }
        }
        B.due("it is empty then", x.station(), -1);
    }
}
