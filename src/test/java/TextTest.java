/** Promises 1 to 5: a new object, feed, end, text, fault. */
public final class TextTest {
    public static void main(String[] args) {
        newObject();
        feeding();
        ending();
        wholeTexts();
        flawsOfTokens();
        flawsOfBounds();
        flawsOfRepeats();
        flawsOfTooMany();
        flawsBehindAll();
        flawsByOrder();
        fullTapes();
        bytesLeftBehind();
        whatATextChanges();
        Due.finish();
    }

    private static void newObject() {
        TownBand x = new TownBand();
        Due.is("new rule(0)", x.rule(0), 0);
        Due.is("new rule(1)", x.rule(1), 0);
        Due.is("new rule(2)", x.rule(2), 0);
        Due.is("new rule(3)", x.rule(3), 5);
        Due.is("new rule(4)", x.rule(4), 0);
        Due.is("new fault()", x.fault(), 0);
        Due.is("new torn()", x.torn(), 0);
        Due.is("new count(0)", x.count(0), 0);
        Due.is("new count(1)", x.count(1), 0);
        Due.is("new count(2)", x.count(2), 0);
        Due.is("new count(3)", x.count(3), Due.NONE);
        for (int k = 0; k < 4; k++) {
            Due.is("new lay", x.lay(k, 0, 0), -11);
        }
        Due.is("new back(0)", x.back(0), Due.STATE);
        Due.is("new back(1)", x.back(1), Due.STATE);
    }

    private static void feeding() {
        TownBand x = new TownBand();
        Due.is("feed(-1)", x.feed(-1), Due.BAD);
        Due.is("feed(128)", x.feed(128), Due.BAD);
        Due.is("feed(least)", x.feed(Integer.MIN_VALUE), Due.BAD);
        Due.is("feed(0)", x.feed(0), 1);
        Due.is("feed(127)", x.feed(127), 2);
        for (int i = 3; i <= 160; i++) {
            Due.is("feed on", x.feed(32), i);
        }
        Due.is("feed full", x.feed(32), Due.FULL);
        Due.is("feed full and bad", x.feed(128), Due.BAD);
        Due.is("count full", x.count(2), 160);
        Due.is("text of no tokens", x.text(), -10);
        Due.is("fault of no tokens", x.fault(), 1);
        Due.is("tape is empty then", x.count(2), 0);
        Due.is("feed again", x.feed(32), 1);
    }

    private static void ending() {
        TownBand x = new TownBand();
        Due.is("end(0) of none", x.end(0), 0);
        Due.is("end(1) of none", x.end(1), Due.BAD);
        Due.feed(x, "cat 1 2;cat");
        Due.is("end(-1)", x.end(-1), Due.BAD);
        Due.is("end(12)", x.end(12), Due.BAD);
        Due.is("end(11)", x.end(11), 11);
        Due.is("end(8)", x.end(8), 11);
        Due.is("count(2)", x.count(2), 8);
        Due.is("text()", x.text(), 1);
        Due.is("rule(0)", x.rule(0), 1);
    }

    private static void wholeTexts() {
        taken("", 0);
        taken("   ", 0);
        taken("tower;beds;", 2);
        taken("  cock 1 0 ;cat1 1;  hound 02 09;ass9 9;", 4);
        taken("robber0;robber 99;robber 07;robber 7;", 4);
        taken("scout 0;", 1);
        taken("scout 40;", 1);
        taken("beds 1 0;tower 1;cat 1 1;cat 1 1;", 4);
        taken("ass 9 0;cat 1 0;cat 1 0;cat 1 0;cock 1 0;tower 0 1;beds 4 3 2 1 0;", 7);
        TownBand x = Due.told("ass 3 4;beds 1 2 0;hound 5 6;tower 1;cat 7 8;robber 12;scout 9;");
        Due.is("kind", x.beast(1, 0), 2);
        Due.is("weight", x.beast(1, 1), 5);
        Due.is("voice", x.beast(1, 2), 6);
        Due.is("bed 0", x.at(1, 0), 1);
        Due.is("bed 2", x.at(1, 2), 0);
        Due.is("tower", x.at(0, 0), 1);
        Due.is("robber", x.robber(0), 12);
        Due.is("scout", x.rule(3), 9);
    }

    private static void flawsOfTokens() {
        flaw("!", 0, 1);
        flaw("cat\t1 1;", 3, 1);
        flaw("Cat 1 1;", 0, 1);
        flaw("cat 1 1;\n", 8, 1);
        flaw("cat 100 1;", 4, 1);
        flaw("cat 001 1;", 4, 1);
        flaw("123", 0, 1);
        flaw("cat 1 1,", 7, 1);
        flaw("`", 0, 1);
        flaw("{", 0, 1);
        flaw("/", 0, 1);
        flaw(":", 0, 1);
        flaw("goose 1 1;", 0, 2);
        flaw("cats 1 1;", 0, 2);
        flaw("bat 1 1;", 0, 2);
        flaw("ca 1 1;", 0, 2);
        flaw("catcat 1 1;", 0, 2);
        flaw("bed 0;", 0, 2);
        flaw("1", 0, 2);
        flaw(" ;", 1, 2);
        flaw("cat 1 1;;", 8, 2);
        flaw("cat;", 3, 2);
        flaw("cat cat", 4, 2);
        flaw("cat 1;", 5, 2);
        flaw("cat 1 a;", 6, 2);
        flaw("cat 1 1 1;", 8, 2);
        flaw("cat 1 1", 7, 2);
        flaw("cat 1 1  ", 9, 2);
        flaw("cat", 3, 2);
        flaw("robber;", 6, 2);
        flaw("robber 1 2;", 9, 2);
        flaw("scout;", 5, 2);
        flaw("scout 1 2;", 8, 2);
        flaw("tower", 5, 2);
        flaw("tower cat;", 6, 2);
        flaw("beds 0 1", 8, 2);
        flaw("beds scout", 5, 2);
    }

    private static void flawsOfBounds() {
        flaw("cat 0 1;", 4, 3);
        flaw("cat 10 1;", 4, 3);
        flaw("cat 1 10;", 6, 3);
        flaw("scout 41;", 6, 3);
        flaw("tower 5;", 6, 3);
        flaw("tower 10;", 6, 3);
        flaw("beds 0 1 5;", 9, 3);
    }

    private static void flawsOfRepeats() {
        flaw("scout 1;scout 1;", 8, 4);
        flaw("tower;tower;", 6, 4);
        flaw("beds; beds;", 6, 4);
        flaw("cat 1 1;tower 0 0;", 16, 4);
        flaw("cat 1 1;beds 0 0;", 15, 4);
        flaw("tower 0 1 2 3 4 2;", 16, 4);
        flaw("beds 4 3 2 1 0 4;", 15, 4);
    }

    private static void flawsOfTooMany() {
        String five = "cat 1 1;cock 1 1;ass 1 1;hound 1 1;cat 1 1;";
        flaw(five + "cock 1 1;", five.length(), 5);
        flaw(five + "  ass", five.length() + 2, 5);
        String four = "robber 1;robber 2;robber 3;robber 4;";
        flaw(four + "robber", four.length(), 5);
        taken(five + four, 9);
    }

    private static void flawsBehindAll() {
        flaw("tower 0;", 8, 6);
        flaw("tower 1;cat 1 1; ", 17, 6);
        flaw("cat 1 1;beds 1;", 15, 6);
        flaw("cat 1 1;beds;", 13, 7);
        flaw("cat 1 1;beds 0;cat 1 1;", 23, 7);
        flaw("cock 1 1;ass 9 1;tower 0 1;", 27, 8);
        taken("cock 1 1;ass 9 1;tower 1 0;", 3);
        flaw("cock 9 1;cock 9 1;cock 1 1;tower 0 1 2;", 39, 8);
        taken("cock 9 1;cock 8 1;cock 1 1;tower 0 1 2;", 4);
    }

    private static void flawsByOrder() {
        // behind all, the lesser one: 6, 7, 8
        flaw("cat 1 1;cat 1 1;beds 4;", 23, 6);
        flaw("cock 1 1;ass 9 1;tower 0 1;beds 2;", 34, 6);
        flaw("cock 1 1;ass 9 1;tower 0 1;beds 1;", 34, 7);
        // a token is read when the one before has been taken
        flaw("cat 0 !", 4, 3);
        flaw("goose !", 0, 2);
        flaw("scout 1;scout !", 8, 4);
        flaw("tower 5 123", 6, 3);
        flaw("tower 0 0 123", 8, 4);
        flaw("cat 1 1 !", 8, 1);
        flaw("cat 123", 4, 1);
        flaw("tower 3;cat 1 1", 15, 2);
    }

    private static void fullTapes() {
        String ends = "cat 1 1;";
        String[] last = {"a", "1", " ", ";", "!"};
        int[] answers = {-169, -169, 1, -169, -169};
        int[] faults = {2, 2, 0, 2, 1};
        for (int i = 0; i < last.length; i++) {
            TownBand x = new TownBand();
            Due.feed(x, ends + " ".repeat(160 - ends.length() - 1) + last[i]);
            Due.is("full", x.count(2), 160);
            Due.is("full text", x.text(), answers[i]);
            Due.is("full text: fault", x.fault(), faults[i]);
        }
        TownBand y = new TownBand();
        Due.feed(y, " ".repeat(154) + "robber");
        Due.is("a name at the end", y.text(), -170);
        Due.feed(y, " ".repeat(151) + "robber 12");
        Due.is("a number at the end", y.text(), -170);
        Due.feed(y, " ".repeat(150) + "robber 12;");
        Due.is("a line at the end", y.text(), 1);
        Due.is("its robber", y.robber(0), 12);
    }

    private static void bytesLeftBehind() {
        TownBand x = new TownBand();
        Due.feed(x, "robber 12;");
        x.end(8);
        Due.is("12 is cut to 1", x.text(), -18);
        Due.is("12 is cut to 1: fault", x.fault(), 2);
        Due.feed(x, "scouts");
        x.end(5);
        Due.is("scouts is cut to scout", x.text(), -15);
        Due.feed(x, "scout 7;    ");
        x.end(8);
        Due.is("blanks are cut", x.text(), 1);
    }

    private static void whatATextChanges() {
        TownBand x = Due.told("cat 2 3;cat 1 1;robber 4;scout 6;tower 0;beds 1 0;");
        x.see(1, 2);
        x.keep(0);
        x.keep(1);
        x.sheet(0, 2, 3);
        Due.feed(x, "cock 9 9;cock 0");
        Due.is("refused text", x.text(), -24);
        Due.is("refused text: fault", x.fault(), 3);
        Due.is("refused text: tape", x.count(2), 0);
        Due.is("refused text: beasts", x.rule(0), 2);
        Due.is("refused text: kind", x.beast(0, 0), 1);
        Due.is("refused text: weight", x.beast(0, 1), 2);
        Due.is("refused text: robbers", x.rule(1), 1);
        Due.is("refused text: tower", x.rule(4), 1);
        Due.is("refused text: bed", x.at(1, 0), 1);
        Due.is("refused text: scout", x.rule(3), 6);
        Due.is("refused text: seen", x.count(0), 1);
        Due.is("refused text: images", x.count(1), 2);
        Due.feed(x, "ass 1 1;cat 1 1;");
        Due.is("taken text", x.text(), 2);
        Due.is("taken text: fault", x.fault(), 0);
        Due.is("taken text: robbers", x.rule(1), 0);
        Due.is("taken text: tower", x.rule(2), 0);
        Due.is("taken text: bed 0", x.at(1, 0), 0);
        Due.is("taken text: bed 1", x.at(1, 1), 1);
        Due.is("taken text: scout", x.rule(3), 5);
        Due.is("taken text: seen", x.count(0), 0);
        Due.is("taken text: images", x.count(1), 0);
        Due.is("taken text: back", x.back(0), Due.STATE);
        Due.is("taken text: sheets stay", x.count(3), 3);
        Due.is("empty text", x.text(), 0);
        Due.is("empty text: beasts", x.rule(0), 0);
    }

    private static void taken(String text, int lines) {
        TownBand x = new TownBand();
        Due.feed(x, text);
        Due.is("text of " + text, x.text(), lines);
        Due.is("fault of " + text, x.fault(), 0);
    }

    private static void flaw(String text, int place, int fault) {
        TownBand x = new TownBand();
        Due.feed(x, text);
        Due.is("text of " + text, x.text(), -10 - place);
        Due.is("fault of " + text, x.fault(), fault);
        Due.is("beasts by " + text, x.rule(0), 0);
    }
}
