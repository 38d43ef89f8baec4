/** 'Terms', the text: THE TAPE, TOKENS, lines, and each FAULT by the sentence that tells it. */
public final class TermsOfTextTest {
    private static final String FIVE = "cat 1 1;cock 1 1;ass 1 1;hound 1 1;cat 1 1;";
    private static final String FOUR = "robber 1;robber 2;robber 3;robber 4;";

    public static void main(String[] args) throws Exception {
        Due.runAll(TermsOfTextTest.class);
    }

    static void terms_theTapeHas160Bytes() {
        Due.says("Terms", "THE TAPE has 160 bytes, places from 0.");
        TownBand x = new TownBand();
        for (int i = 1; i <= 160; i++) {
            Due.is("a byte", x.feed('!'), i);
        }
        Due.is("the 161st", x.feed('!'), Due.FULL);
        Due.is("the first place", x.text(), -10);
        Due.feed(x, " ".repeat(159) + "!");
        Due.is("the last place", x.text(), -10 - 159);
        Due.feed(x, " ".repeat(156) + "beds");
        Due.is("behind the last place", x.text(), -10 - 160);
    }

    static void terms_tokensAsLongAsMayBe() {
        Due.says("Terms", "TOKENS, each as long as may be, blanks (32) between:");
        Due.flaw("catcat 1 1;", 0, 2);
        Due.flaw("cat 11;", 4, 3);
        Due.flaw("robber 1 1;", 9, 2);
        Due.taken("robber 11;", 1);
        Due.taken("cat1 1;", 1);
        Due.taken("   cat   1   1   ;   ", 1);
        Due.taken("cat 1 1;cat 1 1;", 2);
        // other bytes that are not seen are no blanks
        int[] bytes = {0, 9, 10, 13, 31, 127};
        for (int c : bytes) {
            Due.flaw("cat" + (char) c + "1 1;", 3, 1);
        }
    }

    static void terms_namesOfAToZ() {
        Due.says("Terms", "NAMES (a .. z),");
        Due.flaw("az 1 1;", 0, 2);
        Due.flaw("`", 0, 1);
        Due.flaw("{", 0, 1);
        Due.flaw("cat` 1 1;", 3, 1);
        Due.flaw("cat{ 1 1;", 3, 1);
        Due.flaw("cAt 1 1;", 0, 2);
        Due.flaw("A", 0, 1);
        Due.flaw("Z", 0, 1);
    }

    static void terms_numbersOf1Or2Figures() {
        Due.says("Terms", "NUMBERS (1 or 2 figures),");
        Due.taken("robber 0;robber 9;robber 00;robber 99;", 4);
        Due.flaw("robber 000;", 7, 1);
        Due.flaw("robber 999;", 7, 1);
        Due.flaw("robber /;", 7, 1);
        Due.flaw("robber :;", 7, 1);
        Due.flaw("robber -1;", 7, 1);
        Due.is("09 is 9", Due.told("robber 09;").robber(0), 9);
    }

    static void terms_oneStop() {
        Due.says("Terms", "one ; .");
        Due.taken("robber 1;", 1);
        Due.flaw("robber 1;;", 9, 2);
        Due.flaw(";", 0, 2);
        Due.flaw("robber 1:", 8, 1);
        Due.flaw("robber 1<", 8, 1);
    }

    static void terms_textOfLines() {
        Due.says("Terms", "text: { line } line: K N N ; | robber N ; | scout N ; | tower { N } ; | beds { N } ; "
            + "K: cock | cat | hound | ass");
        Due.taken("", 0);
        Due.taken(" ", 0);
        Due.taken("cock 1 1;cat 1 1;hound 1 1;ass 1 1;robber 1;scout 1;tower 3;beds 0 1 2 3;", 8);
        Due.taken("tower;", 1);
        Due.taken("beds;", 1);
        Due.taken("ass 1 0;ass 1 0;ass 1 0;ass 1 0;ass 1 0;tower 0 1 2 3 4;beds 4 3 2 1 0;", 7);
        String[] heads = {"cock", "cat", "hound", "ass"};
        for (String head : heads) {
            Due.flaw(head + ";", head.length(), 2);
            Due.flaw(head + " 1;", head.length() + 2, 2);
            Due.flaw(head + " 1 1 1;", head.length() + 5, 2);
        }
        Due.flaw("robber;", 6, 2);
        Due.flaw("robber 1 1;", 9, 2);
        Due.flaw("scout;", 5, 2);
        Due.flaw("scout 1 1;", 8, 2);
    }

    static void terms_aBeastMoreOfThatKind() {
        Due.says("Terms", "K: a BEAST more of that KIND: WEIGHT, VOICE.");
        TownBand x = Due.told("hound 9 0;cock 1 9;");
        Due.is("KIND", x.beast(0, 0), 2);
        Due.is("WEIGHT", x.beast(0, 1), 9);
        Due.is("VOICE", x.beast(0, 2), 0);
        Due.is("one more", x.rule(0), 2);
        Due.is("its WEIGHT", x.beast(1, 1), 1);
        Due.is("its VOICE", x.beast(1, 2), 9);
    }

    static void terms_aRobberMore() {
        Due.says("Terms", "robber: a ROBBER more: COURAGE.");
        TownBand x = Due.told("robber 99;cat 1 1;robber 0;");
        Due.is("the first", x.robber(0), 99);
        Due.is("one more", x.robber(1), 0);
        Due.is("two in all", x.rule(1), 2);
    }

    static void terms_scoutInAText() {
        Due.says("Terms", "scout: SCOUT.");
        Due.is("least", Due.told("scout 0;").rule(3), 0);
        Due.is("most", Due.told("scout 40;").rule(3), 40);
        Due.flaw("scout 41;", 6, 3);
    }

    static void terms_towerInAText() {
        Due.says("Terms", "tower: THE TOWER (0 to 4 each), the lowest one first.");
        TownBand x = Due.told("ass 1 0;ass 1 0;ass 1 0;ass 1 0;ass 1 0;tower 4 0 3;");
        Due.is("the lowest one", x.at(0, 0), 4);
        Due.is("the next one", x.at(0, 1), 0);
        Due.is("the highest one", x.at(0, 2), 3);
        Due.is("three", x.rule(2), 3);
        Due.flaw("tower 5;", 6, 3);
        Due.flaw("tower 99;", 6, 3);
        Due.taken("tower 04;" + FIVE, 6);
    }

    static void terms_bedsInAText() {
        Due.says("Terms", "beds: BEDS (0 to 4 each).");
        TownBand x = Due.told(FIVE + "beds 4 0 3 1 2;");
        int[] row = {4, 0, 3, 1, 2};
        for (int i = 0; i < 5; i++) {
            Due.is("BED " + i, x.at(1, i), row[i]);
        }
        Due.flaw("beds 5;", 5, 3);
        Due.flaw("beds 99;", 5, 3);
    }

    static void terms_faultsTheFirstMet() {
        Due.says("Terms", "FAULTS, the first met as it is read (a TOKEN is read when the one before has been taken):");
        Due.flaw("cat 0 !", 4, 3);
        Due.flaw("goose !", 0, 2);
        Due.flaw("cat 1 !", 6, 1);
        Due.flaw("robber 1 !", 9, 1);
        Due.flaw("scout 41 100;", 6, 3);
        Due.flaw("scout 1;scout !", 8, 4);
        Due.flaw("tower 1 1 100;", 8, 4);
        Due.flaw(FIVE + "cat !", FIVE.length(), 5);
        Due.flaw(FOUR + "robber !", FOUR.length(), 5);
        // what is looked at behind all comes last of all
        Due.flaw("tower 4;!", 8, 1);
        Due.flaw("tower 4;cat", 11, 2);
        Due.flaw("tower 4;cat 0", 12, 3);
        Due.flaw("tower 4;tower;", 8, 4);
        Due.flaw("tower 4;" + FOUR + "robber", 8 + FOUR.length(), 5);
    }

    static void terms_fault1NoToken() {
        Due.says("Terms", "1 no TOKEN, a NUMBER that is too long (its first byte).");
        for (int c = 0; c < 128; c++) {
            boolean begins = c == ' ' || c == ';' || c >= 'a' && c <= 'z' || c >= '0' && c <= '9';
            if (!begins) {
                Due.flaw("" + (char) c, 0, 1);
            }
        }
        Due.flaw("123", 0, 1);
        Due.flaw("cat 1 100;", 6, 1);
        Due.flaw("cat 1 1;  0000000", 10, 1);
        Due.flaw("tower 100;", 6, 1);
        Due.flaw("cat 1 1;100", 8, 1);
    }

    static void terms_fault2CanNotStandThere() {
        Due.says("Terms", "2 a TOKEN that can not stand there (a NAME that begins no line; or the end: the length).");
        Due.flaw("goose 1 1;", 0, 2);
        Due.flaw("cat 1 1;goose", 8, 2);
        Due.flaw("12", 0, 2);
        Due.flaw("cat;", 3, 2);
        Due.flaw("cat cat;", 4, 2);
        Due.flaw("cat 1 1 cat", 8, 2);
        Due.flaw("tower scout", 6, 2);
        Due.flaw("cat", 3, 2);
        Due.flaw("cat  ", 5, 2);
        Due.flaw("cat 1", 5, 2);
        Due.flaw("cat 1 1", 7, 2);
        Due.flaw("cat 1 1 ", 8, 2);
        Due.flaw("robber", 6, 2);
        Due.flaw("scout 1", 7, 2);
        Due.flaw("tower", 5, 2);
        Due.flaw("tower 0", 7, 2);
        Due.flaw("beds 0 1 2 3 4", 14, 2);
    }

    static void terms_namesThatAreNearlyLines() {
        Due.says("Terms", "a NAME that begins no line;");
        String[] names = {"cock", "cat", "hound", "ass", "robber", "scout", "tower", "beds"};
        for (String name : names) {
            Due.flaw(name + "s 1 1;", 0, 2);
            Due.flaw(name.substring(1) + " 1 1;", 0, 2);
            Due.flaw("z" + name.substring(1) + " 1 1;", 0, 2);
            Due.flaw(name.substring(0, name.length() - 1) + " 1 1;", 0, 2);
            Due.flaw(name.substring(0, name.length() - 1) + "z 1 1;", 0, 2);
        }
    }

    static void terms_fault3OutOfBounds() {
        Due.says("Terms", "3 a NUMBER out of its bounds.");
        Due.flaw("cat 0 1;", 4, 3);
        Due.flaw("cat 00 1;", 4, 3);
        Due.flaw("cat 10 1;", 4, 3);
        Due.flaw("cat 1 10;", 6, 3);
        Due.flaw("scout 41;", 6, 3);
        Due.flaw("tower 5;", 6, 3);
        Due.flaw("beds 5;", 5, 3);
        Due.taken("cat 1 0;cat 9 9;scout 40;tower 0;beds 1 0;robber 0;robber 99;", 7);
    }

    static void terms_fault4ForTheSecondTime() {
        Due.says("Terms", "4 scout, tower, beds for the second time (its NAME);");
        Due.flaw("scout 1; scout 1;", 9, 4);
        Due.flaw("tower; tower;", 7, 4);
        Due.flaw("beds; beds;", 6, 4);
        Due.taken("scout 1;tower;beds;", 3);
        Due.flaw("scout 1;tower;beds;scout 1;", 19, 4);
    }

    static void terms_fault4InThatRowAlready() {
        Due.says("Terms", "a BEAST that is in that row already (it).");
        Due.flaw("tower 0 0;", 8, 4);
        Due.flaw("beds 0 0;", 7, 4);
        Due.flaw("tower 4 3 2 1 0 4;", 16, 4);
        Due.flaw("beds 0 1 2 3 4 4;", 15, 4);
        Due.flaw("tower 1 01;", 8, 4);
        // in another row it may be
        Due.taken("cat 1 1;tower 0;beds 0;", 3);
        // a 6th that is out of its bounds is that first
        Due.flaw("tower 4 3 2 1 0 5;", 16, 3);
    }

    static void terms_fault5TooMany() {
        Due.says("Terms", "5 the 6th BEAST, the 5th robber (its NAME).");
        Due.taken(FIVE + FOUR, 9);
        Due.flaw(FIVE + FOUR + " cat", FIVE.length() + FOUR.length() + 1, 5);
        String[] kinds = {"cock", "cat", "hound", "ass"};
        for (String kind : kinds) {
            Due.flaw(FIVE + kind + " 1 1;", FIVE.length(), 5);
        }
        Due.flaw(FOUR + "robber 1;", FOUR.length(), 5);
        Due.flaw(FOUR + FIVE + "robber 1;", FOUR.length() + FIVE.length(), 5);
    }

    static void terms_fault6ThereIsNot() {
        Due.says("Terms", "Behind all (the length): 6 a BEAST that there is not;");
        Due.flaw("tower 0;", 8, 6);
        Due.flaw("beds 0;", 7, 6);
        Due.flaw("cat 1 1;tower 1;  ", 18, 6);
        Due.flaw("cat 1 1;beds 0 1;", 17, 6);
        Due.taken("tower 1;beds 1 0;cat 1 1;cat 1 1;", 4);
        Due.flaw("tower 4;cat 1 1;cat 1 1;cat 1 1;cat 1 1;", 40, 6);
        Due.taken("tower 4;" + FIVE, 6);
    }

    static void terms_fault7NotOfAllBeasts() {
        Due.says("Terms", "7 beds are told, but not of all BEASTS;");
        Due.flaw("cat 1 1;beds;", 13, 7);
        Due.flaw("beds 0;cat 1 1;cat 1 1;", 23, 7);
        Due.flaw(FIVE + "beds 0 1 2 3; ", FIVE.length() + 14, 7);
        Due.taken("beds;", 1);
        Due.taken("beds 0;cat 1 1;", 2);
        Due.flaw("cat 1 1;cat 1 1;beds 2;", 23, 6);
    }

    static void terms_fault8DoesNotStand() {
        Due.says("Terms", "8 THE TOWER does not STAND.");
        Due.flaw("cock 1 1;cock 2 1;tower 0 1;", 28, 8);
        Due.taken("cock 1 1;cock 2 1;tower 1 0;", 3);
        Due.taken("cock 1 1;cock 1 1;tower 0 1;", 3);
        // 6 and 7 come ahead of it
        Due.flaw("cock 1 1;cock 2 1;tower 0 1;beds 2;", 35, 6);
        Due.flaw("cock 1 1;cock 2 1;tower 0 1;beds 1;", 35, 7);
        Due.flaw("cock 1 1;cock 2 1;tower 0 1;beds 1 0;", 37, 8);
        Due.flaw("tower 0 1;cock 1 1;cock 2 1; ", 29, 8);
    }

    static void terms_aTakenTextTellsAll() {
        Due.says("Terms", "A text that is taken tells all, in place of what there was; nothing is SEEN; "
            + "IMAGES are gone.");
        TownBand x = Due.told("ass 9 9;cat 1 1;robber 1;robber 2;scout 9;tower 0;beds 1 0;");
        x.keep(0);
        x.keep(1);
        x.see(1, 7);
        Due.is("an empty text", x.text(), 0);
        int[] rules = {0, 0, 0, 5, 0};
        for (int what = 0; what < 5; what++) {
            Due.is("rule(" + what + ")", x.rule(what), rules[what]);
        }
        Due.is("nothing is SEEN", x.count(0), 0);
        Due.is("IMAGES are gone", x.count(1), 0);
        Due.is("back(0)", x.back(0), Due.STATE);
        Due.is("back(1)", x.back(1), Due.STATE);
        Due.is("keep(0): there was none", x.keep(0), 0);
        Due.feed(x, "hound 2 3;hound 4 5;");
        x.text();
        Due.is("the BEDS are by order again", x.at(1, 0), 0);
        Due.is("the KIND is new", x.beast(0, 0), 2);
        Due.is("nobody in THE TOWER", x.at(0, 0), Due.BAD);
    }
}
