/** Boundary cases of promises 6 and 7: feed, text. */
final class BoundsOfTexts extends Bounds {
    private static final String LET_EIGHT =
            "let na=1;let nb=1;let nc=1;let nd=1;let ne=1;let nf=1;let ng=1;let nh=1;";
    private static final String BAR = "bar when 1;";

    private BoundsOfTexts() {
    }

    static void all() {
        sentence(6, "Up to 24 signs come behind the TAPE", BoundsOfTexts::upTo24Signs);
        sentence(6, "the bytes of a, b, c, of each the highest first", BoundsOfTexts::orderOfBytes);
        sentence(6, "others than 10 and 32 .. 126, and what is beyond 1,000, are left out", BoundsOfTexts::eachByte);
        sentence(6, "how many there are", BoundsOfTexts::howManySigns);
        sentence(6, "The TAPE has at most 1,000 signs, 10 and 32 .. 126", BoundsOfTexts::fullTape);
        sentence(7, "what reads it takes it: it is empty then", BoundsOfTexts::tapeIsTaken);
        sentence(7, "in place of the one there was", BoundsOfTexts::inPlaceOfTheOther);
        sentence(7, "0, or its FAULT", BoundsOfTexts::faultyTextIsNone);
        sentence(7, "blanks (10, 32) between where one likes", BoundsOfTexts::blanks);
        sentence(7, "TOKENS, each as long as can be", BoundsOfTexts::longTokens);
        sentence(7, "WORDS (letters a .. z, 8 at most)", BoundsOfTexts::words);
        sentence(7, "NUMBERS (1 to 4 digits; a letter may stand right behind)", BoundsOfTexts::numbers);
        sentence(7, "All else (a longer WORD or NUMBER, too, at its first sign) is none.", BoundsOfTexts::noTokens);
        sentence(7, "TEXT: 24 lines at most", BoundsOfTexts::lines);
        sentence(7, "TEST: SUM [ < SUM or = SUM ]", BoundsOfTexts::oneComparison);
        sentence(7, "5 of not and ( ) within one another", BoundsOfTexts::depth);
        sentence(7, "(What stands in [ ] may be left out, { } are for \"any more\"; and, or go from the left alike.)",
                BoundsOfTexts::anyMore);
        sentence(7, "N of doubt 1 to 99, of stone 0 to 7", BoundsOfTexts::numbersOfLines);
        sentence(7, "A NAME is another WORD than all of these and let bar doubt stone when and or not",
                BoundsOfTexts::wordsThatAreNoNames);
        sentence(7, "8 of them at most, each told once", BoundsOfTexts::names);
        sentence(7, "the end being one at the text's length", BoundsOfTexts::theEnd);
        sentence(7, "of the first token from the left that is wrong the least", BoundsOfTexts::firstAndLeast);
        sentence(7, "1 it is none, or can't stand there", BoundsOfTexts::canNotStand);
        sentence(7, "2 a NAME that is not told (ahead)", BoundsOfTexts::notTold);
        sentence(7, "3 one that is, told again", BoundsOfTexts::toldAgain);
        sentence(7, "4 a NUMBER that is not as told", BoundsOfTexts::notAsTold);
        sentence(7, "5 one too many: a line's first token; a ninth NAME; not, or a PART, within 5 others",
                BoundsOfTexts::oneTooMany);
        sentence(7, "Numbers go round in 32 bits.", BoundsOfTexts::roundIn32Bits);
        sentence(7, "\"and\", \"or\": 1 or 0 by whether both, one of both is not 0; not: 1 of 0, else 0; <, = tell 1 or 0.",
                BoundsOfTexts::onesAndNoughts);
    }

    private static void upTo24Signs() {
        FlintHeap h = new FlintHeap();
        due("none", h.feed(0, 0, 0), 0);
        due("one", h.feed(0, 0, ' '), 1);
        due("24", h.feed(0x2020202020202020L, 0x2020202020202020L, 0x2020202020202020L), 25);
        due("none once more", h.feed(0, 0, 0), 25);
        due("25 blanks", h.text(), 0);
    }

    private static void orderOfBytes() {
        FlintHeap h = new FlintHeap();
        h.feed(Check.eight("bar when", 0), Check.eight(" gap + s", 0), Check.eight("ize = 1;", 0));
        due("24 signs in their order", h.text(), 0);
        h.feed(Check.eight("bar", 0), Check.eight(" when", 0), Check.eight(" 1", 0));
        h.feed(Check.eight("1 ", 0), Check.eight(";", 0), 0);
        due("behind what there is", h.text(), 0);
        h.feed(0x2400000000000025L, 0, 0);
        due("the highest is the first", h.text(), 1);
    }

    private static void eachByte() {
        for (int sign = 0; sign < 256; sign++) {
            boolean stays = sign == 10 || sign >= 32 && sign <= 126;
            long one = sign;
            FlintHeap h = new FlintHeap();
            due("sign " + sign + " as the highest byte of a", h.feed(one << 56, 0, 0), stays ? 1 : 0);
            due("sign " + sign + " as the lowest byte of c", h.feed(0, 0, one), stays ? 2 : 0);
            if (!stays) {
                refused("feed of sign " + sign, Made::rich, 44, g -> g.feed(0, one << 24, 0));
            }
        }
    }

    private static void howManySigns() {
        FlintHeap h = new FlintHeap();
        for (int i = 1; i <= 41; i++) {
            due("24 signs more", h.feed(0x0a0a0a0a0a0a0a0aL, 0x2020202020202020L, 0x7e7e7e7e7e7e7e7eL), 24 * i);
            due("count(6)", h.count(6), 24 * i);
        }
        due("what has no room", h.feed(0x0a0a0a0a0a0a0a0aL, 0x2020202020202020L, 0x7e7e7e7e7e7e7e7eL), 1000);
        due("count(6)", h.count(6), 1000);
    }

    private static void fullTape() {
        due("the 1,000th", Made.tape(999).feed('x', 0, 0), 1000);
        FlintHeap last = Made.tape(999);
        last.feed(0, '$', '%');
        due("of two the first stays", last.text(), 1 + 16 * 999);
        FlintHeap middle = Made.tape(992);
        due("16 signs for the last 8", middle.feed(Check.eight("        ", 0), Check.eight("$$$$$$$$", 0), 0), 1000);
        due("the first 8 stay", middle.text(), 0);
        refused("feed of a full TAPE", () -> Made.tape(1000), 1000, h -> h.feed(-1L, 0x2424242424242424L, '$'));
        FlintHeap full = new FlintHeap();
        Check.feed(full, "bar when 1" + "+1".repeat(494) + ";");
        due("a line of 999 signs", full.count(6), 999);
        due("and one sign more", full.feed(' ', 0, 0), 1000);
        due("it is read", full.text(), 0);
    }

    private static void tapeIsTaken() {
        FlintHeap h = Made.tape(1000);
        due("full", h.count(6), 1000);
        due("read", h.text(), 0);
        due("empty", h.count(6), 0);
        due("a FAULT", read(h, "bar when"), 1 + 16 * 8);
        due("empty", h.count(6), 0);
        due("signs come from the first place on", read(h, "$"), 1);
        read(h, "z".repeat(24));
        due("a WORD ends where the TAPE ends", read(h, "bar"), 1 + 16 * 3);
        read(h, "9".repeat(24));
        due("a NUMBER ends where the TAPE ends", read(h, "doubt 99"), 1 + 16 * 8);
        due("a WORD at the end of a full TAPE", read(h, " ".repeat(997) + "bar"), 1 + 16 * 1000);
        due("the empty TAPE is read", h.text(), 0);
        due("empty", h.count(6), 0);
    }

    private static void inPlaceOfTheOther() {
        FlintHeap h = new FlintHeap();
        due("a text", read(h, "let aa = 1 ; bar when aa ;"), 0);
        due("lines", h.count(5), 2);
        due("NAMES", h.count(9), 1);
        due("another one", read(h, "let bb = 1 ; let cc = 1 ; let aa = 1 ; bar when 0 ; bar when 0 ;"), 0);
        due("lines", h.count(5), 5);
        due("NAMES", h.count(9), 3);
        due("NAMES of the one there was are not told", read(h, "bar when bb ;"), 2 + 16 * 9);
        due("the empty one", h.text(), 0);
        due("lines", h.count(5), 0);
        due("NAMES", h.count(9), 0);
        nothingIsLeft();
    }

    /** Short texts in place of the greatest ones. */
    private static void nothingIsLeft() {
        FlintHeap h = Made.broken(2, 1);
        for (int i = 0; i < 3; i++) {
            due("a long text", read(h, "bar when not not not not 1;".repeat(24)), 0);
            due("it bars", h.meet(0, 8, 2), 0);
        }
        due("a short one", read(h, "bar when 1;"), 0);
        due("it bars", h.meet(0, 8, 2), 0);
        due("a short one", read(h, "bar when 0;"), 0);
        due("it bars nothing", h.meet(0, 8, 2), 1);
    }

    /** The TAPE is empty then, but what is no TEXT takes no text's place. */
    private static void faultyTextIsNone() {
        String[] faulty = {"keep", "bar when 1 ; bar when", "let wide = 2 ; doubt 9 when wide ; stone 8 when 1 ;",
            "let ab = 1 ; let ab = 1 ;", BAR.repeat(25), LET_EIGHT + "let ni = 1 ;"};
        for (String text : faulty) {
            refused("text() of " + text, BoundsOfTexts::withoutTape, 1, h -> read(h, text) > 0 ? 1 : 0);
        }
    }

    private static FlintHeap withoutTape() {
        FlintHeap h = Made.rich();
        h.text();
        return h;
    }

    private static void fault(String text, int kind, int place) {
        due("text " + text, read(new FlintHeap(), text), kind + 16 * place);
    }

    private static void good(String text) {
        due("text " + text, read(new FlintHeap(), text), 0);
    }

    private static void blanks() {
        good("");
        good(" ");
        good("\n");
        good("bar when not(1<2);bar when(1);");
        good("\n bar \n\n when  1\n;\n ");
        good("bar when 1;\nbar when 1\n;");
        fault("\n \n$", 1, 3);
        fault("bar when 1 2;", 1, 11);
        fault("ba r when 1;", 1, 0);
    }

    private static void longTokens() {
        fault("barwhen 1;", 1, 0);
        fault("bar whenot 1;", 1, 4);
        fault("bar when notgap;", 2, 9);
        fault("bar when gapp;", 2, 9);
        good("bar when not gap;");
        good("let gapp=1;bar when gapp;");
        due("12 is one NUMBER", worth("12 = 3 * 4"), 1);
        due("a digit right behind a WORD", worth("not0"), 1);
    }

    private static void words() {
        good("let a=1;bar when a;");
        good("let abcdefgh=1;bar when abcdefgh;");
        good("let zzzzzzzz=1;bar when zzzzzzzz;");
        fault("let abcdefghi=1;", 1, 4);
        fault("bar when abcdefghi;", 1, 9);
        fault("bar when abcdefgh;", 2, 9);
        fault("bar whenwhenw 1;", 1, 4);
        fault("Bar when 1;", 1, 0);
        fault("bar when gaP;", 2, 9);
        fault("let aA=1;", 1, 5);
        // Two WORDS that differ in the last letter, or in their length alone, are two.
        good("let abcdefgh=1;let abcdefgi=1;let bbcdefgh=1;let abcdefg=1;");
        good("let a=1;let aa=1;let aaa=1;let aaaaaaaa=1;");
        good("let p=1;let ap=1;let ax=1;let ex=1;let b=1;let ba=1;");
    }

    private static void numbers() {
        good("bar when 0;");
        good("bar when 9999;");
        good("bar when 0000;");
        fault("bar when 10000;", 1, 9);
        fault("bar when 00000;", 1, 9);
        fault("bar when 12345 ;", 1, 9);
        good("doubt 0099 when 1;");
        fault("doubt 00099 when 1;", 1, 6);
        good("doubt 5when 1and 2or 3;");
        good("stone 0007when 1;");
        due("9999", worth("9999 - 9998"), 1);
        due("0010 is 10", worth("0010 = 10"), 1);
        fault("bar when -1;", 1, 9);
        fault("bar when 1 .5;", 1, 11);
    }

    private static void noTokens() {
        String signs = "()<=+-*;";
        for (char sign = 33; sign < 127; sign++) {
            boolean letterOrDigit = sign >= 'a' && sign <= 'z' || sign >= '0' && sign <= '9';
            if (!letterOrDigit && signs.indexOf(sign) < 0) {
                fault(BAR + sign, 1, 11);
                fault("bar when " + sign, 1, 9);
                fault("bar when 1" + sign, 1, 10);
                fault("let aa" + sign + "=1;", 1, 6);
            }
        }
        fault("bar when abcdefghijklmnop;", 1, 9);
        fault("bar when 1 123456789 ;", 1, 11);
        fault("bar when 12345a;", 1, 9);
        fault("bar when gap + aaaaaaaaa;", 1, 15);
        fault("bar when (12345);", 1, 10);
        fault("bar when (abcdefghi);", 1, 10);
        fault("bar when not 12345;", 1, 13);
        fault("bar when not abcdefghi;", 1, 13);
    }

    private static void lines() {
        for (int n = 0; n <= 24; n++) {
            FlintHeap h = new FlintHeap();
            due(n + " lines", read(h, BAR.repeat(n)), 0);
            due("count(5)", h.count(5), n);
        }
        fault(BAR.repeat(25), 5, 24 * 11);
        fault(BAR.repeat(26), 5, 24 * 11);
        fault(BAR.repeat(24) + " \n bar", 5, 24 * 11 + 3);
        good(BAR.repeat(24) + " \n ");
        good(BAR.repeat(20) + "let aa=1;let bb=1;doubt 1when 1;stone 1when 1;");
        fault(BAR.repeat(20) + "let aa=1;let bb=1;doubt 1when 1;stone 1when 1;let cc=1;", 5, 20 * 11 + 46);
    }

    private static void oneComparison() {
        good("bar when 1;");
        good("bar when 1<2;");
        good("bar when 1=2;");
        fault("bar when 1<2<3;", 1, 12);
        fault("bar when 1=2=3;", 1, 12);
        fault("bar when 1<2=3;", 1, 12);
        fault("bar when 1=2<3;", 1, 12);
        good("bar when (1<2)<3 and 1=2;");
        good("let aa=1=2;");
        fault("let aa=1=2=3;", 1, 10);
        fault("bar when <1;", 1, 9);
        fault("bar when 1<;", 1, 11);
    }

    private static void depth() {
        good("bar when not not not not 1;");
        good("bar when ((((1))));");
        good("bar when not(not(1));");
        good("bar when ((((1+2*3<4 and 5))))*((((6))));");
        fault("bar when (((((1)))));", 5, 14);
        fault("bar when ((((((1))))));", 5, 14);
        fault("bar when not not not not not not 1;", 5, 29);
        fault("bar when not(not(not 1));", 5, 21);
        fault("bar when (((1+(2+(3)))));", 5, 18);
        due("3 of not within ( )", worth("not not not 7"), 0);
    }

    private static void anyMore() {
        good("bar when 1" + " and 1".repeat(164) + ";");
        good("bar when 1" + "or 1".repeat(247) + ";");
        good("bar when 1" + "-1".repeat(494) + ";");
        good("bar when 1" + "*1".repeat(494) + ";");
        due("none more", worth("7 = 7"), 1);
        due("and, or from the left", worth("1 or 1 and 0"), 0);
        due("and, or from the left", worth("0 and 0 or 1"), 1);
        due("- from the left", worth("9 - 4 - 4"), 1);
        due("* ahead of +", worth("1 + 0 * 9"), 1);
        due("* ahead of -", worth("1 - 0 * 9"), 1);
        fault("bar when 1 and;", 1, 14);
        fault("bar when or 1;", 1, 9);
        fault("bar when 1+;", 1, 11);
        fault("bar when 1*;", 1, 11);
        fault("bar when ;", 1, 9);
    }

    private static void numbersOfLines() {
        fault("doubt 0 when 1;", 4, 6);
        good("doubt 1 when 1;");
        good("doubt 99 when 1;");
        fault("doubt 100 when 1;", 4, 6);
        fault("doubt 9999 when 1;", 4, 6);
        good("stone 0 when 1;");
        good("stone 7 when 1;");
        fault("stone 8 when 1;", 4, 6);
        fault("stone 9999 when 1;", 4, 6);
        FlintHeap h = new FlintHeap();
        h.piece(NONE, 50, 50, 50, 0);
        h.piece(NONE, 50, 50, 50, 0);
        int a = flat(h, 0, BREAK, 5);
        int b = flat(h, 1, BREAK, 5);
        read(h, "doubt 1 when 1; stone 0 when 1;");
        due("doubt 1", h.meet(a, b, 3), 1);
        due("stone 0", h.look(0, 0), 0);
        read(h, "doubt 99 when 1; stone 7 when 1;");
        due("doubt 99", h.meet(a, b, 3), 99);
        due("stone 7", h.look(0, 0), 7);
    }

    private static void wordsThatAreNoNames() {
        String[] parts = {"gap", "small", "great", "far", "layers", "burnt", "breaks", "colour", "grain", "spots", "fire",
            "size"};
        for (String word : parts) {
            fault("let " + word + "=1;", 1, 4);
            good("bar when " + word + ";");
            good("let " + word + "s=1;bar when " + word + "s;");
        }
        String[] keys = {"let", "bar", "doubt", "stone", "when", "and", "or", "not"};
        for (String word : keys) {
            fault("let " + word + "=1;", 1, 4);
            fault("bar when " + word + ";", 1, word.equals("not") ? 12 : 9);
            good("let x" + word + "=1;bar when x" + word + ";");
        }
    }

    private static void names() {
        FlintHeap h = new FlintHeap();
        due("8 NAMES", read(h, LET_EIGHT), 0);
        due("count(9)", h.count(9), 8);
        good(LET_EIGHT + "bar when na+nb+nc+nd+ne+nf+ng+nh;");
        fault(LET_EIGHT + "let ni=1;", 5, 8 * 9 + 4);
        fault("let aa=1;let aa=1;", 3, 13);
        good("let aa=1;let ab=1;");
        due("the first and the eighth", worthBy("let na=5;let nb=1;let nc=1;let nd=1;let ne=1;let nf=1;let ng=1;let nh=4;",
                "na - nh"), 1);
    }

    private static void theEnd() {
        fault("bar", 1, 3);
        fault("bar   ", 1, 6);
        fault("bar when 1", 1, 10);
        fault("bar when 1\n", 1, 11);
        fault("let", 1, 3);
        fault("let aa", 1, 6);
        fault("doubt", 1, 5);
        fault("stone 1", 1, 7);
        fault("bar when (1", 1, 11);
        fault("bar when not", 1, 12);
        fault("bar when not not not not not", 1, 28);
        fault("bar when 1" + " ".repeat(990), 1, 1000);
        fault("bar when 1" + " ".repeat(989) + "$", 1, 999);
    }

    private static void firstAndLeast() {
        fault("bar when xx ; $", 2, 9);
        fault("doubt 0 when xx", 4, 6);
        fault("bar when 1 ) xx", 1, 11);
        fault("let aa = 1 ; let aa = xx ;", 3, 17);
        // Of one token: none, or can't stand there, is less than one too many; so are not told and told again.
        fault(BAR.repeat(24) + "keep", 1, 264);
        fault(BAR.repeat(24) + "$", 1, 264);
        fault(LET_EIGHT + "let gap=1;", 1, 76);
        fault(LET_EIGHT + "let nh=1;", 3, 76);
        fault("bar when (((((xx)))));", 2, 14);
        fault("bar when (((((;", 1, 14);
        fault("bar when ((((($", 1, 14);
        fault("bar when (((((aaaaaaaaa", 1, 14);
    }

    private static void canNotStand() {
        String[] starts = {"when 1;", "and", "or", "not", "1", "(", ")", "<", "=", "+", "-", "*", ";", "gap", "aa"};
        for (String start : starts) {
            fault(start, 1, 0);
            fault(BAR + start, 1, 11);
        }
        fault("bar 1 when 1;", 1, 4);
        fault("bar bar when 1;", 1, 4);
        fault("doubt when 1;", 1, 6);
        fault("doubt aa when 1;", 1, 6);
        fault("doubt 1 1;", 1, 8);
        fault("stone - 1 when 1;", 1, 6);
        fault("let 1=1;", 1, 4);
        fault("let aa 1;", 1, 7);
        fault("let aa when 1;", 1, 7);
        fault("bar when 1 when 1;", 1, 11);
        fault("bar when 1 aa;", 1, 11);
        fault("bar when 1 (1);", 1, 11);
        fault("bar when 1 not 1;", 1, 11);
        fault("bar when 1);", 1, 10);
        fault("bar when (1;", 1, 11);
        fault("bar when ();", 1, 10);
        fault("bar when 1 bar when 1;", 1, 11);
        fault(BAR + ";", 1, 11);
    }

    private static void notTold() {
        fault("bar when aa;", 2, 9);
        fault("let aa=aa;", 2, 7);
        fault("bar when aa;let aa=1;", 2, 9);
        fault("let aa=bb;let bb=1;", 2, 7);
        good("let aa=1;let bb=aa;bar when bb;");
        fault("let aa=1;bar when ab;", 2, 18);
        fault("let aa=1;bar when a;", 2, 18);
        fault("let aa=1;bar when aaa;", 2, 18);
    }

    private static void toldAgain() {
        fault("let aa=1;let aa=2;", 3, 13);
        fault("let aa=1;" + BAR + "let bb=1;let aa=2;", 3, 33);
        fault(LET_EIGHT + "let na=1;", 3, 76);
        good("let aa=1;let bb=1;");
    }

    private static void notAsTold() {
        fault("doubt 0 when 1;", 4, 6);
        fault("doubt 100", 4, 6);
        fault("doubt 0000 $", 4, 6);
        fault("stone 8", 4, 6);
        fault("stone   8", 4, 8);
        fault("let aa=1;stone 10 when aa;", 4, 15);
        good("bar when 8 + 100 + 0;");
    }

    private static void oneTooMany() {
        fault(BAR.repeat(24) + "let", 5, 264);
        fault(BAR.repeat(24) + "doubt", 5, 264);
        fault(BAR.repeat(24) + "stone", 5, 264);
        fault(LET_EIGHT + "let ni", 5, 76);
        fault(LET_EIGHT + BAR.repeat(15) + "let ni", 5, 72 + 165 + 4);
        fault("bar when not not not not not 1;", 5, 29);
        fault("bar when not not not not not gap;", 5, 29);
        fault("bar when not not not not not not 1;", 5, 29);
        fault("bar when not not not not not(1);", 5, 28);
        fault("bar when (((((not 1)))));", 5, 14);
        fault("let aa=1;bar when (((((aa)))));", 5, 23);
        fault("bar when 1*((((2)))) + (((((3)))));", 5, 28);
    }

    /** Of an E in a meeting: 0 or 1 if it is that, 50 above 1, 90 below 0. */
    private static int worth(String e) {
        return worthBy("", e);
    }

    private static int worthBy(String ahead, String e) {
        FlintHeap h = Made.broken(2, 1);
        String text = ahead + "doubt 90 when (" + e + ")<0;doubt 50 when 1<(" + e + ");doubt 1 when (" + e + ")=1;";
        return read(h, text) == 0 ? h.meet(0, 8, 3) : NONE;
    }

    private static void roundIn32Bits() {
        due("4096 * 4096 * 128 - 1 is the greatest", worth("4096*4096*128-1"), 50);
        due("4096 * 4096 * 128 is the least", worth("4096*4096*128"), 90);
        due("the least less 1 is the greatest", worth("0-4096*4096*128-1"), 50);
        due("the least less 1 and 2", worth("1+1+(4096*4096*128-1)"), 90);
        due("4096 * 4096 * 256 is 0", worth("4096*4096*256"), 0);
        due("4096 * 4096 * 256 + 1 is 1", worth("4096*4096*256+1"), 1);
        due("9999 * 9999 is below the greatest", worth("9999*9999"), 50);
        due("0 less the least is the least", worth("0-4096*4096*128"), 90);
        due("below 0", worth("0-1"), 90);
    }

    private static void onesAndNoughts() {
        int[][] rows = {{0, 0}, {0, 5}, {5, 0}, {5, 7}};
        for (int[] r : rows) {
            due(r[0] + " and " + r[1], worth(r[0] + " and " + r[1]), r[0] != 0 && r[1] != 0 ? 1 : 0);
            due(r[0] + " or " + r[1], worth(r[0] + " or " + r[1]), r[0] != 0 || r[1] != 0 ? 1 : 0);
        }
        due("below 0 is not 0", worth("(0-1) and (0-1)"), 1);
        due("below 0 is not 0", worth("(0-1) or 0"), 1);
        due("not 0", worth("not 0"), 1);
        due("not 1", worth("not 1"), 0);
        due("not 2", worth("not 2"), 0);
        due("not below 0", worth("not(0-1)"), 0);
        due("4 < 5", worth("4<5"), 1);
        due("5 < 5", worth("5<5"), 0);
        due("6 < 5", worth("6<5"), 0);
        due("4 = 5", worth("4=5"), 0);
        due("5 = 5", worth("5=5"), 1);
        due("6 = 5", worth("6=5"), 0);
    }
}
