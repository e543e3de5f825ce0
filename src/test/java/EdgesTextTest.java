/** The edges of terms, words, sayings, the tape and its tokens, hands and days, sentence by sentence. */
public final class EdgesTextTest {
    private static final String A19 = "a".repeat(19), M9 = "m".repeat(9);

    private static void faulty(ShownLibrary x, String text, int fault, int place) {
        Due.is("text() of '" + text + "'", Due.tell(x, text), -10 - place);
        Due.is("fault() of '" + text + "'", x.fault(), fault);
    }

    private static void faulty(String text, int fault, int place) {
        faulty(Due.with("word a 1 mxx;word c 2 mxy;"), text, fault, place);
    }

    private static void good(String text, int lines) {
        ShownLibrary x = Due.with("word a 1 mxx;word c 2 mxy;");
        Due.is("text() of '" + text + "'", Due.tell(x, text), lines);
        Due.is("fault() of '" + text + "'", x.fault(), 0);
    }

    // ---- SIGNS, TERMS

    private static void namesAndOStandAlone() {
        Due.says("the NAMES x, y, z and o stand alone");
        good("wish x=y;wish z=o;", 2);
        faulty("wish xx=y;", 5, 5);
        faulty("wish yo=y;", 5, 5);
        faulty("wish x=zx;", 5, 7);
        faulty("wish x=ox;", 5, 7);
    }

    private static void otherLettersAreNoSigns() {
        Due.says("SIGNS are letters: the NAMES x, y, z and o stand alone, m has two TERMS behind it, a WORD (a to d) one or two.");
        for (char c = 'a'; c <= 'z'; c++) {
            boolean isSign = "xyzo".indexOf(c) >= 0;
            if (isSign) {
                good("wish " + c + "=x;", 1);
            } else {
                faulty("wish " + c + "=x;", 5, 5);
                faulty("wish x=m" + c + "x;", 5, 7);
            }
        }
        // b and d are letters of WORDS, but there are no such WORDS
        faulty("wish bx=x;", 5, 5);
        faulty("wish dxx=x;", 5, 5);
        faulty("wish x=ex;", 5, 7);
    }

    private static void mHasTwoTerms() {
        Due.says("m has two TERMS behind it");
        good("wish mxy=mmxyz;", 1);
        faulty("wish m=x;", 5, 5);
        faulty("wish mx=x;", 5, 5);
        faulty("wish mxyz=x;", 5, 5);
        faulty("wish x=mmxy;", 5, 7);
    }

    private static void aWordHasOneOrTwo() {
        Due.says("a WORD (a to d) one or two");
        good("wish ax=cxy;wish aax=caxcxy;", 2);
        faulty("wish a=x;", 5, 5);
        faulty("wish axy=x;", 5, 5);
        faulty("wish x=c;", 5, 7);
        faulty("wish x=cx;", 5, 7);
        faulty("wish x=cxyz;", 5, 7);
    }

    private static void aTermHas1To20Signs() {
        Due.says("one row of 1 to 20 SIGNS");
        good("wish o=x;", 1);
        good("wish " + A19 + "x=x;", 1);
        good("wish x=" + A19 + "x;", 1);
        good("taken " + A19 + "x=" + A19 + "x;", 1);
        good("word b 1 " + A19 + "x;", 1);
        faulty("wish " + A19 + "ax=x;", 5, 5);
        faulty("wish x=" + A19 + "ax;", 5, 7);
        faulty("word b 1 " + A19 + "ax;", 5, 9);
        faulty("taken " + M9 + "m" + "x".repeat(11) + "=x;", 5, 6);
        faulty("wish x=" + "a".repeat(200) + "x;", 5, 7);
        // a row of no letters is no ROW at all
        faulty("wish =x;", 2, 5);
        faulty("wish x=;", 2, 7);
        ShownLibrary x = Due.with("word a 1 x;wish " + A19 + "o=" + M9 + "xxxxxxxxxx;");
        Due.is("20 signs to the left", x.of(0, 3), 20);
        Due.is("19 to the right", x.of(0, 4), 19);
        Due.is("the last of 20", x.sign(0, 0, 19), 14);
        Due.is("the last of 19", x.sign(0, 1, 18), 23);
        Due.is("change to 20", Due.change(x, 0, M9 + "xxxxxxxxxx"), 0);
        Due.is("word(0, 2)", x.word(0, 2), 19);
        Due.is("change to 21", Due.change(x, 0, M9 + "mxxxxxxxxxxx"), -10);
        Due.is("its fault", x.fault(), 5);
    }

    // ---- WORDS, SAYINGS

    private static void fourWordsAsTheyCome() {
        Due.says("WORDS (4) are numbered as they come");
        ShownLibrary x = Due.with("word c 2 mxy;word a 1 x;");
        faulty(x, "word b 1 o;word d 1 x;word a 1 x;", 4, 27);
        Due.is("none of these came", x.count(5), 2);
        Due.is("two more", Due.tell(x, "word d 2 y;word b 1 dxx;"), 2);
        int[] letters = {2, 0, 3, 1};
        for (int w = 0; w < 4; w++) {
            Due.is("word(" + w + ", 0)", x.word(w, 0), letters[w]);
        }
        Due.is("word(4, 0)", x.word(4, 0), Due.BAD);
        for (char c = 'a'; c <= 'd'; c++) {
            faulty(x, "word " + c + " 1 x;", 4, 5);
        }
        faulty(x, "word e 1 x;", 2, 5);
        Due.is("count(5)", x.count(5), 4);
    }

    private static void aMeaningHasXAndYIfTwo() {
        Due.says("a MEANING: a TERM with the NAME x (and y, if 2), o, m and WORDS that came ahead");
        good("word b 1 mxo;", 1);
        faulty("word b 1 mxy;", 5, 9);
        faulty("word b 1 y;", 5, 9);
        good("word b 2 mxy;", 1);
        good("word b 2 y;", 1);
        faulty("word b 2 mxz;", 5, 9);
        faulty("word b 1 z;", 5, 9);
        good("word b 1 caxo;", 1);
        faulty("word b 1 bx;", 5, 9);
        faulty("word b 1 dx;word d 1 x;", 5, 9);
        good("word d 1 x;word b 1 dx;", 2);
        faulty("word b 1 dx;", 5, 9);
    }

    private static void twentyFourSayings() {
        Due.says("SAYINGS (24) are numbered as they come");
        ShownLibrary x = new ShownLibrary();
        for (int i = 0; i < 24; i++) {
            Due.is("saying " + i, Due.tell(x, i % 3 == 0 ? "taken mxo=x;" : "wish x=o;"), 1);
            Due.is("it is the last one", x.of(i, 0), i % 3 == 0 ? 0 : 1);
            Due.is("none is behind it", x.of(i + 1, 0), Due.BAD);
        }
        Due.is("count(0)", x.count(0), 24);
        Due.is("the 25th", Due.tell(x, "wish x=o;"), -10);
        Due.is("count(0) still", x.count(0), 24);
        Due.is("of(24, 0)", x.of(24, 0), Due.BAD);
    }

    private static void twentyFourByOneText() {
        Due.says("6 the 25th SAYING (taken, wish).");
        ShownLibrary x = new ShownLibrary();
        // 24 lines of 9 bytes are 216 bytes
        Due.is("24 at once", Due.tell(x, "wish x=x;".repeat(24)), 24);
        ShownLibrary y = new ShownLibrary();
        faulty(y, "wish x=x;".repeat(24) + "wish x=x;", 6, 216);
        Due.is("none came", y.count(0), 0);
        faulty(y, "wish x=x;".repeat(24) + "taken x=x;", 6, 216);
        faulty(y, "wish x=x;".repeat(24) + "  taken", 6, 218);
        faulty(y, "wish x=x;".repeat(24) + "say", 2, 216);
        Due.is("a word behind 24", Due.tell(y, "wish x=x;".repeat(24) + "word a 1 x;"), 25);
    }

    // ---- THE TAPE

    private static void theTapeHas240Bytes() {
        Due.says("THE TAPE has 240 bytes, places from 0.");
        ShownLibrary x = new ShownLibrary();
        Due.is("a line that ends at 239", Due.tell(x, " ".repeat(231) + "wish x=o;"), 1);
        Due.is("sign(0, 1, 0)", x.sign(0, 1, 0), 14);
        faulty(x, " ".repeat(239) + "?", 1, 239);
        faulty(x, " ".repeat(239) + "x", 2, 239);
        faulty(x, " ".repeat(232) + "wish x=o", 2, 240);
        faulty(x, "?" + " ".repeat(239), 1, 0);
        faulty(x, "w", 2, 0);
        faulty(x, "wish ", 2, 5);
    }

    private static void feedUpTo240() {
        Due.says("Eight bytes come behind THE TAPE, the highest first: how many it has. FULL: more than 240.");
        ShownLibrary x = new ShownLibrary();
        for (int i = 1; i <= 30; i++) {
            Due.is("feed " + i, x.feed(i == 1 ? 0x7769736820783d6fL : i == 2 ? 0x3b20202020202020L : 0x2020202020202020L), 8 * i);
        }
        Due.is("the 31st", x.feed(0x2020202020202020L), Due.FULL);
        Due.is("count(9)", x.count(9), 240);
        Due.is("text()", x.text(), 1);
        Due.is("x to the left", x.sign(0, 0, 0), 23);
        Due.is("o to the right", x.sign(0, 1, 0), 14);
        Due.is("feed then", x.feed(0), 8);
        for (int had = 232; had <= 234; had++) {
            ShownLibrary y = new ShownLibrary();
            Due.type(y, " ".repeat(had));
            Due.is("feed behind " + had, y.feed(0), had == 232 ? 240 : Due.FULL);
            Due.is("count(9)", y.count(9), had == 232 ? 240 : had);
        }
    }

    private static void allEightBytesCount() {
        Due.says("Eight bytes come behind THE TAPE, the highest first");
        for (int i = 0; i < 8; i++) {
            for (int b : new int[] {0, 127, 128, 255}) {
                ShownLibrary x = new ShownLibrary();
                long blanks = 0x2020202020202020L;
                int shift = 56 - 8 * i;
                x.feed(blanks & ~(255L << shift) | (long) b << shift);
                Due.is("byte " + i + " is " + b, x.text(), -10 - i);
                Due.is("its fault", x.fault(), 1);
            }
        }
    }

    private static void endKeepsTheFirst() {
        Due.says("THE TAPE keeps its first n bytes: how many it had. BAD.");
        ShownLibrary x = new ShownLibrary();
        Due.is("end(0) of none", x.end(0), 0);
        Due.is("end(1) of none", x.end(1), Due.BAD);
        Due.is("end(-1) of none", x.end(-1), Due.BAD);
        x.feed(0x7769736820783d78L);
        Due.is("end(9) of 8", x.end(9), Due.BAD);
        Due.is("end(-1) of 8", x.end(-1), Due.BAD);
        Due.is("end(8) of 8", x.end(8), 8);
        Due.is("end(7) of 8", x.end(7), 8);
        Due.is("end(8) of 7", x.end(8), Due.BAD);
        Due.is("7 are left", x.end(7), 7);
        x.feed(0x6f3b202020202020L);
        Due.is("15 bytes", x.count(9), 15);
        Due.is("what was cut off is gone", x.text(), 1);
        Due.is("wish x=o", x.sign(0, 1, 0), 14);
        x.feed(-1L);
        Due.is("end(0) of 8", x.end(0), 8);
        Due.is("nothing is left", x.text(), 0);
    }

    private static void tokensAsLongAsMayBe() {
        Due.says("TOKENS, each as long as may be, blanks (32) between");
        good("wish x=o;wish x=o;", 2);
        good("  wish   x  =  o  ;  ", 1);
        good("word b1x;", 1);
        faulty("wishx=o;", 2, 0);
        faulty("word b 1x x;", 2, 10);
        faulty("wordb 1 x;", 2, 0);
        faulty("wi sh x=o;", 2, 0);
        faulty("wish m x y=o;", 5, 5);
        faulty("word b 1 2;", 2, 9);
        faulty("word b 12;", 1, 7);
        good("word b 1 x;taken x=x;", 2);
        good("", 0);
        good(" ", 0);
    }

    private static void blanksAre32Alone() {
        Due.says("blanks (32) between");
        for (char c : new char[] {0, 9, 10, 13, 31, 33, 127, 160, 255}) {
            faulty("wish" + c + "x=o;", 1, 4);
            faulty("wish x=o;" + c, 1, 9);
            faulty(c + "wish x=o;", 1, 0);
        }
    }

    private static void rowsAndNumbersHaveTheirSigns() {
        Due.says("ROWS (a .. z), NUMBERS (1 figure), one = ; .");
        for (char c : new char[] {'`', '{', 'A', 'M', 'X', 'Z', '@', '['}) {
            faulty("wish x=" + c + ";", 1, 7);
            faulty("wish x=x" + c + ";", 1, 8);
        }
        for (char c : new char[] {'/', ':', '<', '>', ',', '.', '-'}) {
            faulty("word b " + c, 1, 7);
            faulty("wish x" + c + "x;", 1, 6);
        }
        for (char c = '0'; c <= '9'; c++) {
            ShownLibrary x = new ShownLibrary();
            Due.is("word b " + c, Due.tell(x, "word b " + c + " x;"), c == '1' || c == '2' ? 1 : -17);
            Due.is("fault() of " + c, x.fault(), c == '1' || c == '2' ? 0 : 3);
        }
        faulty("wish x==o;", 2, 7);
        faulty("wish x=o;;", 2, 9);
    }

    private static void noLineIsAText() {
        Due.says("text: { line }");
        ShownLibrary x = new ShownLibrary();
        Due.is("text() of nothing", x.text(), 0);
        Due.is("its fault", x.fault(), 0);
        Due.is("text() of blanks", Due.tell(x, " ".repeat(240)), 0);
        Due.is("text() of a line", Due.tell(x, "word a 1 x;"), 1);
        Due.is("text() of three", Due.tell(x, "word b 2 y;taken x=x;wish x=y;"), 3);
    }

    // ---- FAULTS

    private static void fault1() {
        Due.says("1 no TOKEN, a NUMBER of two figures or more (its first byte).");
        faulty("?", 1, 0);
        faulty("wish x=o;?", 1, 9);
        faulty("word b ?", 1, 7);
        faulty("word b 10 x;", 1, 7);
        faulty("word b 123 x;", 1, 7);
        faulty("word b 00 x;", 1, 7);
        faulty("10", 1, 0);
        faulty("wish 22=x;", 1, 5);
        faulty("wish x 999", 1, 7);
        faulty("word 11", 1, 5);
    }

    private static void fault2RowThatBeginsNoLine() {
        Due.says("2 a TOKEN that can not stand there (a ROW that begins no line, one behind word that is not one of a to d");
        for (String row : new String[] {"wor", "words", "wordx", "take", "takens", "wis", "wishes", "x", "a", "mxy", "xwish"}) {
            faulty(row + " a 1 x;", 2, 0);
        }
        faulty("wish x=o;o", 2, 9);
        // one letter is another one, at each place
        for (String line : new String[] {"word b 1 x;", "taken x=o;", "wish x=o;"}) {
            good(line, 1);
            for (int i = 0; i < line.indexOf(' '); i++) {
                for (int by : new int[] {-1, 1}) {
                    String other = line.substring(0, i) + (char) (line.charAt(i) + by) + line.substring(i + 1);
                    faulty(other, 2, 0);
                    faulty("wish x=o; " + other, 2, 10);
                }
                faulty(line.substring(0, i) + line.substring(i + 1), 2, 0);
            }
        }
    }

    private static void fault2BehindWord() {
        Due.says("one behind word that is not one of a to d");
        for (String row : new String[] {"e", "z", "m", "o", "x", "ab", "bb", "aa", "word", "abcd"}) {
            faulty("word " + row + " 1 x;", 2, 5);
        }
        good("word b 1 x;", 1);
        good("word d 1 x;", 1);
    }

    private static void fault2AnotherToken() {
        Due.says("2 a TOKEN that can not stand there");
        String[] lines = {"word b 1 x ;", "taken x = o ;", "wish x = o ;"};
        String[] others = {"b", "1", "=", ";"};
        String[] wanted = {"", "w1w;", "w=w;", "w=w;"};
        for (int i = 0; i < lines.length; i++) {
            String[] tokens = lines[i].split(" ");
            String ahead = tokens[0] + " ";
            for (int t = 1; t < tokens.length; t++) {
                for (String other : others) {
                    boolean isRow = Character.isLetter(tokens[t].charAt(0));
                    if (other.equals("b") ? isRow : other.equals(tokens[t])) {
                        continue;
                    }
                    faulty(ahead + other, 2, ahead.length());
                }
                ahead += tokens[t] + " ";
            }
            good(ahead, 1);
        }
        for (String other : new String[] {"1", "=", ";"}) {
            faulty(other, 2, 0);
            faulty("wish x=o; " + other, 2, 10);
        }
    }

    private static void fault2TheEnd() {
        Due.says("or the end: the length)");
        for (String line : new String[] {"word b 1 x ;", "taken x = o ;", "wish x = o ;"}) {
            for (int i = 1; i < line.length(); i++) {
                if (line.charAt(i) == ' ') {
                    faulty(line.substring(0, i), 2, i);
                    faulty(line.substring(0, i + 1), 2, i + 1);
                    faulty("wish x=o;" + line.substring(0, i), 2, 9 + i);
                }
            }
        }
    }

    private static void fault3() {
        Due.says("3 a NUMBER that is not 1 or 2.");
        faulty("word b 0 x;", 3, 7);
        faulty("word b 3 x;", 3, 7);
        faulty("word b 9 x;", 3, 7);
        faulty("word  b  3", 3, 9);
        good("word b 1 x;", 1);
        good("word b 2 x;", 1);
    }

    private static void fault4() {
        Due.says("4 a WORD that there is already (the letter).");
        faulty("word a 1 mxx;", 4, 5);
        faulty("word   c 9", 4, 7);
        faulty("word b 1 x;word b 1 x;", 4, 16);
        ShownLibrary x = new ShownLibrary();
        faulty(x, "word b 1 x;say", 2, 11);
        Due.is("one that did not come is not there", Due.tell(x, "word b 1 x;"), 1);
    }

    private static void fault5() {
        Due.says("5 a ROW that is no TERM as wanted (it).");
        faulty("wish mx=x;", 5, 5);
        faulty("wish   x = mx ;", 5, 11);
        faulty("taken q=x;", 5, 6);
        faulty("word b 1 mx;", 5, 9);
        faulty("word b 1 y;", 5, 9);
        faulty("word b 1 bx;", 5, 9);
    }

    private static void fault6() {
        Due.says("6 the 25th SAYING (taken, wish).");
        ShownLibrary x = Due.with("wish x=x;".repeat(23));
        faulty(x, "wish x=x; taken", 6, 10);
        faulty(x, "wish x=x;wish x=x;", 6, 9);
        Due.is("23 stand", x.count(0), 23);
        Due.is("the 24th", Due.tell(x, "wish x=x;"), 1);
        faulty(x, "wish x=x;", 6, 0);
        faulty(x, "  taken x=x;", 6, 2);
        Due.is("24 stand", x.count(0), 24);
    }

    private static void theFirstFaultMet() {
        Due.says("FAULTS, the first met as it is read (a TOKEN is read when the one before has been taken)");
        faulty("say?", 2, 0);
        faulty("word a?", 4, 5);
        faulty("word e?", 2, 5);
        faulty("word b 3?", 3, 7);
        faulty("word b 1 mx?", 5, 9);
        faulty("word b 1 x?", 1, 10);
        faulty("wish mx?", 5, 5);
        faulty("wish x?", 1, 6);
        faulty("wish x=mx?", 5, 7);
        faulty("wish x=x?", 1, 8);
        faulty("wish mx=mx;", 5, 5);
        faulty("word e 3 mx", 2, 5);
        faulty("word a 3 mx", 4, 5);
        faulty("word b 3 mx", 3, 7);
        ShownLibrary x = Due.with("wish x=x;".repeat(24));
        faulty(x, "wish?", 6, 0);
        faulty(x, "taken mx", 6, 0);
        faulty(x, "word?", 1, 4);
    }

    private static void thenNoneCame() {
        Due.says("how many lines; -10 less the place of its FAULT: then none came.");
        ShownLibrary x = new ShownLibrary();
        faulty(x, "word a 1 x;word b 1 ax;taken ax=x;wish bx=x;?", 1, 44);
        Due.is("no words", x.count(5), 0);
        Due.is("no sayings", x.count(0), 0);
        Due.is("the tape is empty", x.count(9), 0);
        faulty(x, "wish ax=x;", 5, 5);
        Due.is("the same without its fault", Due.tell(x, "word a 1 x;word b 1 ax;taken ax=x;wish bx=x;"), 4);
        Due.is("the tape is empty again", x.count(9), 0);
        Due.is("it is not read twice", x.text(), 0);
        Due.is("words", x.count(5), 2);
        Due.is("sayings", x.count(0), 2);
    }

    private static void theLatestFault() {
        Due.says("The FAULT of the latest text(), change(); 0.");
        ShownLibrary x = new ShownLibrary();
        Due.is("a new one", x.fault(), 0);
        faulty(x, "?", 1, 0);
        Due.is("it stays", x.fault(), 1);
        x.feed(0);
        x.end(0);
        x.count(0);
        Due.is("other calls leave it", x.fault(), 1);
        Due.tell(x, "word a 1 x;");
        Due.is("text() that is taken", x.fault(), 0);
        Due.is("change() to y", Due.change(x, 0, "y"), -10);
        Due.is("its fault", x.fault(), 5);
        Due.is("change() of no word", x.change(1), Due.BAD);
        Due.is("it told nothing", x.fault(), 5);
        Due.is("change() that is taken", Due.change(x, 0, "o"), 0);
        Due.is("its fault", x.fault(), 0);
        faulty(x, "wish", 2, 4);
        Due.is("text() of nothing", x.text(), 0);
        Due.is("its fault", x.fault(), 0);
    }

    // ---- HANDS, days, a new object

    private static void handsAndDays() {
        Due.says("HANDS 0 to 9: all that comes is of THE HAND (0 at first) on THE DAY (0 to 999; 0 at first).");
        ShownLibrary x = Due.with("wish x=o;");
        Due.is("hand 0 at first", x.of(0, 1), 0);
        Due.is("day 0 at first", x.of(0, 2), 0);
        x.hand(9);
        x.day(999);
        Due.tell(x, "wish x=o;taken x=x;");
        Due.is("hand 9", x.of(1, 1), 9);
        Due.is("hand 9 for all", x.of(2, 1), 9);
        Due.is("day 999", x.of(2, 2), 999);
        Due.is("what came ahead is of 0", x.of(0, 1), 0);
        Due.is("and on 0", x.of(0, 2), 0);
        Due.is("as on 998", x.as(1, 998), Due.NONE);
        Due.is("as on 999", x.as(1, 999), 1);
    }

    private static void theHand() {
        Due.says("THE HAND becomes h: what it was. BAD.");
        ShownLibrary x = new ShownLibrary();
        Due.is("hand(0)", x.hand(0), 0);
        Due.is("hand(9)", x.hand(9), 0);
        Due.is("hand(10)", x.hand(10), Due.BAD);
        Due.is("hand(-1)", x.hand(-1), Due.BAD);
        Due.is("hand(9) again", x.hand(9), 9);
        Due.is("hand(0) again", x.hand(0), 9);
    }

    private static void theDay() {
        Due.says("THE DAY becomes d, not ahead of it: what it was. BAD.");
        ShownLibrary x = new ShownLibrary();
        Due.is("day(-1)", x.day(-1), Due.BAD);
        Due.is("day(0)", x.day(0), 0);
        Due.is("day(1)", x.day(1), 0);
        Due.is("day(0) is ahead", x.day(0), Due.BAD);
        Due.is("day(1) is it", x.day(1), 1);
        Due.is("day(1000)", x.day(1000), Due.BAD);
        Due.is("day(999)", x.day(999), 1);
        Due.is("day(998) is ahead", x.day(998), Due.BAD);
        Due.is("day(999) is it", x.day(999), 999);
        Due.is("day(1000) again", x.day(1000), Due.BAD);
    }

    private static void aNewObject() {
        Due.says("`ShownLibrary()`: Nothing; SHEETS of nothing.");
        ShownLibrary x = new ShownLibrary();
        for (int what = 0; what < 10; what++) {
            Due.is("count(" + what + ")", x.count(what), 0);
        }
        Due.is("count(10)", x.count(10), Due.NONE);
        for (int k = 0; k < 4; k++) {
            Due.is("lay(" + k + ", 0, 0)", x.lay(k, 0, 0), -11);
        }
        Due.is("fault()", x.fault(), 0);
        Due.is("undo()", x.undo(), Due.NONE);
        Due.is("show()", x.show(), Due.STATE);
        Due.is("step(0, 0, 0)", x.step(0, 0, 0), Due.STATE);
        Due.is("proof(0)", x.proof(0), Due.STATE);
        Due.is("text()", x.text(), 0);
        Due.is("worlds(1, 0)", x.worlds(1, 0), 1);
        Due.is("worlds(2, 0)", x.worlds(2, 0), 32);
        Due.is("worlds(2, 1)", x.worlds(2, 1), 0);
        ShownLibrary y = Due.with("word a 1 x;wish ax=x;");
        y.sheet(0, 0, 1);
        ShownLibrary z = new ShownLibrary();
        Due.is("of its own: sayings", z.count(0), 0);
        Due.is("of its own: words", z.count(5), 0);
        Due.is("of its own: sheets", z.count(10), Due.NONE);
    }

    public static void main(String[] args) {
        namesAndOStandAlone();
        otherLettersAreNoSigns();
        mHasTwoTerms();
        aWordHasOneOrTwo();
        aTermHas1To20Signs();
        fourWordsAsTheyCome();
        aMeaningHasXAndYIfTwo();
        twentyFourSayings();
        twentyFourByOneText();
        theTapeHas240Bytes();
        feedUpTo240();
        allEightBytesCount();
        endKeepsTheFirst();
        tokensAsLongAsMayBe();
        blanksAre32Alone();
        rowsAndNumbersHaveTheirSigns();
        noLineIsAText();
        fault1();
        fault2RowThatBeginsNoLine();
        fault2BehindWord();
        fault2AnotherToken();
        fault2TheEnd();
        fault3();
        fault4();
        fault5();
        fault6();
        theFirstFaultMet();
        thenNoneCame();
        theLatestFault();
        handsAndDays();
        theHand();
        theDay();
        aNewObject();
        Due.finish();
    }
}
