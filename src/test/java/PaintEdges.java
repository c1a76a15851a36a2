/** "Terms", its first part: LINES, WORDS, STATES, and how a LINE is painted. */
final class PaintEdges {
    private static final String FREE = "1 0 -1 -1";
    private static final String IN_STRING = "2 1 34 -1";
    private static final String IN_REMARK = "2 2 -1 -1";
    private static final String IN_PUT_CODE = "3 0 -1 -1";

    private final Edges edges;

    PaintEdges(Edges edges) {
        this.edges = edges;
    }

    void all() {
        edges.term("9, as they stand (none at first), each of 30 bytes (32 .. 126) at most.", this::lines);
        edges.term("WORDS 0 .. 3, as they come: 1 to 5 letters a .. z each.", this::words);
        states();
        edges.term("A LINE is PAINTED from its left, each byte with a COLOUR.", this::fromItsLeft);
        edges.term("If the STATE has a MARK: if the LINE is just that letter: it has COLOUR 7, there is no"
                + " MARK any more;", this::justTheMark);
        edges.term("else all its bytes have COLOUR 4, the STATE stays.", this::notJustTheMark);
        edges.term("Else byte by byte, by the highest MODE:", this::highestMode);
        code();
        strings();
        edges.term("REMARK: [: one more comes onto the PILE, ]: it goes from the PILE; all 5.", this::remarks);
        edges.term("What would come onto a PILE of 6 does not, its byte is 6.", this::pileOfSix);
        edges.term("At the end of a LINE all from the lowest STRING with QUOTE ' on goes from the PILE",
                this::endOfALine);
        edges.term("(a LINE with a MARK ahead of it: nothing).", this::endOfALineWithAMark);
    }

    private void states() {
        edges.term("A STATE: a PILE of MODES, the lowest CODE, 6 at most,", this::pile);
        edges.term("and a MARK (a letter A .. Z, or none).", this::marks);
        edges.term("MODES: CODE, STRING (with its QUOTE, \" or '), REMARK.", this::modes);
        edges.term("At the beginning of LINE 0: CODE alone, no MARK;", this::beginningOfLine0);
        edges.term("at that of each other one as at the end of the LINE ahead of it.", this::beginningOfOthers);
    }

    private void code() {
        edges.term("CODE: as many letters a .. z as follow one another: COLOUR 2, if they are one of the"
                + " WORDS, else 1.", this::letters);
        edges.term("As many figures: 3.", this::figures);
        edges.term("\" or ': a STRING with that QUOTE comes onto the PILE, 4.", this::stringComes);
        edges.term("[: a REMARK comes onto the PILE, 5.", this::remarkComes);
        edges.term("#: it and all behind it in the LINE: 5.", this::lineRemark);
        edges.term("}: if a STRING lies right below: this CODE goes from the PILE, 7; else 6.", this::codeGoes);
        edges.term("< with a letter A .. Z right behind it,", this::letterRightBehind);
        edges.term("if the PILE is CODE alone", this::codeAlone);
        edges.term("and none such was in this LINE yet:", this::noneSuchYet);
        edges.term("both 7, that letter is the MARK from the end of the LINE on.", this::markFromTheEnd);
        edges.term("Any other byte: 0.", this::otherBytes);
    }

    private void strings() {
        edges.term("STRING: a byte 92 with a byte behind it: both 7", this::escape);
        edges.term("(the last byte of a LINE: 4, as others).", this::escapeLast);
        edges.term("{: CODE comes onto the PILE, 7.", this::codeComes);
        edges.term("Its QUOTE: it goes from the PILE, 4.", this::stringGoes);
        edges.term("Any other: 4.", this::otherBytesOfAString);
    }

    private void lines() {
        PaintedLines x = new PaintedLines();
        edges.due("none at first", x.told(4), 0);
        edges.due("no LINE 0 at first", x.of(0, 0), Check.BAD);
        for (int k = 0; k <= 9; k++) {
            Check.insertLine(x, k, String.valueOf((char) ('a' + k)));
        }
        edges.due("LINE 9", x.at(9, 0, 0), 'j');
        edges.due("LINE 10", x.of(10, 0), Check.BAD);
        edges.due("an eleventh", x.inserts(10), Check.FULL);
        x.drops(0);
        edges.due("as they stand", Check.lines(x), "b|c|d|e|f|g|h|i|j");
        PaintedLines y = Check.page(" ~" + "a".repeat(27));
        edges.due("a thirtieth byte", y.puts(0, 29, '~'), 30);
        edges.due("a thirty-first byte", y.puts(0, 30, 'a'), Check.FULL);
        edges.due("byte 31", y.puts(0, 0, 31), Check.BAD);
        edges.due("byte 127", y.puts(0, 0, 127), Check.BAD);
        edges.due("bytes 32 and 126", Check.line(y, 0), " ~" + "a".repeat(27) + "~");
    }

    private void words() {
        PaintedLines x = Check.page("a abcde az z zz");
        String[] come = {"z", "abcde", "az", "a"};
        for (int number = 0; number < come.length; number++) {
            Check.write(x, come[number]);
            edges.due("WORD " + come[number], x.word(), number);
        }
        Check.write(x, "zz");
        edges.due("a fifth WORD", x.word(), Check.FULL);
        edges.due("WORDS paint", Check.colours(x, 0), "202222202202011");
        for (String none : new String[] {"", "abcdef", "`", "{", "aA", "a1"}) {
            Check.write(x, none);
            edges.due("no WORD '" + none + "'", x.word(), Check.NO);
        }
    }

    private void pile() {
        edges.paints("", "", FREE);
        edges.paints("}}]", "660", FREE);
        edges.paints("\"{}}\"]}", "4774406", FREE);
        edges.paints("[]]", "550", FREE);
        edges.paints("[[[[", "5555", "5 2 -1 -1");
        edges.paints("[[[[[", "55555", "6 2 -1 -1");
        edges.paints("[[[[[[", "555556", "6 2 -1 -1");
    }

    private void marks() {
        edges.paints("<A", "77", "1 0 -1 65");
        edges.paints("<Z", "77", "1 0 -1 90");
        edges.paints("<@", "00", FREE);
        edges.paints("<[", "05", IN_REMARK);
        edges.paints("a", "1", FREE);
    }

    private void modes() {
        edges.paints("\"", "4", IN_STRING);
        edges.paints("[", "5", IN_REMARK);
        edges.paints("\"{", "47", IN_PUT_CODE);
        edges.paints("\"{[", "475", "4 2 -1 -1");
        edges.paints("\"{\"", "474", "4 1 34 -1");
        edges.paints("\"'\"a", "4441", FREE);
        edges.paints("'\"'a", "4441", FREE);
    }

    private void beginningOfLine0() {
        PaintedLines x = Check.page("\"a", "b", "c");
        edges.due("LINE 1 behind a STRING", Check.colours(x, 1), "4");
        x.drops(0);
        edges.due("it is LINE 0 now", Check.colours(x, 0), "1");
        edges.due("its end", Check.end(x, 0), FREE);
        PaintedLines y = Check.page("<A", "b");
        y.drops(0);
        edges.due("LINE 0 has no MARK", Check.colours(y, 0), "1");
        Check.insertLine(y, 0, "A");
        edges.due("a letter as LINE 0", Check.colours(y, 0), "0");
        Check.insertLine(y, 2, "[");
        Check.insertLine(y, 0, "a");
        edges.due("what the last LINE leaves open is none of LINE 0's", Check.colours(y, 0), "1");
    }

    private void beginningOfOthers() {
        PaintedLines x = Check.page("[", "", "", "", "", "", "", "", "", "a]b");
        edges.due("over empty LINES to LINE 9", Check.colours(x, 9), "551");
        PaintedLines y = Check.page("\"{[", "a]b", "c}d", "e\"f", "<M", "g");
        edges.due("REMARK in put CODE", Check.colours(y, 1), "551");
        edges.due("put CODE", Check.colours(y, 2), "174");
        edges.due("STRING", Check.colours(y, 3), "441");
        edges.due("MARK", Check.colours(y, 5), "4");
        Check.insertLine(y, 5, "M");
        edges.due("a LINE comes ahead", Check.colours(y, 6), "1");
    }

    private void fromItsLeft() {
        edges.paints("#\"", "55", FREE);
        edges.paints("\"#", "44", IN_STRING);
        edges.paints("\"'\"'\"", "44444", FREE);
        edges.paints("[\"]\"]", "55544", IN_STRING);
        PaintedLines x = Check.page("if a1 ~\"\\\\{}\" [r] } <A #  6789", "", "A");
        Check.addWord(x, "if");
        int bytes = 0;
        for (int colour = 0; colour <= 7; colour++) {
            bytes += x.painted(colour);
        }
        edges.due("each byte has just one", bytes, 31);
        edges.due("they are", Check.colours(x, 0), "220130047777405550607705555555");
    }

    private void justTheMark() {
        for (char mark : new char[] {'A', 'X', 'Z'}) {
            PaintedLines x = Check.page("<" + mark, "" + mark, "a", "" + mark);
            edges.due(mark + ": its colour", Check.colours(x, 1), "7");
            edges.due(mark + ": the end", Check.end(x, 1), FREE);
            edges.due(mark + ": the next LINE", Check.colours(x, 2), "1");
            edges.due(mark + ": the letter again", Check.colours(x, 3), "0");
        }
        PaintedLines y = Check.page("<X\"", "X", "a");
        edges.due("the PILE stays", Check.end(y, 1), IN_STRING);
        edges.due("the STRING goes on", Check.colours(y, 2), "4");
    }

    private void notJustTheMark() {
        PaintedLines x = Check.page("<X", "XX", "X ", " X", "x", "", "W", "<X", "\"[#}1a", "X");
        String[] want = {"77", "44", "44", "44", "4", "", "4", "44", "444444", "7"};
        for (int k = 1; k <= 8; k++) {
            edges.due("LINE " + k, Check.colours(x, k), want[k]);
            edges.due("LINE " + k + "'s end", Check.end(x, k), "1 0 -1 88");
        }
        edges.due("the MARK at last", Check.colours(x, 9), "7");
        PaintedLines y = Check.page("<X\"{[", "]}\"", "Y" + "a".repeat(29));
        edges.due("the PILE stays", Check.end(y, 1), "4 2 -1 88");
        edges.due("a LINE of 30", Check.colours(y, 2), "4".repeat(30));
    }

    private void highestMode() {
        edges.paints("a\"a[a{a[a]a}a]a\"a", "14444715551744441", FREE);
        edges.paints("\"{a\"a{a}a\"a}a\"a", "471447174417441", FREE);
    }

    private void letters() {
        PaintedLines x = Check.page("if iff fif if1ifAif i f", "if", "i", "f", "\"if{if}\"[if]", "<Iif");
        Check.addWord(x, "if");
        edges.due("LINE 0", Check.colours(x, 0), "22011101110223220220101");
        edges.due("LINE 1", Check.colours(x, 1), "22");
        edges.due("no word goes on into the next LINE", Check.colours(x, 2) + Check.colours(x, 3), "11");
        edges.due("in a STRING, in put CODE, in a REMARK", Check.colours(x, 4), "444722745555");
        edges.due("behind <I", Check.colours(x, 5), "7722");
        edges.paints("az`a{z", "110101", FREE);
        edges.paints("a".repeat(30), "1".repeat(30), FREE);
        PaintedLines y = Check.page("abcde abcdef bcdea abcd");
        Check.addWord(y, "abcde");
        edges.due("a WORD of 5", Check.colours(y, 0), "22222011111101111101111");
        PaintedLines z = Check.page("a".repeat(29) + " ", "a ab ba a");
        Check.addWord(z, "a");
        edges.due("29 letters", Check.colours(z, 0), "1".repeat(29) + "0");
        edges.due("a WORD of 1", Check.colours(z, 1), "201101102");
    }

    private void figures() {
        edges.paints("0", "3", FREE);
        edges.paints("09/:", "3300", FREE);
        edges.paints("1a2A3", "31303", FREE);
        edges.paints("9".repeat(30), "3".repeat(30), FREE);
        PaintedLines x = Check.page("0123456789");
        edges.due("one SPAN", x.of(0, 1), 1);
    }

    private void stringComes() {
        edges.paints("\"", "4", IN_STRING);
        edges.paints("a\"", "14", IN_STRING);
        edges.paints("'a\"b'c", "444441", FREE);
        edges.paints("\"a'b\"c", "444441", FREE);
        edges.paints("`", "0", FREE);
        edges.paints(" ".repeat(29) + "\"", "0".repeat(29) + "4", IN_STRING);
    }

    private void remarkComes() {
        edges.paints("[", "5", IN_REMARK);
        edges.paints("a[", "15", IN_REMARK);
        edges.paints("a[b", "155", IN_REMARK);
        edges.paints(" ".repeat(29) + "[", "0".repeat(29) + "5", IN_REMARK);
    }

    private void lineRemark() {
        edges.paints("#", "5", FREE);
        edges.paints("a#", "15", FREE);
        edges.paints("#a1\"'[{}<A]#", "555555555555", FREE);
        edges.paints("\"{#}\"", "47555", IN_PUT_CODE);
        edges.paints("\"#\"a", "4441", FREE);
        edges.paints("[#]a", "5551", FREE);
        PaintedLines x = Check.page("a#[", "b");
        edges.due("not in the next LINE", Check.colours(x, 1), "1");
    }

    private void codeGoes() {
        edges.paints("}", "6", FREE);
        edges.paints("[]}", "556", FREE);
        edges.paints("\"{}", "477", IN_STRING);
        edges.paints("\"{}}", "4774", IN_STRING);
        edges.paints("'{}'}", "47746", FREE);
        edges.paints("\"{\"{}", "47477", "4 1 34 -1");
        edges.paints("\"{\"{}\"}\"}", "474774746", FREE);
        PaintedLines x = Check.page("\"{", "}", "\"");
        edges.due("in the next LINE", Check.colours(x, 1), "7");
        edges.due("its end", Check.end(x, 1), IN_STRING);
        PaintedLines y = Check.page("'{", "}");
        edges.due("a STRING that went with its LINE lies below no more", Check.colours(y, 1), "6");
    }

    private void letterRightBehind() {
        edges.paints("<A", "77", "1 0 -1 65");
        edges.paints("<Z", "77", "1 0 -1 90");
        edges.paints("<@", "00", FREE);
        edges.paints("<[", "05", IN_REMARK);
        edges.paints("<a", "01", FREE);
        edges.paints("<", "0", FREE);
        edges.paints("< A", "000", FREE);
        edges.paints("A<", "00", FREE);
        edges.paints("<<A", "077", "1 0 -1 65");
        edges.paints(" ".repeat(28) + "<A", "0".repeat(28) + "77", "1 0 -1 65");
        PaintedLines x = Check.page(" ".repeat(29) + "<", "A");
        edges.due("the next LINE's letter is not right behind it", Check.colours(x, 0), "0".repeat(30));
        edges.due("LINE 1", Check.colours(x, 1), "0");
    }

    private void codeAlone() {
        edges.paints("\"<A", "444", IN_STRING);
        edges.paints("[<A", "555", IN_REMARK);
        edges.paints("\"{<A", "4700", IN_PUT_CODE);
        edges.paints("\"\"[]<A", "445577", "1 0 -1 65");
        PaintedLines x = Check.page("\"{", "<A", "}\"<A");
        edges.due("put CODE of the LINE ahead", Check.end(x, 1), IN_PUT_CODE);
        edges.due("CODE alone again", Check.end(x, 2), "1 0 -1 65");
    }

    private void noneSuchYet() {
        edges.paints("<A<B", "7700", "1 0 -1 65");
        edges.paints("<A <A", "77000", "1 0 -1 65");
        edges.paints("<A<B<C", "770000", "1 0 -1 65");
        edges.paints("<a<B", "0177", "1 0 -1 66");
        edges.paints("\"<A\"[<A]<B", "4444555577", "1 0 -1 66");
        PaintedLines x = Check.page("<A", "A", "<B");
        edges.due("in a LINE behind", Check.end(x, 2), "1 0 -1 66");
    }

    private void markFromTheEnd() {
        edges.paints("a<A A", "17700", "1 0 -1 65");
        edges.paints("<Aa1}#", "771365", "1 0 -1 65");
        edges.paints("<A\"", "774", "2 1 34 65");
        edges.paints("<A[[", "7755", "3 2 -1 65");
        PaintedLines x = Check.page("<A", "a");
        edges.due("the LINE behind", Check.colours(x, 1), "4");
        x.erases(0, 1);
        edges.due("its letter gone", Check.colours(x, 1), "1");
    }

    private void otherBytes() {
        edges.paints(" ~!@AZ]{\\()<^_", "00000000000000", FREE);
        edges.paints("$%&*+,-./:;=>?", "00000000000000", FREE);
        edges.paints("`|", "00", FREE);
    }

    private void escape() {
        edges.paints("\"\\a\"b", "47741", FREE);
        edges.paints("\"\\\"", "477", IN_STRING);
        edges.paints("\"\\\\\"", "4774", FREE);
        edges.paints("\"\\{", "477", IN_STRING);
        edges.paints("'\\''", "4774", FREE);
        edges.paints("\\a", "01", FREE);
        edges.paints("[\\]", "555", FREE);
        edges.paints("\"" + " ".repeat(27) + "\\\"", "4".repeat(28) + "77", IN_STRING);
    }

    private void escapeLast() {
        edges.paints("\"\\", "44", IN_STRING);
        edges.paints("\"\\\\\\", "4774", IN_STRING);
        edges.paints("'\\", "44", FREE);
        edges.paints("\"" + " ".repeat(28) + "\\", "4".repeat(30), IN_STRING);
        PaintedLines x = Check.page("\"\\", "\"a", "\"", "\\");
        edges.due("it takes none of the next LINE", Check.colours(x, 1), "41");
        edges.due("a LINE of it alone", Check.colours(x, 3), "4");
    }

    private void codeComes() {
        edges.paints("\"{", "47", IN_PUT_CODE);
        edges.paints("\"{a", "471", IN_PUT_CODE);
        edges.paints("\"{{", "470", IN_PUT_CODE);
        edges.paints("'{1}'", "47374", FREE);
        edges.paints("{", "0", FREE);
        edges.paints("[{", "55", IN_REMARK);
    }

    private void stringGoes() {
        edges.paints("\"\"", "44", FREE);
        edges.paints("''", "44", FREE);
        edges.paints("\"'\"", "444", FREE);
        edges.paints("\"'", "44", IN_STRING);
        edges.paints("\"{'\"'\"a", "4744444", "4 1 34 -1");
        PaintedLines x = Check.page("\"", "", "\"a");
        edges.due("LINES behind", Check.colours(x, 2), "41");
    }

    private void otherBytesOfAString() {
        edges.paints("\"[]}#<A1a ~", "44444444444", IN_STRING);
        edges.paints("'[]}#<A1a ~'a", "4444444444441", FREE);
    }

    private void remarks() {
        edges.paints("[[", "55", "3 2 -1 -1");
        edges.paints("[]", "55", FREE);
        edges.paints("[[]", "555", IN_REMARK);
        edges.paints("[[]]]", "55550", FREE);
        edges.paints("[a\"'{}#\\<A", "5555555555", IN_REMARK);
        PaintedLines x = Check.page("[[", "]", "]a");
        edges.due("one goes", Check.end(x, 1), IN_REMARK);
        edges.due("the other goes", Check.colours(x, 2), "51");
    }

    private void pileOfSix() {
        edges.paints("[[[[[[", "555556", "6 2 -1 -1");
        edges.paints("[[[[[[[]", "55555665", "5 2 -1 -1");
        edges.paints("[[[[[[][", "55555655", "6 2 -1 -1");
        edges.paints("\"{\"{\"{", "474746", "6 1 34 -1");
        edges.paints("\"{\"{\"{{\"", "47474664", "5 0 -1 -1");
        edges.paints("\"{\"{[[", "474756", "6 2 -1 -1");
        edges.paints("\"{\"{'{'", "4747464", "5 0 -1 -1");
        PaintedLines x = Check.page("[[[[[", "[a]", "[");
        edges.due("a PILE of the LINE ahead", Check.colours(x, 1), "655");
        edges.due("room again", Check.colours(x, 2), "5");
        edges.due("its end", Check.end(x, 2), "6 2 -1 -1");
    }

    private void endOfALine() {
        edges.paints("'", "4", FREE);
        edges.paints("'a{b", "4471", FREE);
        edges.paints("'{[", "475", FREE);
        edges.paints("'{\"{", "4747", FREE);
        edges.paints("\"{'", "474", IN_PUT_CODE);
        edges.paints("\"{'{'", "47474", IN_PUT_CODE);
        edges.paints("\"{\"{'", "47474", "5 0 -1 -1");
        edges.paints("\"'", "44", IN_STRING);
        edges.paints("['", "55", IN_REMARK);
        edges.paints("#'", "55", FREE);
        edges.paints("<Q'a", "7744", "1 0 -1 81");
        PaintedLines x = Check.page("'a", "b'", "\"{'{\"", "}\"c");
        edges.due("the next LINE", Check.colours(x, 1), "14");
        edges.due("what lies below it stays", Check.colours(x, 3), "741");
    }

    private void endOfALineWithAMark() {
        PaintedLines x = Check.page("<Q\"{[", "'", "a'\"]", "Q", "]'");
        edges.due("LINE 1", Check.end(x, 1), "4 2 -1 81");
        edges.due("LINE 2", Check.end(x, 2), "4 2 -1 81");
        edges.due("the MARK's LINE", Check.end(x, 3), "4 2 -1 -1");
        edges.due("the LINE behind", Check.end(x, 4), IN_PUT_CODE);
        edges.due("its colours", Check.colours(x, 4), "54");
    }
}
