import java.io.IOException;

/** Section 7 and the promises 2 to 8: the edges of the buffer, of texts and of scripts. */
public final class ScriptEdgeTest {
    private static final Check check = new Check();
    private static final String BLANKS = "append(0x20202020, 0x20202020, 0x20202020, 0x20202020, 0x20202020)";
    private static final String SYNTAX = "1 (syntax): an invalid token, or a token that the grammar does not allow there.";
    private static final String RANGE = "2 (range): the number of a \"repeat\" that is greater than 50.";
    private static final String LIMIT = "3 (limit): the first token of the 61st command of the text; a \"(\" inside four others.";
    private static final String FAILS = "A script fails, and ends there, with the code 1, 2 or 3 if a method throws an "
        + "IndexOutOfBoundsException, an IllegalArgumentException or an IllegalStateException, and with the code 4 at the 201st command "
        + "that is begun (each command counts when it is begun, also \"repeat\" and \"when\"; this is looked at first, and it counts).";

    /** A text with an error: nothing is executed, and the buffer is empty then. */
    private static void error(Sentences s, String sentence, String text, int code, int position) {
        s.test(sentence, "write(0, 0, 1, NONE) = 0", "say " + text, "run() = NONE", "errorCode() = " + code, "errorPosition() = " + position,
            "failure() = 0", "failurePosition() = NONE", "state(0) = 1", "state(1) = 0", "block(0, 0) = 1", "truncate(0) = 0",
            "run() = 0", "errorCode() = 0", "errorPosition() = NONE");
    }

    /** A text that is executed on a new object. */
    private static Run fails(Sentences s, String sentence, String text, int begun, int code, int position, String... more) {
        return s.test(sentence, Rows.with(new String[] {"say " + text, "run() = " + begun, "errorCode() = 0", "errorPosition() = NONE",
            "failure() = " + code, "failurePosition() = " + position, "truncate(0) = 0"}, more));
    }

    private static void runs(Sentences s, String sentence, String text, int begun, String... more) {
        fails(s, sentence, text, begun, 0, SharedLog.NONE, more);
    }

    private static String lengths() {
        StringBuilder text = new StringBuilder();
        for (int n = 20; n <= 900; n += 20) text.append(n).append(' ');
        return text.toString();
    }

    private static void buffer(Sentences s) {
        s.part("Section 7");
        String most = "The object has an input buffer of at most 900 bytes, which is empty at first.";
        s.test(most, "truncate(1) ! argument", "truncate(0) = 0", "run() = 0", "45 * " + BLANKS + " = " + lengths(), BLANKS + " ! state",
            "truncate(900) = 900", "truncate(901) ! argument", "run() = 0", BLANKS + " = 20");
        // each of the 900 bytes is kept
        s.test(most, "say " + " ".repeat(894) + "flush;", "run() = 1");
        error(s, most, " ".repeat(899) + "x", 1, 899);
        s.test("The method append adds bytes, and the method truncate cuts bytes off.", "say flush;flush;", BLANKS + " = 32",
            "truncate(12) = 12", "truncate(6) = 6", "say begin;", "run() = 2", "state(0) = 1");
        s.test("The method run reads the buffer and empties it.", "say flush;", "run() = 1", "truncate(1) ! argument", "run() = 0",
            "say x", "run() = NONE", "truncate(1) ! argument", "run() = 0", "say commit 0;", "run() = 1", "truncate(1) ! argument", "run() = 0");
    }

    private static void tokens(Sentences s) {
        s.quote("A script is a sequence of tokens.");
        String blanks = "Blanks (byte values 32 and 10) may stand before, between and after tokens and have no other meaning.";
        String kinds = "A maximal run of lower-case letters is a word token, a maximal run of digits is a number token, and each other "
            + "byte is a token of its own.";
        runs(s, blanks, "", 0);
        runs(s, blanks, " \n \n", 0);
        runs(s, blanks, "\n begin\n ;\n\n write 1\n2 3 in 0 ; commit 0 ;\n ", 3, "block(1, 2) = 3");
        runs(s, blanks, "repeat\n2 (\nflush ; ) ;when 1 + 1 = 2 ( flush ; ) ;", 5);
        runs(s, kinds, "begin;write1 2 3in0;commit0;", 3, "block(1, 2) = 3");
        runs(s, kinds, "repeat2(flush;);when next+1-1=unread0(flush;);", 5);
        for (int value = 0; value < 256; value++) {
            char sign = (char) value;
            boolean blank = value == 32 || value == 10;
            boolean letter = value >= 'a' && value <= 'z';
            boolean digit = value >= '0' && value <= '9';
            String sentence = blank ? blanks : kinds;
            if (blank) runs(s, sentence, "flush" + sign + ";", 1);
            else error(s, sentence, "flush" + sign + ";", 1, letter ? 0 : sign == ';' ? 6 : 5);
            if (blank) runs(s, sentence, "" + sign, 0);
            else error(s, sentence, "" + sign, 1, 0);
            if (digit) fails(s, sentence, "commit 1" + sign + "1;", 1, 1, 0);
            else error(s, sentence, "commit 1" + sign + "1;", 1, blank ? 9 : sign == ';' ? 9 : 8);
        }
        String invalid = "A word token of more than 8 letters and a number token of more than 5 digits are invalid.";
        for (String word : new String[] {"flushflu", "flushflus", "beginbeginbegin", "abcdefgh"}) error(s, invalid, word + ";", 1, 0);
        error(s, invalid, "flush;".repeat(60) + "flushflus;", 1, 360);
        fails(s, invalid, "commit 99999;", 1, 1, 0);
        fails(s, invalid, "commit 00003;", 1, 3, 0);
        error(s, invalid, "commit 100000;", 1, 7);
        error(s, invalid, "commit 000003;", 1, 7);
        error(s, invalid, "commit 4294967296;", 1, 7);
        error(s, invalid, "repeat 100000();", 1, 7);
        runs(s, invalid, "repeat 00050();when 99999=99999();", 2);
        error(s, invalid, "when 99999=100000();", 1, 11);
        error(s, invalid, "when unread 000000=0();", 1, 12);
        error(s, invalid, "begin;remove 1 in 000000;", 1, 18);
    }

    private static void grammar(Sentences s) {
        String script = "script = { command \";\" }";
        runs(s, script, "", 0);
        runs(s, script, "flush;", 1);
        error(s, script, "flush", 1, 5);
        error(s, script, "flush flush;", 1, 6);
        error(s, script, ";", 1, 0);
        error(s, script, "flush;;", 1, 6);
        error(s, script, "flush;)", 1, 6);
        String command = "command = \"begin\" | \"commit\" NUMBER | \"abort\" NUMBER | \"write\" NUMBER NUMBER NUMBER [ tx ] | \"remove\" "
            + "NUMBER [ tx ] | \"copy\" NUMBER NUMBER [ tx ] | \"send\" NUMBER NUMBER NUMBER [ tx ] | \"join\" NUMBER | \"read\" NUMBER "
            + "NUMBER | \"flush\" | \"mark\" | \"repeat\" NUMBER block | \"when\" sum ( \"<\" | \"=\" | \">\" ) sum block";
        runs(s, command, "begin;write 1 2 3 in 0;write 4 3 9;remove 5;remove 6 in 0;copy 1 7;copy 1 7 in 0;send 0 1 2;send 0 3 4 in 0;"
            + "commit 0;begin;abort 0;join 0;send 0 5 6;read 0 1;flush;mark;repeat 1();when 1<2();when 1=1();when 2>1();", 21);
        String[] plain = {"begin", "flush", "mark"};
        for (String word : plain) {
            error(s, command, word, 1, word.length());
            error(s, command, word + " 0;", 1, word.length() + 1);
            error(s, command, word + " in 0;", 1, word.length() + 1);
        }
        numbersOf(s, command, "commit", 1, false);
        numbersOf(s, command, "abort", 1, false);
        numbersOf(s, command, "write", 3, true);
        numbersOf(s, command, "remove", 1, true);
        numbersOf(s, command, "copy", 2, true);
        numbersOf(s, command, "send", 3, true);
        numbersOf(s, command, "join", 1, false);
        numbersOf(s, command, "read", 2, false);
        String[] others = {"in", "next", "durable", "bytes", "unread", "x", "checkpoint", "Begin", "12", "(", ")", "<", "+", "damage", "crash",
            "configure", "begi", "beginn", "fluxh", "repeatx"};
        for (String word : others) error(s, command, "flush; " + word + " 0;", 1, 7);
        for (String word : new String[] {"begin", "commit", "abort", "write", "remove", "copy", "send", "join", "read", "flush", "mark", "repeat", "when"}) {
            likeWords(s, command, "flush;", word, " 0 0 0;");
        }
        likeWords(s, "tx = \"in\" NUMBER", "remove 0 ", "in", " 0;");
        for (String word : new String[] {"next", "durable", "bytes", "unread"}) {
            likeWords(s, "atom = NUMBER | \"next\" | \"durable\" | \"bytes\" | \"unread\" NUMBER", "when ", word, " = 0();");
        }
        blocks(s, command);
        sums(s);
    }

    /** A word with one letter that is another one, too many or too few is not this word. */
    private static void likeWords(Sentences s, String sentence, String before, String word, String behind) {
        for (int n = 0; n < word.length(); n++) {
            error(s, sentence, before + word.substring(0, n) + "q" + word.substring(n + 1) + behind, 1, before.length());
            error(s, sentence, before + word.substring(0, n) + word.substring(n + 1) + behind, 1, before.length());
            error(s, sentence, before + word.substring(0, n) + "q" + word.substring(n) + behind, 1, before.length());
        }
        error(s, sentence, before + word + "q" + behind, 1, before.length());
        error(s, sentence, before + word.toUpperCase() + behind, 1, before.length());
    }

    /** A command with this many numbers: one too few, one too many, another token among them. */
    private static void numbersOf(Sentences s, String sentence, String word, int count, boolean hasTx) {
        String text = word;
        for (int n = 0; n < count; n++) {
            error(s, sentence, text, 1, text.length());
            error(s, sentence, text + " ", 1, text.length() + 1);
            error(s, sentence, text + ";", 1, text.length());
            error(s, sentence, text + " -1;", 1, text.length() + 1);
            error(s, sentence, text + " next;", 1, text.length() + 1);
            error(s, sentence, text + " in 0;", 1, text.length() + 1);
            text += " " + n;
        }
        error(s, sentence, text, 1, text.length());
        error(s, sentence, text + " 9;", 1, text.length() + 1);
        String tx = "tx = \"in\" NUMBER";
        if (!hasTx) {
            error(s, tx, text + " in 0;", 1, text.length() + 1);
            return;
        }
        error(s, tx, text + " in;", 1, text.length() + 3);
        error(s, tx, text + " in", 1, text.length() + 3);
        error(s, tx, text + " in in;", 1, text.length() + 4);
        error(s, tx, text + " in 0", 1, text.length() + 5);
        error(s, tx, text + " in 0 1;", 1, text.length() + 6);
        error(s, tx, text + " in 0 in 1;", 1, text.length() + 6);
        error(s, tx, text + " inn 0;", 1, text.length() + 1);
        fails(s, tx, text + " in 0;", 1, 3, 0);
        fails(s, tx, "begin;" + text + " in 0;", 2, 0, SharedLog.NONE, "transaction(0, 2) = 1");
        runs(s, tx, text + ";", 1, "state(0) = 1");
    }

    private static void blocks(Sentences s, String command) {
        String block = "block = \"(\" { command \";\" } \")\"";
        runs(s, block, "repeat 2();repeat 2(flush;);repeat 2(flush;flush;);", 9);
        error(s, command, "repeat;", 1, 6);
        error(s, command, "repeat", 1, 6);
        error(s, command, "repeat(flush;);", 1, 6);
        error(s, command, "repeat next(flush;);", 1, 7);
        error(s, command, "repeat 3 4(flush;);", 1, 9);
        error(s, block, "repeat 3;", 1, 8);
        error(s, block, "repeat 3", 1, 8);
        error(s, block, "repeat 3 flush;", 1, 9);
        error(s, block, "repeat 3 (", 1, 10);
        error(s, block, "repeat 3 (flush;", 1, 16);
        error(s, block, "repeat 3 (flush);", 1, 15);
        error(s, block, "repeat 3 (flush;)", 1, 17);
        error(s, block, "repeat 3 (flush;)flush;", 1, 17);
        error(s, block, "repeat 3 (;);", 1, 10);
        error(s, block, "repeat 3 ());", 1, 11);
        error(s, block, "repeat 3 (());", 1, 10);
        error(s, block, "(flush;);", 1, 0);
        error(s, block, "when 1=1", 1, 8);
        error(s, block, "when 1=1;", 1, 8);
        error(s, block, "when 1=1 flush;", 1, 9);
        error(s, block, "when 1=1 (flush;", 1, 16);
    }

    private static void sums(Sentences s) {
        String sum = "sum = atom { ( \"+\" | \"-\" ) atom }";
        String atom = "atom = NUMBER | \"next\" | \"durable\" | \"bytes\" | \"unread\" NUMBER";
        runs(s, sum, "when 1=1();when 1+2-3=0-0();when 1<2+3();", 3);
        error(s, sum, "when(flush;);", 1, 4);
        error(s, sum, "when", 1, 4);
        error(s, sum, "when 1", 1, 6);
        error(s, sum, "when 1 (flush;);", 1, 7);
        error(s, sum, "when 1<(flush;);", 1, 7);
        error(s, sum, "when <1(flush;);", 1, 5);
        error(s, sum, "when 1<=2();", 1, 7);
        error(s, sum, "when 1==2();", 1, 7);
        error(s, sum, "when 1!2();", 1, 6);
        error(s, sum, "when 1<2<3();", 1, 8);
        error(s, sum, "when 1<2 3();", 1, 9);
        error(s, sum, "when 1 2<3();", 1, 7);
        error(s, sum, "when -1<2();", 1, 5);
        error(s, sum, "when +1<2();", 1, 5);
        error(s, sum, "when 1+<2();", 1, 7);
        error(s, sum, "when 1+-2<2();", 1, 7);
        error(s, sum, "when 1<2+();", 1, 9);
        error(s, sum, "when 1<2-();", 1, 9);
        error(s, sum, "when 1*2<3();", 1, 6);
        // the longest sum that a buffer can hold
        runs(s, sum, "when 1" + "+1".repeat(442) + "=443();", 1);
        error(s, sum, "when 1" + "+1".repeat(447), 1, 900);
        runs(s, atom, "when next=0();when durable=0();when bytes=0();when unread 0=0();", 4);
        error(s, atom, "when unread<2();", 1, 11);
        error(s, atom, "when unread next<2();", 1, 12);
        error(s, atom, "when unread unread 0<2();", 1, 12);
        error(s, atom, "when unread 0 0<2();", 1, 14);
        error(s, atom, "when next 0<2();", 1, 10);
        error(s, atom, "when next next<2();", 1, 10);
        for (String word : new String[] {"begin", "in", "x", "when", "(", "NEXT", "nex", "nextt", ";"}) error(s, atom, "when " + word + "<2();", 1, 5);
    }

    private static void errors(Sentences s) {
        String first = "An error is reported for the first offending token, with the index of its first byte, or with the length of the "
            + "text if the text ends too early.";
        error(s, first, "flush flush; 123456 x", 1, 6);
        error(s, first, "  flush\n\nflush;", 1, 9);
        error(s, first, "commit 123456 x", 1, 7);
        error(s, first, "repeat 51 x", 2, 7);
        error(s, first, "x repeat 51();", 1, 0);
        error(s, first, "flush", 1, 5);
        error(s, first, "flush   ", 1, 8);
        error(s, first, "flush \n", 1, 7);
        error(s, first, "repeat 2(flush; ", 1, 16);
        error(s, first, "flush" + " ".repeat(895), 1, 900);
        error(s, first, "flush;".repeat(59) + "flush", 1, 359);
        String lowest = "If several errors apply to one token, the lowest code is reported.";
        error(s, lowest, "flush;".repeat(60) + "x", 1, 360);
        error(s, lowest, "flush;".repeat(60) + "1", 1, 360);
        error(s, lowest, "flush;".repeat(60) + ")", 1, 360);
        error(s, lowest, "flush;".repeat(60) + "(", 1, 360);
        error(s, lowest, "flush;".repeat(60) + "abcdefghi", 1, 360);
        error(s, lowest, "repeat 123456();", 1, 7);
        error(s, lowest, "repeat 1(repeat 1(repeat 1(repeat 1((", 1, 36);
        error(s, SYNTAX, "flush, flush;", 1, 5);
        error(s, RANGE, "repeat 51();", 2, 7);
        error(s, RANGE, "repeat 99999();", 2, 7);
        error(s, RANGE, "repeat 00051();", 2, 7);
        error(s, RANGE, "repeat 51", 2, 7);
        error(s, RANGE, "when 1=1(repeat 50(repeat 51();););", 2, 26);
        runs(s, RANGE, "repeat 50();", 1);
        runs(s, RANGE, "repeat 0();", 1);
        runs(s, RANGE, "when 51=51();", 1);
        fails(s, RANGE, "commit 51;", 1, 1, 0);
        runs(s, LIMIT, "flush;".repeat(60), 60);
        error(s, LIMIT, "flush;".repeat(61), 3, 360);
        error(s, LIMIT, "flush;".repeat(60) + " \nflush", 3, 362);
        error(s, LIMIT, "flush;".repeat(60) + "repeat 51", 3, 360);
        runs(s, LIMIT, "repeat 1(" + "flush;".repeat(59) + ");", 60);
        error(s, LIMIT, "repeat 1(" + "flush;".repeat(59) + ");mark;", 3, 9 + 59 * 6 + 2);
        error(s, LIMIT, "repeat 1(" + "flush;".repeat(60) + ");", 3, 9 + 59 * 6);
        runs(s, LIMIT, "repeat 1(repeat 1(repeat 1(repeat 1(flush;);););); repeat 1(repeat 1(););", 7);
        runs(s, LIMIT, "when 1=1(when 1=1(repeat 1(when 1=1(flush;););););", 5);
        error(s, LIMIT, "repeat 1(repeat 1(repeat 1(repeat 1(repeat 1(", 3, 44);
        error(s, LIMIT, "when 1=1(when 1=1(when 1=1(when 1=1(when 1=1(", 3, 44);
        error(s, LIMIT, "repeat 1(repeat 1(repeat 1(repeat 1(flush;repeat 1();", 3, 50);
        runs(s, LIMIT, "repeat 1(repeat 1(repeat 1(repeat 1();repeat 1(););););", 5);
    }

    private static void execution(Sentences s) {
        String calls = "A script without an error is executed command by command: each word calls the method of the same name, \"mark\" "
            + "the method checkpoint; without \"in\" the transaction is NONE.";
        s.test(calls, "configure(400, 9999, 0) = 0", "say begin;write 1 2 3 in 0;write 4 3 9999;copy 1 5 in 0;send 2 7 20 in 0;send 2 8 0;"
            + "remove 4;commit 0;begin;remove 1 in 0;abort 0;join 2;send 2 9 1;read 0 50;flush;mark;", "run() = 16",
            "record(0..14, 0) = 0 3 3 5 6 6 4 1 0 4 2 7 6 7 8", "record(0..14, 1) = 0 0 NONE 0 0 NONE NONE 0 8 8 8 NONE NONE NONE NONE",
            "record(0..14, 2) = 0 1 4 1 2 2 4 0 0 1 0 0 2 0 0", "record(0..14, 3) = 0 2 3 5 7 8 0 0 0 0 0 2 9 3 0",
            "record(0..14, 4) = 0 3 9999 0 20 0 0 0 0 0 0 2 1 2 0", "message(0, 0..2) = 12 9 1", "state(1) = 15", "state(6) = 14");
        s.test(calls, "write(0, 0, 1, NONE) = 0", "write(0, 0, 2, NONE) = 1", "say flush;", "run() = 1", "state(1) = 2");
        String values = "\"repeat\" executes its block that many times, \"when\" executes it if the comparison holds; next, durable and "
            + "bytes are the values of the method state, and unread is the number of unread messages of a consumer (0 if there is no such "
            + "consumer).";
        runs(s, values, "repeat 0(begin;);", 1, "state(0) = 0");
        runs(s, values, "repeat 1(begin;);", 2, "state(0) = 1");
        runs(s, values, "repeat 50(write 0 0 1;);", 51, "state(0) = 50");
        runs(s, values, "repeat 3(write 0 0 1;repeat 2(remove 0;););", 13, "state(0) = 9");
        runs(s, values, "repeat 50(when next<7(write 0 0 1;););", 58, "state(0) = 7");
        String[] hold = {"1<2", "0=0", "2>1", "next=4", "durable=1", "bytes=50", "unread 0=2", "unread 1=0", "unread 6=0", "unread 99999=0",
            "1-2<0", "1-2-3=0-4", "1-2+3=2", "next-durable=3", "unread 0+unread 0=4", "bytes-unread 0-1=47", "next>3", "next<5", "10=00010",
            "99999+99999>99999", "0-99999-99999<0-99999", "next+0>unread 0+1"};
        String[] not = {"1<1", "2<1", "1=2", "2=1", "1>1", "1>2", "next<4", "next>4", "durable<1", "durable>1", "bytes<50", "bytes>50",
            "unread 0<2", "unread 0>2", "unread 1>0", "unread 6>0", "0-1>0"};
        String[] four = {"join(1) = 0", "2 * send(1, 0, 5, NONE) = 1 2", "write(0, 0, 5, NONE) = 3"};
        for (String text : hold) s.test(values, Rows.with(four, "say when " + text + "(remove 0;);", "run() = 2", "block(0, 0) = NONE"));
        for (String text : not) s.test(values, Rows.with(four, "say when " + text + "(remove 0;);", "run() = 1", "block(0, 0) = 5"));
    }

    private static void failures(Sentences s) {
        String[] index = {"commit 4;", "abort 4;", "write 8 0 0;", "write 0 4 0;", "write 0 0 0 in 4;", "remove 8;", "remove 0 in 4;",
            "copy 8 0;", "copy 0 8;", "copy 0 1 in 4;", "send 4 0 0;", "send 0 0 0 in 4;", "join 4;", "read 0 1;", "write 8 0 99999 in 0;",
            "copy 8 8;", "send 4 99999 21;", "read 0 0;", "commit 99999;", "write 0 0 10000 in 4;"};
        for (String text : index) fails(s, FAILS, "flush; " + text + "begin;", 2, 1, 7, "state(0) = 0");
        String[] argument = {"write 0 0 10000;", "copy 1 1;", "send 0 10000 0;", "send 0 0 21;", "write 0 0 10000 in 0;", "copy 1 1 in 3;",
            "send 0 0 99999 in 0;"};
        for (String text : argument) fails(s, FAILS, "flush; " + text + "begin;", 2, 2, 7, "state(0) = 0");
        fails(s, FAILS, "join 0; read 0 0;begin;", 2, 2, 8, "state(0) = 1");
        fails(s, FAILS, "join 0; read 0 51;begin;", 2, 2, 8, "state(0) = 1");
        String[] state = {"commit 0;", "abort 3;", "write 0 0 0 in 0;", "remove 0 in 1;", "copy 0 1 in 2;", "send 0 0 0 in 3;"};
        for (String text : state) fails(s, FAILS, "flush; " + text + "begin;", 2, 3, 7, "state(0) = 0");
        fails(s, FAILS, "repeat 5( begin;);flush;", 6, 3, 10, "state(0) = 4", "state(1) = 0");
        fails(s, FAILS, "repeat 7( join 0;);begin;", 8, 3, 10, "state(8) = 6", "state(7) = 0");
        // 200 commands, and the 201st, whatever it is
        fails(s, FAILS, "repeat 3(repeat 50(flush;););repeat 45(flush;);", 200, 0, SharedLog.NONE);
        fails(s, FAILS, "repeat 3(repeat 50(flush;););repeat 45(flush;);flush;", 201, 4, 47);
        fails(s, FAILS, "repeat 3(repeat 50(flush;););repeat 45(flush;);commit 9;", 201, 4, 47);
        fails(s, FAILS, "repeat 3(repeat 50(flush;););repeat 44(flush;);commit 9;", 200, 1, 47);
        fails(s, FAILS, "repeat 3(repeat 50(flush;););repeat 45(flush;);repeat 0();", 201, 4, 47);
        fails(s, FAILS, "repeat 3(repeat 50(flush;););repeat 45(flush;);when 1=2();", 201, 4, 47);
        fails(s, FAILS, "repeat 3(repeat 50(flush;););repeat 44(flush;);when 1=2();flush;", 201, 4, 58);
        fails(s, FAILS, "repeat 50(repeat 50(repeat 50(repeat 50();););" + ");", 201, 4, 30);
        fails(s, FAILS, "repeat 50(repeat 50(write 0 0 1;););", 201, 4, 20, "state(0) = 195");
        String[] to399 = {"say repeat 4(repeat 48(write 0 0 1;););", "run() = 197", "say repeat 4(repeat 48(write 0 0 1;););", "run() = 197",
            "say repeat 15(write 0 0 1;);", "run() = 16", "state(0) = 399"};
        for (String text : new String[] {"begin;", "write 0 0 0;", "remove 0;", "copy 0 1;", "send 0 0 0;", "join 0;", "mark;"}) {
            s.test(FAILS, Rows.with(to399, "say " + text + "flush;" + text, "run() = 3", "failure() = 3", "failurePosition() = " + (text.length() + 6),
                "state(0) = 400"));
        }
        s.test("What was done before stays.", "say write 0 0 9;send 1 2 3;copy 0 0;flush;", "run() = 3", "failure() = 2", "block(0, 0) = 9",
            "visibleAt(2, 1) = 1", "state(0) = 2", "state(1) = 0", "truncate(1) ! argument");
        s.test("What was done before stays.", "say repeat 2(when next=1(copy 0 0;);write 0 0 9;);flush;", "run() = 5", "failure() = 2",
            "failurePosition() = 21", "block(0, 0) = 9", "state(0) = 1");
        s.test("A method that throws an exception changes nothing.", "say join 0;send 0 7 8;read 0 1;begin;", "run() = 4",
            "say flush;read 0 0;", "run() = 2", "message(0, 0..2) = 1 7 8", "state(0..1) = 4", "say write 0 0 10000 in 0;", "run() = 1",
            "transaction(0, 2) = 0", "state(0) = 4", "say join 4;", "run() = 1", "state(8) = 1");
        s.test("If several exceptions apply, the one that is listed first is thrown.", "say write 8 0 10000 in 0;", "run() = 1",
            "failure() = 1", "say write 7 0 10000 in 0;", "run() = 1", "failure() = 2", "say write 7 0 9999 in 0;", "run() = 1", "failure() = 3");
        s.quote("The constants:", "- `NONE = -1`: There is no such thing.",
            "The constructor and the methods follow, a promise each: the signature, then what it does.");
        check.due("NONE", SharedLog.NONE, -1);
    }

    /** A call of append with blanks and one other byte in this place. */
    private static String appendWith(int place, int value) {
        StringBuilder call = new StringBuilder("append(");
        for (int word = 0; word < 5; word++) {
            int number = 0;
            for (int k = 0; k < 4; k++) number = number << 8 | (4 * word + k == place ? value : 32);
            call.append(word > 0 ? ", " : "").append(number);
        }
        return call.append(")").toString();
    }

    private static void append(Sentences s) {
        s.part("Promise 2");
        String bytes = "Appends the 20 bytes of five numbers to the buffer, each number with its highest byte first.";
        for (int place = 0; place < 20; place++) {
            s.test(bytes, appendWith(place, 'x') + " = 20", "run() = NONE", "errorPosition() = " + place);
            s.test(bytes, appendWith(place, 255) + " = 20", "run() = NONE", "errorPosition() = " + place);
            s.test(bytes, appendWith(place, 10) + " = 20", "run() = 0");
        }
        s.test(bytes, "append(0x666c7573, 0x683b666c, 0x7573683b, 0x666c7573, 0x683b666c) = 20", "truncate(18) = 18", "run() = 3");
        String[] names = {"a", "b", "c", "d", "e"};
        for (int word = 0; word < 5; word++) {
            String sentence = "- `" + names[word] + "`: bytes " + (4 * word + 1) + " to " + (4 * word + 4);
            s.test(sentence, appendWith(4 * word, 'x') + " = 20", "run() = NONE", "errorPosition() = " + 4 * word);
            s.test(sentence, appendWith(4 * word + 3, 'x') + " = 20", "run() = NONE", "errorPosition() = " + (4 * word + 3));
            s.test(sentence, appendWith(4 * word + 3, 255) + " = 20", "run() = NONE", "errorPosition() = " + (4 * word + 3));
        }
        s.test("Returns the new length of the buffer.", "45 * " + BLANKS + " = " + lengths(), "truncate(7) = 7", BLANKS + " = 27");
        String full = "Throws `IllegalStateException` if the length would exceed 900 bytes";
        s.test(full, "45 * " + BLANKS + " = " + lengths(), BLANKS + " ! state", "append(0, -1, LEAST, MOST, 7) ! state", "truncate(881) = 881",
            BLANKS + " ! state", "truncate(880) = 880", BLANKS + " = 900", BLANKS + " ! state", "run() = 0", BLANKS + " = 20");
    }

    private static void truncate(Sentences s) {
        s.part("Promise 3");
        String first = "Shortens the buffer to its first bytes.";
        s.test(first, "say flush;begin;begin;", "truncate(6) = 6", "run() = 1", "state(0) = 0");
        s.test(first, "say flush;begin;begin;", "truncate(12) = 12", "truncate(12) = 12", "run() = 2", "state(0) = 1");
        s.test(first, "say flush;begin;begin;", "truncate(5) = 5", "say ;", "run() = 1");
        s.test("- `length`: the new length, from 0 to the current length", "truncate(0) = 0", BLANKS + " = 20", "truncate(20) = 20",
            "truncate(0) = 0", "truncate(0) = 0", "run() = 0");
        s.test("Returns the new length.", BLANKS + " = 20", "truncate(20) = 20", "truncate(13) = 13", "truncate(1) = 1", "truncate(0) = 0");
        String range = "Throws `IllegalArgumentException` if the length is out of that range";
        s.test(range, "truncate(-1|1|LEAST|MOST) ! argument", "say flush;", "truncate(-1|7|20|LEAST|MOST) ! argument", "truncate(6) = 6",
            "run() = 1", "45 * " + BLANKS + " = " + lengths(), "truncate(901|-900) ! argument", "truncate(900) = 900");
    }

    private static void results(Sentences s) {
        s.part("Promise 4");
        s.test("Executes the buffer as a script (section 7).", "say begin;write 0 0 5 in 0;commit 0;", "run() = 3", "block(0, 0) = 5", "run() = 0",
            "state(0) = 3");
        String begun = "Returns the number of commands that were begun, the one that failed included, or NONE if the text has an error "
            + "(nothing is executed then).";
        s.test(begun, "run() = 0", "say flush;", "run() = 1", "say repeat 2(flush;);", "run() = 3", "say flush;commit 0;flush;", "run() = 2",
            "say commit 0;", "run() = 1", "say begin;begin", "run() = NONE", "state(0) = 0", "say repeat 50(repeat 50(););", "run() = 51",
            "say repeat 50(repeat 50(flush;););", "run() = 201", "say begin;repeat 51();", "run() = NONE", "state(0) = 0");
        s.part("Promise 5");
        s.test("Returns the code of the error of the latest call of run.", "say x", "run() = NONE", "errorCode() = 1", "say repeat 51();",
            "run() = NONE", "errorCode() = 2", "say repeat 1(repeat 1(repeat 1(repeat 1(repeat 1(", "run() = NONE", "errorCode() = 3",
            "configure(40, 40, 0) = 0", "errorCode() = 3", BLANKS, "errorCode() = 3", "run() = 0", "errorCode() = 0");
        s.test("Returns 1 to 3; 0 if that text had no error or if there was none.", "errorCode() = 0", "say commit 9;", "run() = 1",
            "errorCode() = 0", "say ;", "run() = NONE", "errorCode() = 1", "say commit 9;", "run() = 1", "errorCode() = 0");
        s.part("Promise 6");
        s.test("Returns the position of the error of the latest call of run.", "say flush;x", "run() = NONE", "errorPosition() = 6",
            "say x", "run() = NONE", "errorPosition() = 0", "say flush", "run() = NONE", "errorPosition() = 5", "configure(40, 40, 0) = 0",
            "errorPosition() = 5", "say " + " ".repeat(895) + "flush", "run() = NONE", "errorPosition() = 900");
        s.test("Returns the position; NONE if that text had no error or if there was none.", "errorPosition() = NONE", "say commit 9;",
            "run() = 1", "errorPosition() = NONE", "say ;", "run() = NONE", "errorPosition() = 0", "run() = 0", "errorPosition() = NONE");
        s.part("Promise 7");
        s.test("Returns the code of the failure of the latest script that was executed.", "say commit 4;", "run() = 1", "failure() = 1",
            "say copy 0 0;", "run() = 1", "failure() = 2", "say commit 0;", "run() = 1", "failure() = 3", "say repeat 50(repeat 50(flush;););",
            "run() = 201", "failure() = 4", "say x", "run() = NONE", "failure() = 4", "configure(40, 40, 0) = 0", "failure() = 4");
        s.test("Returns 1 to 4; 0 if it did not fail or if there was none.", "failure() = 0", "say x", "run() = NONE", "failure() = 0",
            "say commit 4;", "run() = 1", "failure() = 1", "say flush;", "run() = 1", "failure() = 0", "say commit 4;", "run() = 1",
            "run() = 0", "failure() = 0");
        s.part("Promise 8");
        s.test("Returns the position of the command that failed in the latest script that was executed.", "say  \n commit 4;", "run() = 1",
            "failurePosition() = 3", "say x", "run() = NONE", "failurePosition() = 3", "configure(40, 40, 0) = 0", "failurePosition() = 3",
            "say commit 0;", "run() = 1", "failurePosition() = 0");
        s.test("Returns the index of the first byte of the command; NONE if it did not fail or if there was none.",
            "failurePosition() = NONE", "say x", "run() = NONE", "failurePosition() = NONE", "say flush;repeat 2( commit 0;);", "run() = 3",
            "failurePosition() = 16", "say repeat 50(repeat 50(););flush;", "run() = 52", "failurePosition() = NONE",
            "say repeat 50(flush;repeat 50(flush;););", "run() = 201", "failurePosition() = 26", "run() = 0", "failurePosition() = NONE",
            "say " + " ".repeat(890) + "commit 4;", "run() = 1", "failurePosition() = 890");
    }

    public static void main(String[] args) throws IOException {
        Sentences s = new Sentences(check);
        buffer(s);
        tokens(s);
        grammar(s);
        errors(s);
        execution(s);
        failures(s);
        append(s);
        truncate(s);
        results(s);
        s.end();
    }
}
