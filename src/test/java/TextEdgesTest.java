/** Section 7 of the document's terms, texts: for each sentence that names an edge a test of its own. */
public final class TextEdgesTest extends Dues {
    private static final int PLAIN = TraceCache.PLAIN, JUMP = TraceCache.JUMP, BRANCH = TraceCache.BRANCH;

    private static void dueError(String text, int position) {
        due("errorPosition() of " + text, position, () -> typed(text).errorPosition());
        if (position < 0) {
            due("runText() of " + text, true, () -> typed(text).runText() >= 0);
        } else {
            due("runText() of " + text, STATE, () -> typed(text).runText());
        }
    }

    private static void buffer() {
        about("7: The text buffer holds at most 80 characters and is empty at first");
        TraceCache x = new TraceCache();
        due("textLength() at first", 0, () -> x.textLength());
        for (int i = 1; i <= 80; i++) {
            due("appendText('1')", i, () -> x.appendText('1'));
        }
        due("appendText('1') to 80 characters", STATE, () -> x.appendText('1'));
        due("textLength()", 80, () -> x.textLength());
    }

    private static void oneOrMoreCommands() {
        about("7: A valid text consists of one or more commands");
        dueError("", 0);
        dueError("5.", -1);
        dueError("r1;".repeat(26) + "r2", -1);
        due("runText() of 27 commands", 112, () -> typed("r1;".repeat(26) + "r2").runText());
        dueError("9.;".repeat(26) + "9.", -1);
    }

    private static void oneSemicolon() {
        about("7: with one semicolon between two commands");
        dueError("5.6.", 2);
        dueError("5.;6.", -1);
        dueError("5.;;6.", 3);
        dueError(";5.", 0);
        dueError("5.;", 3);
        dueError("5.,6.", 2);
        dueError("5. ;6.", 2);
        dueError("r1r2", 2);
        dueError("3p1;;", 4);
    }

    private static void numbersOfAddresses() {
        about("7: A and T stand for numbers from 0 to 47 without leading zeros (0 is written as \"0\")");
        for (int a = 0; a < 100; a++) {
            dueError(a + ".", a < 48 ? -1 : 1);
            dueError("5j" + a, a < 48 ? -1 : 3);
            dueError("5b" + a, a < 48 ? -1 : 3);
        }
        for (int digit = 0; digit < 10; digit++) {
            dueError("0" + digit + ".", 1);
            dueError("5j0" + digit, 3);
            dueError("5b0" + digit, 3);
            dueError("47" + digit + ".", 2);
            dueError("5j47" + digit, 4);
        }
        dueError("-1.", 0);
        dueError("5j-1", 2);
    }

    private static void numbersOfFetches() {
        about("7: and N for a number from 1 to 99 without leading zeros");
        dueError("r0", 1);
        dueError("r00", 1);
        for (int n = 1; n < 100; n++) {
            dueError("r" + n, -1);
            int fetches = n;
            due("the fetches of r" + n, fetches, () -> {
                TraceCache x = typed("r" + fetches);
                x.runText();
                return x.count(1);
            });
        }
        for (int digit = 0; digit < 10; digit++) {
            dueError("r0" + digit, 1);
            dueError("r10" + digit, 3);
            dueError("r99" + digit, 3);
        }
    }

    private static void patternsInTexts() {
        about("7: \"Ap\" and 1 to 8 characters, each of which is \"1\" (taken) or \"0\" (not taken)");
        dueError("0p", 2);
        dueError("0p;", 2);
        for (int length = 1; length <= 8; length++) {
            dueError("47p" + "1".repeat(length), -1);
            dueError("47p" + "0".repeat(length), -1);
            dueError("47p" + "1".repeat(length) + ";", length + 4);
            dueError("47p" + "1".repeat(length) + "2", length + 3);
        }
        dueError("0p111111111", 10);
        dueError("0p000000000", 10);
        for (char sign : new char[] {'/', '2', ' ', 'p', '.'}) {
            dueError("0p" + sign, 2);
        }
        TraceCache x = typed("0p1;1p0;2p10000000;3p00000001");
        x.runText();
        duePattern(x, 0, 1, 1, 0);
        duePattern(x, 1, 0, 1, 0);
        duePattern(x, 2, 1, 8, 0);
        duePattern(x, 3, 128, 8, 0);
    }

    private static void emptyPatternBehindAnother() {
        about("7: \"Ap\" and 1 to 8 characters, in each command");
        dueError("0p1;1p", 6);
        dueError("0p1;1p;2.", 6);
        dueError("0p11111111;1p11111111;2p111111111", 32);
        TraceCache x = typed("0p11111111;1p10");
        x.runText();
        duePattern(x, 0, 255, 8, 0);
        duePattern(x, 1, 1, 2, 0);
    }

    private static void writesInTexts() {
        about("7: \"A.\": write a plain instruction at the address; \"AjT\": write a jump; \"AbT\": write a branch");
        for (int address : new int[] {0, 9, 10, 47}) {
            for (int target : new int[] {0, 9, 10, 47}) {
                TraceCache x = typed(address + "j" + target);
                due("runText() of a jump", 0, () -> x.runText());
                due("kind", JUMP, () -> x.instruction(address, 0));
                due("target", target, () -> x.instruction(address, 1));
                TraceCache branch = typed(address + "b" + target);
                due("runText() of a branch", 0, () -> branch.runText());
                due("kind", BRANCH, () -> branch.instruction(address, 0));
                due("target", target, () -> branch.instruction(address, 1));
            }
            TraceCache x = typed(address + ".");
            x.write(address, BRANCH, 30);
            due("runText() of a plain instruction", 0, () -> x.runText());
            due("kind", PLAIN, () -> x.instruction(address, 0));
            due("target", -1, () -> x.instruction(address, 1));
            TraceCache pattern = typed(address + "p1");
            due("runText() of a pattern", 0, () -> pattern.runText());
            duePattern(pattern, address, 1, 1, 0);
        }
    }

    /** Which characters may follow a beginning: every other one is the error, whatever comes behind it. */
    private static void dueFollowers(String beginning, String followers) {
        for (char sign = 32; sign <= 126; sign++) {
            TraceCache x = typed(beginning + sign);
            boolean follows = followers.indexOf(sign) >= 0;
            boolean wrong = !follows;
            due("whether '" + sign + "' is wrong behind '" + beginning + "'", wrong,
                () -> x.errorPosition() == beginning.length());
            if (wrong) {
                type(x, ";0.");
                due("errorPosition() with more behind it", beginning.length(), () -> x.errorPosition());
                due("runText()", STATE, () -> x.runText());
            }
        }
    }

    private static void everyCharacter() {
        about("7: no valid text of any length begins with the characters 0 to i of the text");
        String digits = "0123456789";
        for (String before : new String[] {"", "5.;", "r10;"}) {
            dueFollowers(before, digits + "r");
            dueFollowers(before + "0", ".jbp");
            dueFollowers(before + "3", digits + ".jbp");
            dueFollowers(before + "4", "01234567.jbp");
            dueFollowers(before + "5", ".jbp");
            dueFollowers(before + "47", ".jbp");
            dueFollowers(before + "5.", ";");
            dueFollowers(before + "5j", digits);
            dueFollowers(before + "5b", digits);
            dueFollowers(before + "5j0", ";");
            dueFollowers(before + "5j1", digits + ";");
            dueFollowers(before + "5b4", "01234567;");
            dueFollowers(before + "5b9", ";");
            dueFollowers(before + "5b47", ";");
            dueFollowers(before + "5p", "01");
            dueFollowers(before + "5p0", "01;");
            dueFollowers(before + "5p0101010", "01;");
            dueFollowers(before + "5p01010101", ";");
            dueFollowers(before + "r", "123456789");
            dueFollowers(before + "r9", digits + ";");
            dueFollowers(before + "r10", ";");
        }
    }

    private static void firstWrongCharacter() {
        about("7: the smallest index i such that no valid text of any length begins with the characters 0 to i");
        dueError("x", 0);
        dueError("5x", 1);
        dueError("5jx", 2);
        dueError("5.x", 2);
        dueError("rx", 1);
        dueError("5.;48.;;;x", 4);
        dueError("r1;".repeat(26) + "rr", 79);
        dueError("r1;".repeat(26) + "r1", -1);
        dueError("5.".repeat(40), 2);
        dueError("x".repeat(80), 0);
    }

    private static void tooEarly() {
        about("7: and the text is not valid (it ends too early, or it is empty), the error position is the length");
        for (String text : new String[] {"", "5", "47", "5j", "5b", "5p", "r", "5.;", "5.;4", "5.;4j", "r1;r"}) {
            dueError(text, text.length());
        }
        dueError("r1;".repeat(26) + "5j", 80);
        dueError("r1;".repeat(26) + "47", 80);
        dueError("r10;".repeat(20), 80);
    }

    public static void main(String[] args) {
        buffer();
        oneOrMoreCommands();
        oneSemicolon();
        numbersOfAddresses();
        numbersOfFetches();
        patternsInTexts();
        emptyPatternBehindAnother();
        writesInTexts();
        everyCharacter();
        firstWrongCharacter();
        tooEarly();
        end("TextEdgesTest");
    }
}
