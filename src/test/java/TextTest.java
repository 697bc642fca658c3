/** Promises 10 to 13: append, clearBuffer, firstError, draw; and the terms of the input text. */
public final class TextTest {
    private static final Class<?> ARGUMENT = IllegalArgumentException.class;
    private static final Class<?> STATE = IllegalStateException.class;

    public static void main(String[] args) {
        append();
        completeTexts();
        unendedTexts();
        wrongTexts();
        signsOneByOne();
        drawRungs();
        drawTimes();
        drawEndsAheadOfUnknownRelays();
        drawRefuses();
        Check.end();
    }

    private static void append() {
        LadderRelays x = new LadderRelays();
        int[] wrong = {32, 127, 0, -1, Integer.MIN_VALUE, Integer.MAX_VALUE};
        for (int code : wrong) {
            Check.refuses(x, "append " + code, ARGUMENT, () -> x.append(code));
        }
        Check.due("the first code", x.append(33), 1);
        Check.due("the last code", x.append(126), 2);
        for (int i = 3; i <= 60; i++) {
            Check.due("append", x.append('0'), i);
        }
        Check.refuses(x, "a character more", STATE, () -> x.append('0'));
        Check.refuses(x, "a wrong one more", ARGUMENT, () -> x.append(127));
        Check.due("nothing saved", x.count(9), 0);
        Check.due("clear", x.clearBuffer(), 60);
        Check.due("clear again", x.clearBuffer(), 0);
        Check.due("nothing saved", x.count(9), 0);
        Check.due("append again", x.append('a'), 1);
    }

    private static final String TEN = "abcd012345";

    private static void completeTexts() {
        String[] texts = {"0=a", "5=!5", "0=" + TEN, "1=!a!b!c!d!0!1!2!3!4!5", "0=a+a+a+a", "0=a;0=a", "u0:0", "v5:9",
            "u0:1;v1:2;2=3!d", "3=" + TEN + "+" + TEN + ";v0:0", "0=a+!a", "2=d!c+5"};
        for (String text : texts) {
            checkText(text, text.length(), true);
        }
    }

    private static void unendedTexts() {
        String[] texts = {"", "0", "0=", "0=!", "0=a!", "0=a+", "0=a;", "u", "u0", "u0:", "v", "v3", "v3:", "u0:1;",
            "0=a+b+c+!", "0=abcd01234!", "0=a;u"};
        for (String text : texts) {
            checkText(text, text.length(), false);
        }
    }

    private static void wrongTexts() {
        String[][] texts = {{"", "6"}, {"", "a"}, {"", "="}, {"", ";"}, {"", "!"}, {"", "U"}, {"", "w"}, {"0", "0"},
            {"0", ":"}, {"0", "a"}, {"0=", "e"}, {"0=", "A"}, {"0=", "6"}, {"0=", "+"}, {"0=", ";"}, {"0=", "="},
            {"0=", "u"}, {"0=!", "!"}, {"0=!", "+"}, {"0=!", ";"}, {"0=!", "e"}, {"0=a", "a"}, {"0=a!", "a"},
            {"0=!a", "a"}, {"0=!a!", "a"}, {"0=0", "0"}, {"0=b0c", "0"}, {"0=a", "="}, {"0=a", ":"}, {"0=a", "6"},
            {"0=a+", "+"}, {"0=a+", ";"}, {"0=a+b+c+d", "+"}, {"0=a;", ";"}, {"0=a;", "a"}, {"0=a;", "+"},
            {"0=" + TEN, "!"}, {"0=" + TEN, "a"}, {"0=" + TEN, "5"}, {"0=a+b+c+" + TEN, "+"},
            {"0=a+b+c+" + TEN, "!"}, {"u", "6"}, {"u", "a"}, {"u", ":"}, {"u0", "0"}, {"u0", "="}, {"u0:", "a"},
            {"u0:", ";"}, {"u0:1", "0"}, {"u0:1", "+"}, {"u0:1", "u"}, {"v0:9", ":"}, {"u0:1;", ";"}, {"u0:1;", "w"},
            {"v", "v"}, {"v0", ";"}, {"0=a+", "="}};
        for (String[] text : texts) {
            checkText(text[0] + text[1], text[0].length(), false);
            checkText(text[0] + text[1] + "0=a;u0:1", text[0].length(), false);
        }
        // after a "+" or a ";" letters may come again
        checkText("0=ab+ba!1+1;0=ab", 16, true);
    }

    private static void checkText(String text, int error, boolean complete) {
        LadderRelays x = new LadderRelays();
        for (int i = 0; i < 6; i++) {
            x.add(1, 1);
        }
        Check.type(x, text);
        long before = x.digest();
        Check.due("first error of " + text, x.firstError(), error);
        Check.due("first error again of " + text, x.firstError(), error);
        Check.due("it changes nothing: " + text, x.digest(), before);
        if (!complete) {
            Check.refuses(x, "draw of " + text, ARGUMENT, () -> x.draw());
            return;
        }
        int orders = text.length() - text.replace(";", "").length() + 1;
        Check.due("draw of " + text, x.draw(), orders);
        Check.due("it clears the buffer: " + text, x.clearBuffer(), 0);
    }

    /** Each sign at each kind of place, against what the document lets stand there. */
    private static void signsOneByOne() {
        String[] starts = {"", "1", "1=", "1=!", "1=a0", "1=a0!", "1=a+", "1=a+b+c+d", "1=" + TEN, "1=a+a+a+" + TEN,
            "1=a;", "u", "v2", "u2:", "v2:7", "v2:7;", "1=bcd012345", "1=bcd012345!"};
        String[] mayFollow = {"012345uv", "=", "!abcd012345", "abcd012345", "!bcd12345+;", "bcd12345", "!abcd012345",
            "!abc012345;", "+;", ";", "012345uv", "012345", ":", "0123456789", ";", "012345uv", "!a+;", "a"};
        for (int i = 0; i < starts.length; i++) {
            for (char sign = 33; sign <= 126; sign++) {
                LadderRelays x = new LadderRelays();
                Check.type(x, starts[i] + sign);
                int right = mayFollow[i].indexOf(sign) >= 0 ? 1 : 0;
                Check.due("'" + sign + "' after " + starts[i], x.firstError(), starts[i].length() + right);
            }
        }
    }

    private static void drawRungs() {
        LadderRelays x = new LadderRelays();
        x.add(3, 4);
        x.add(5, 6);
        x.branch(0, 8, 0);
        x.branch(0, 8, 0);
        x.branch(1, 2, 0);
        Check.type(x, "0=a!b0!1+!cd+1");
        Check.due("one order", x.draw(), 1);
        Check.due("it takes the place of all branches", x.relay(0, 5), 3);
        Check.due("closing 0", x.contacts(0, 0, 0), 1 | 16);
        Check.due("opening 0", x.contacts(0, 0, 1), 2 | 32);
        Check.due("closing 1", x.contacts(0, 1, 0), 8);
        Check.due("opening 1", x.contacts(0, 1, 1), 4);
        Check.due("closing 2", x.contacts(0, 2, 0), 32);
        Check.due("opening 2", x.contacts(0, 2, 1), 0);
        Check.due("the other rung stays", x.relay(1, 5), 1);
        Check.due("times stay", x.relay(0, 3) * 10 + x.relay(0, 4), 34);
        Check.due("saved", x.count(9), 6);
        Check.type(x, "0=a;1=b+c;0=d");
        Check.due("one after the other", x.draw(), 3);
        Check.due("the last one holds", x.contacts(0, 0, 0), 8);
        Check.due("branches", x.count(5), 3);
        Check.due("saved as one call", x.count(9), 6);
        x.undo();
        Check.due("undone as one call", x.relay(0, 5), 3);
        Check.due("undone as one call", x.contacts(1, 0, 0), 2);
        Check.due("the buffer stays clear", x.clearBuffer(), 0);
    }

    private static void drawTimes() {
        LadderRelays x = new LadderRelays();
        x.add(3, 4);
        x.add(5, 6);
        x.branch(1, 1, 0);
        x.press(0);
        x.run(2);
        Check.type(x, "u1:9;v0:0");
        Check.due("two orders", x.draw(), 2);
        Check.due("pull of 1", x.relay(1, 3), 9);
        Check.due("drop of 1", x.relay(1, 4), 6);
        Check.due("pull of 0", x.relay(0, 3), 3);
        Check.due("drop of 0", x.relay(0, 4), 0);
        Check.due("branches stay", x.relay(1, 5), 1);
        Check.due("its count stays", x.relay(1, 2), 2);
        Check.due("inputs stay", x.count(4), 1);
    }

    private static void drawEndsAheadOfUnknownRelays() {
        String[] ends = {"2=a", "0=a+b2", "0=!5", "1=a+b+c+!4", "u2:1", "v5:1", "5=5"};
        for (String end : ends) {
            LadderRelays x = new LadderRelays();
            x.add(3, 4);
            x.add(5, 6);
            x.branch(0, 8, 0);
            Check.type(x, "u0:9;" + end + ";v0:9;1=a");
            Check.due("one is done ahead of " + end, x.draw(), 1);
            Check.due("the one ahead", x.relay(0, 3), 9);
            Check.due("the time behind is not changed", x.relay(0, 4), 4);
            Check.due("the rung behind is not drawn", x.relay(1, 5), 0);
            Check.due("the rung stays", x.contacts(0, 0, 0), 8);
            Check.due("its branches stay", x.relay(0, 5), 1);
            Check.due("the buffer is clear", x.clearBuffer(), 0);
            Check.type(x, end);
            Check.due("none is done of " + end, x.draw(), 0);
            Check.due("saved all the same", x.count(9), 5);
            Check.due("the buffer is clear again", x.clearBuffer(), 0);
        }
    }

    private static void drawRefuses() {
        LadderRelays x = new LadderRelays();
        Check.refuses(x, "draw of nothing", ARGUMENT, () -> x.draw());
        x.add(0, 0);
        Check.type(x, "0=a;0=a;");
        Check.refuses(x, "draw of an unended text", ARGUMENT, () -> x.draw());
        Check.due("the buffer stays", x.clearBuffer(), 8);
        Check.type(x, "0=a;0=aa");
        Check.refuses(x, "draw of a wrong text", ARGUMENT, () -> x.draw());
        Check.due("no rung is drawn", x.count(5), 0);
        Check.due("the buffer stays", x.clearBuffer(), 8);
        // the longest text
        String longest = "0=abcd0+abcd0+abcd0+abcd0;0=abcd0+abcd0+abcd0+abcd0;0=a+b+cd";
        Check.type(x, longest);
        Check.due("60 characters", longest.length(), 60);
        Check.due("no error", x.firstError(), 60);
        Check.due("three orders", x.draw(), 3);
        Check.due("four contacts", x.count(6), 4);
    }
}
