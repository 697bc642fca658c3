/** Promises 10 to 13: the boundaries that the document names, sentence by sentence. */
final class TextEdges {
    private static final String TEN = "abcd012345";
    private static final String ORDER_OF_25 = "0=abcd0+abcd0+abcd0+abcd0";

    private TextEdges() {
    }

    static void all() {
        append();
        clearBuffer();
        firstError();
        syntaxErrors();
        orders();
        contacts();
        times();
        drawn();
        drawEnds();
        drawRefuses();
    }

    private static LadderRelays typed(String text) {
        return Edge.typed(Edge.bare(6), text);
    }

    /** A complete ladder, without an error. */
    private static void complete(String text) {
        Edge.due("first error of " + text, typed(text).firstError(), text.length());
        int orders = text.split(";", -1).length;
        Edge.due("orders of " + text, typed(text).draw(), orders);
    }

    /** The beginning of a ladder, but no ladder. */
    private static void begun(String text) {
        Edge.due("first error of " + text, typed(text).firstError(), text.length());
        Edge.refused("draw of " + text, Edge.ARGUMENT, () -> typed(text), x -> x.draw());
    }

    /** The last character is the first error, whatever comes behind it. */
    private static void error(String text) {
        Edge.due("first error of " + text, typed(text).firstError(), text.length() - 1);
        Edge.due("first error of " + text + "0=a", typed(text + "0=a").firstError(), text.length() - 1);
        Edge.refused("draw of " + text, Edge.ARGUMENT, () -> typed(text), x -> x.draw());
    }

    private static String signs(int many) {
        StringBuilder s = new StringBuilder();
        for (int i = 0; i < many; i++) {
            s.append((char) (33 + i));
        }
        return s.toString();
    }

    private static void append() {
        Edge.test(10, "`code`: the character code, 33 to 126", () ->
            Edge.range("code", Edge.ARGUMENT, 33, 126, LadderRelays::new, LadderRelays::append));
        Edge.test(10, "Appends a character to the buffer.", () -> {
            LadderRelays x = new LadderRelays();
            x.append('0');
            x.append('=');
            Edge.due("a character without error", x.firstError(), 2);
            x.append('~');
            Edge.due("one with an error, behind them", x.firstError(), 2);
            Edge.due("saved states", x.count(9), 0);
        });
        Edge.test(10, "Returns the new length of the buffer.", () -> {
            LadderRelays x = new LadderRelays();
            for (int length = 1; length <= 60; length++) {
                Edge.due("length", x.append(66 + length), length);
            }
            x.clearBuffer();
            Edge.due("cleared", x.append(33), 1);
        });
        Edge.test(10, "Throws `IllegalArgumentException` if code is not 33 to 126", () -> {
            for (int code : new int[] {32, 127, 0, 10, -33, 33 + 256, 33 + 65536}) {
                Edge.refused("code " + code, Edge.ARGUMENT, () -> typed("0=a"), x -> x.append(code));
            }
        });
        Edge.test(10, "Throws `IllegalStateException` if the buffer has 60 characters", () -> {
            Edge.due("with 59", typed(signs(59)).append(33), 60);
            Edge.refused("with 60", Edge.STATE, () -> typed(signs(60)), x -> x.append(33));
            LadderRelays x = typed(signs(60));
            x.clearBuffer();
            Edge.due("cleared", x.append(126), 1);
        });
        Edge.test(10, "The buffer has at most 60 characters.", () -> {
            String text = ORDER_OF_25 + ";" + ORDER_OF_25 + ";0=a+b+cd";
            Edge.due("length", text.length(), 60);
            Edge.due("all 60 are kept", typed(text).firstError(), 60);
            Edge.due("and drawn", typed(text).draw(), 3);
            Edge.refused("one more", Edge.STATE, () -> typed(text), x -> x.append('0'));
        });
        Edge.test(10, "If several exceptions apply, the one that is named first in the throws clause is thrown.", () -> {
            Edge.refused("60 characters, code 32", Edge.ARGUMENT, () -> typed(signs(60)), x -> x.append(32));
            Edge.refused("60 characters, code 127", Edge.ARGUMENT, () -> typed(signs(60)), x -> x.append(127));
        });
    }

    private static void clearBuffer() {
        Edge.test(11, "Clears the buffer.", () -> {
            LadderRelays x = typed("~0=a");
            Edge.due("an error", x.firstError(), 0);
            int saved = x.count(9);
            x.clearBuffer();
            Edge.due("no character, no error", x.firstError(), 0);
            Edge.refused("draw", Edge.ARGUMENT, () -> cleared("0=a"), y -> y.draw());
            Edge.due("it is not saved", x.count(9), saved);
            Check.type(x, "0=a");
            Edge.due("the characters before are gone", x.draw(), 1);
        });
        Edge.test(11, "Returns the length that it had.", () -> {
            Edge.changesNothing("empty", 0, () -> Edge.bare(1), x -> x.clearBuffer());
            Edge.due("one", typed("0").clearBuffer(), 1);
            LadderRelays x = typed(signs(60));
            Edge.due("full", x.clearBuffer(), 60);
            Edge.due("again", x.clearBuffer(), 0);
        });
    }

    private static LadderRelays cleared(String text) {
        LadderRelays x = typed(text);
        x.clearBuffer();
        return x;
    }

    private static void firstError() {
        Edge.test(12, "Finds the first syntax error of the buffer.", () -> {
            Edge.due("of several", typed("0=a!!;;x").firstError(), 4);
            Edge.changesNothing("a look at it", 4, () -> typed("0=a!!;;x"), x -> x.firstError());
            Edge.changesNothing("a look at a ladder", 8, () -> typed("0=a;u0:1"), x -> x.firstError());
        });
        Edge.test(12, "Returns the index of the first character that is a syntax error", () -> {
            Edge.due("the first character", typed("6=a").firstError(), 0);
            Edge.due("the last of three", typed("0=e").firstError(), 2);
            String full = ORDER_OF_25 + ";" + ORDER_OF_25 + ";0=a+b+c";
            Edge.due("the last of 60", typed(full + "c").firstError(), 59);
            Edge.due("the first of 60", typed("=" + full).firstError(), 0);
        });
        Edge.test(12, "the length of the buffer if there is none.", () -> {
            Edge.due("empty", Edge.bare(1).firstError(), 0);
            Edge.due("empty, without relays", new LadderRelays().firstError(), 0);
            Edge.due("one", typed("0").firstError(), 1);
            Edge.due("full", typed(ORDER_OF_25 + ";" + ORDER_OF_25 + ";0=a+b+cd").firstError(), 60);
            Edge.due("of relays that there are not", Edge.typed(new LadderRelays(), "5=4;u3:9").firstError(), 8);
        });
    }

    private static void syntaxErrors() {
        Edge.test(12, "The buffer is read from left to right", () -> {
            Edge.due("a fault that is mended later", typed("0=aa+b").firstError(), 3);
            Edge.due("an end that is right", typed("=0=a").firstError(), 0);
            Edge.due("two faults", typed("0=a;;u9:0").firstError(), 4);
        });
        Edge.test(12, "a character is a syntax error if no ladder as a text, of any length, begins with the characters "
            + "before it and this character.", () -> {
                // 60 characters of which only a longer text can be the ladder
                begun(ORDER_OF_25 + ";" + ORDER_OF_25 + ";0=a+b+c+");
                begun(ORDER_OF_25 + ";" + ORDER_OF_25 + ";0=a+b+c!");
                begun(ORDER_OF_25 + ";" + ORDER_OF_25 + ";0=a+b+c;");
                begun("u0:0;u0:0;u0:0;u0:0;u0:0;u0:0;u0:0;u0:0;u0:0;u0:0;u0:0;u0:0;");
                // no contact is left for this "!", and none can follow it
                error("0=" + TEN + "!");
                error("0=!a!b!c!d!0!1!2!3!4!5!");
                begun("0=bcd012345!");
                // a fifth branch may never follow
                error("0=a+a+a+a+");
                begun("0=a+a+a+");
            });
    }

    private static void orders() {
        Edge.test(13, "A ladder as a text is one or more orders with \";\" between them", () -> {
            begun("");
            complete("0=a");
            complete("0=a;1=b");
            complete("u0:0;u0:0;u0:0;u0:0;u0:0;u0:0;u0:0;u0:0;u0:0;u0:0;u0:0;u0:0");
            begun("0=a;");
            begun("u0:0;");
            error(";");
            error("0=a;;");
            error("u0:0;;");
            error("u0:0,");
            error("u0:0u");
        });
        Edge.test(13, "the digit of a relay, 0 to 5, \"=\"", () -> {
            complete("0=a");
            complete("5=a");
            error("/");
            error("6");
            begun("5");
            begun("5=");
            error("5:");
            error("55");
            error("0=a;6");
        });
        Edge.test(13, "one or more branches with \"+\" between them, at most 4", () -> {
            error("0=+");
            error("0=;");
            complete("0=a");
            complete("0=a+b+c");
            complete("0=a+b+c+d");
            error("0=a+b+c+d+");
            begun("0=a+");
            error("0=a++");
            error("0=a+;");
            complete("0=a+a+a+a;0=a+a+a+a");
            complete("0=" + TEN + "+" + TEN + "+" + TEN + "+" + TEN);
        });
    }

    private static void contacts() {
        Edge.test(13, "each of one or more contacts", () -> {
            begun("0=");
            complete("0=a");
            complete("0=" + TEN);
            complete("0=5432!1!0!d!c!b!a");
        });
        Edge.test(13, "a contact being perhaps \"!\" (an opening one)", () -> {
            complete("0=!a");
            begun("0=!");
            error("0=!!");
            error("0=!+");
            error("0=!;");
            begun("0=a!");
            error("0=a!!");
            error("0=a!+");
            error("0=a!;");
            error("!");
            error("u!");
        });
        Edge.test(13, "a letter, \"a\" to \"d\" (the inputs 0 to 3)", () -> {
            complete("0=a");
            complete("0=d");
            error("0=`");
            error("0=e");
            error("0=!e");
            error("0=ae");
            error("0=A");
            error("0=D");
        });
        Edge.test(13, "or the digit of a relay, 0 to 5 (the rung of a relay)", () -> {
            complete("0=0");
            complete("0=5");
            error("0=/");
            error("0=6");
            error("0=!6");
            error("0=a6");
            error("0=9");
        });
        Edge.test(13, "In a branch a letter or digit stands at most once.", () -> {
            for (char name : TEN.toCharArray()) {
                error("0=" + name + name);
                begun("0=" + name + "!");
                error("0=" + name + "!" + name);
                error("0=!" + name + name);
                error("0=!" + name + "!" + name);
                complete("0=" + name + "+" + name + "+!" + name + ";0=" + name);
                String others = TEN.replace("" + name, "");
                complete("0=" + others + name);
                error("0=" + name + others + name);
                error("0=b+" + name + "+" + name + name);
            }
        });
    }

    private static void times() {
        Edge.test(13, "or \"u\", the digit of a relay, \":\", a digit (its time to pull)", () -> timed("u"));
        Edge.test(13, "or \"v\", the digit of a relay, \":\", a digit (its time to drop)", () -> timed("v"));
    }

    private static void timed(String sign) {
        complete(sign + "0:0");
        complete(sign + "5:9");
        begun(sign);
        begun(sign + "0");
        begun(sign + "0:");
        error(sign + "/");
        error(sign + "6");
        error(sign + ":");
        error(sign + "a");
        error(sign + "0=");
        error(sign + "00");
        error(sign + "0:/");
        error(sign + "0::");
        error(sign + "0:a");
        error(sign + "0:10");
        error(sign + "0:1+");
        error(sign.equals("u") ? "t" : "w");
        error(sign.toUpperCase());
        for (int time = 0; time <= 9; time++) {
            LadderRelays x = Edge.typed(Edge.ladder("34", "43"), sign + "1:" + time);
            x.draw();
            Edge.due("time to pull of " + sign + "1:" + time, x.relay(1, 3), sign.equals("u") ? time : 4);
            Edge.due("time to drop of " + sign + "1:" + time, x.relay(1, 4), sign.equals("v") ? time : 3);
            Edge.due("times of the other", x.relay(0, 3) * 10 + x.relay(0, 4), 34);
        }
    }

    private static void drawn() {
        Edge.test(13, "Does the orders in the buffer, one after the other, and clears the buffer: a rung takes the place of "
            + "all branches of its relay, a time that of the one that it has.", () -> {
                LadderRelays x = Edge.typed(Edge.ladder("12 a b c d", "34 a b c d"), "0=!1d");
                x.draw();
                Edge.due("branches: one for four", x.relay(0, 5), 1);
                Edge.due("closing", x.contacts(0, 0, 0), 8);
                Edge.due("opening", x.contacts(0, 0, 1), 32);
                Edge.due("branches of the other", x.relay(1, 5), 4);
                Edge.due("the buffer", x.clearBuffer(), 0);
                Check.type(x, "0=a;u0:9;0=a+b+c+d;u0:0;0=b+c");
                Edge.due("orders", x.draw(), 5);
                Edge.due("the last rung holds", x.relay(0, 5), 2);
                Edge.due("its first branch", x.contacts(0, 0, 0), 2);
                Edge.due("the last time holds", x.relay(0, 3), 0);
                Edge.due("its time to drop stays", x.relay(0, 4), 2);
                Check.type(x, "0=a+b+c+d");
                x.draw();
                Edge.due("branches: four for two", x.relay(0, 5), 4);
                Edge.due("the fourth", x.contacts(0, 3, 0), 8);
                Edge.refused("a look at a fifth", Edge.INDEX, () -> fullyDrawn(), y -> y.contacts(0, 4, 0));
            });
        Edge.test(13, "a rung takes the place of all branches of its relay, a time that of the one that it has.", () -> {
            // who is up and the counts stay
            for (String order : new String[] {"0=a", "u0:1", "v0:1", "1=a", "u1:8", "v1:8"}) {
                LadderRelays x = Edge.pressed(1, "09 a", "90 b");
                x.run(1);
                Edge.press(x, 3);
                x.run(5);
                Check.type(x, order);
                x.draw();
                Edge.due(order + ": who is up", x.count(1), 1);
                Edge.due(order + ": count of 0", x.relay(0, 2), 5);
                Edge.due(order + ": count of 1", x.relay(1, 2), 5);
                Edge.due(order + ": ticks", x.count(7), 6);
                Edge.due(order + ": changes", x.count(8), 1);
                Edge.due(order + ": inputs", x.count(4), 2);
            }
        });
        Edge.test(13, "Returns how many are done.", () -> {
            Edge.due("none", typedFor(0, "0=a").draw(), 0);
            Edge.due("one", typedFor(1, "0=a").draw(), 1);
            Edge.due("one of two", typedFor(1, "0=a;1=a").draw(), 1);
            Edge.due("the greatest", typedFor(1, "u0:0;u0:1;u0:2;u0:3;u0:4;u0:5;u0:6;u0:7;u0:8;u0:9;v0:0;v0:9").draw(), 12);
        });
    }

    private static LadderRelays fullyDrawn() {
        LadderRelays x = Edge.typed(Edge.ladder("12 a b"), "0=a+b+c+d");
        x.draw();
        return x;
    }

    private static LadderRelays typedFor(int relays, String text) {
        return Edge.typed(Edge.bare(relays), text);
    }

    private static void drawEnds() {
        Edge.test(13, "It ends ahead of the first order that names a relay that there is not (as its own, or in a contact).",
            () -> {
                for (int relays = 0; relays <= 5; relays++) {
                    ends("a rung of its own", relays, relays + "=a");
                    ends("a time to pull", relays, "u" + relays + ":1");
                    ends("a time to drop", relays, "v" + relays + ":1");
                    ends("a closing contact", relays, "0=" + relays);
                    ends("an opening contact", relays, "0=b!" + relays);
                    ends("a contact of the last branch", relays, "0=b+c+d+a" + relays);
                }
                for (int relays = 1; relays <= 6; relays++) {
                    int last = relays - 1;
                    String text = last + "=" + last + "+!" + last + ";u" + last + ":1;v" + last + ":1";
                    Edge.due("the last of " + relays, typedFor(relays, text).draw(), 3);
                }
            });
        Edge.test(13, "Undoable, as one call, also if none is done.", () -> {
            Edge.undoable("12 orders", () -> typedFor(1, "u0:1;u0:2;u0:3;u0:4;u0:5;u0:6;u0:7;u0:8;u0:9;v0:1;v0:2;0=0"),
                x -> x.draw());
            Edge.undoable("one of two", () -> typedFor(1, "0=a;1=a"), x -> x.draw());
            Edge.undoable("none", () -> typedFor(1, "1=a"), x -> x.draw());
            Edge.undoable("none, without relays", () -> typedFor(0, "0=a"), x -> x.draw());
            LadderRelays x = typedFor(1, "0=a");
            x.draw();
            x.undo();
            Edge.due("the buffer stays clear", x.clearBuffer(), 0);
        });
    }

    /** The order is not done, nor those behind it, but the one ahead of it is, if there is a relay for it. */
    private static void ends(String what, int relays, String order) {
        String name = what + " of " + relays + ": ";
        LadderRelays x = Edge.typed(Edge.bare(relays), "u0:7;" + order + ";v0:8;0=a");
        int ahead = relays == 0 ? 0 : 1;
        Edge.due(name + "orders done", x.draw(), ahead);
        Edge.due(name + "no rung is drawn", x.count(5), 0);
        Edge.due(name + "the buffer", x.clearBuffer(), 0);
        if (relays > 0) {
            Edge.due(name + "time to pull, ahead of it", x.relay(0, 3), 7);
            Edge.due(name + "time to drop, behind it", x.relay(0, 4), 0);
            Edge.due(name + "saved states", x.count(9), Math.min(6, relays + 1));
        }
        LadderRelays y = Edge.typed(Edge.bare(relays), order);
        Edge.due(name + "alone", y.draw(), 0);
        Edge.due(name + "the buffer of it alone", y.clearBuffer(), 0);
    }

    private static void drawRefuses() {
        Edge.test(13, "Throws `IllegalArgumentException` if the buffer is not a complete ladder as a text", () -> {
            String text = "0=!a1+b;u1:9;v0:0";
            String complete = " 4 5 7 12 17 ";
            for (int length = 0; length <= text.length(); length++) {
                String begin = text.substring(0, length);
                if (complete.contains(" " + length + " ")) {
                    Edge.due("draw of " + begin, typed(begin).draw(), begin.split(";").length);
                } else {
                    Edge.refused("draw of " + begin, Edge.ARGUMENT, () -> typed(begin), x -> x.draw());
                }
            }
            Edge.refused("an error behind orders", Edge.ARGUMENT, () -> typed("0=a;u0:1;0=aa"), x -> x.draw());
            Edge.refused("an error behind a relay that there is not", Edge.ARGUMENT, () -> typedFor(1, "5=a;x"),
                x -> x.draw());
            Edge.refused("an empty buffer, without relays", Edge.ARGUMENT, LadderRelays::new, x -> x.draw());
            Edge.refused("a second draw", Edge.ARGUMENT, TextEdges::fullyDrawn, x -> x.draw());
        });
    }
}
