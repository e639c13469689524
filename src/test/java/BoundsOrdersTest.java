/** The sentences of the terms on plans, texts, changes and errors, each at its bounds. */
public final class BoundsOrdersTest {
    private static final String NOT_POSSIBLE = "2 if there is no such pen or line, and 3 if it is not possible otherwise "
        + "(by what take, home, draw, waits and clean tell, ticks out of their range, too), "
        + "when those ahead of it are done";
    private static final String CAUSE = "The cause of a fault with the reason 3 is why the line cannot be drawn, "
        + "for \"d\" and \"r\"; with the reason 1 it is at which character of the order it breaks off "
        + "(0 for its letter; of an order that the text ends too early it is its length)";

    public static void main(String[] args) {
        plans();
        texts();
        changes();
        Script.close();
    }

    // ---- plans

    private static void plans() {
        Sentences section = new Sentences("Plans");
        holdFairPlan(section);
        holdTour(section);
        section.close();
    }

    private static void holdFairPlan(Sentences section) {
        String fair = "The fair plan gives each line that is not drawn to a pen that is not on leave: the lines are gone "
            + "through from the longest one to the shortest one, of the same length by their numbers, and each goes to "
            + "the pen whose drawn length and lengths of lines that it has been given are least together, of several to "
            + "the one with the lowest number";
        section.hold(fair, """
            pen 0 100 0 0 -> 0
            pen 0 100 0 1 -> 1
            line 0 0 10 0 -> 0
            line 0 1 10 1 -> 1
            line 0 2 10 2 -> 2
            fair 0 -> 0                    # all as long: by their numbers
            fair 1 -> 1
            fair 2 -> 0                    # 10 and 10
            line 0 3 11 3 -> 3
            fair 3 -> 0                    # longer by 1
            fair 0 -> 1
            fair 1 -> 1                    # 11 and 10
            fair 2 -> 0                    # 11 and 20
            line 0 4 1 4 -> 4
            fair 4 -> 1                    # 21 and 20
            line 0 5 1 5 -> 5
            fair 5 -> 0                    # 21 and 21
            fairSpread -> 1
            """);
        section.hold(fair, """
            pen 0 100 0 0 -> 0
            pen 0 100 0 1 -> 1
            line 0 0 1 0 -> 0
            line 0 5 9 5 -> 1
            line 0 6 9 6 -> 2
            take 0 -> 0
            draw 0 0 -> 6
            fair 0 -> IMPOSSIBLE           # it is drawn
            fair 1 -> 1                    # 1 and 0
            fair 2 -> 0                    # 1 and 9
            leave 1 1 -> 1
            fair 1 -> 0                    # pen 1 is on leave
            fair 2 -> 0
            leave 1 0 -> 2
            erase 0 -> 0
            fair 1 -> 1                    # what pen 0 has drawn stays
            fair 2 -> 0
            fair 0 -> 1                    # 10 and 9
            """);
    }

    private static void holdTour(Sentences section) {
        String tour = "The tour of the pen in the hand goes through the lines that the fair plan gives to it: from the "
            + "point where the hand is, each time to the line with the nearest end, of several lines to the one with the "
            + "lowest number, of both its ends to the nearer one, or the first one; and along it to its other end";
        section.hold(tour, """
            pen 0 500 0 0 -> 0
            line 5 5 5 15 -> 0
            line 4 4 4 0 -> 1              # nearer by 1
            line 4 0 4 4 -> 2              # as near
            take 0 -> 0
            tour 0 0 -> 1
            tour 0 1 -> 0                  # both ends as near
            tour 0 2 -> 8
            tour 1 0 -> 2
            tour 1 1 -> 0                  # the hand is at 4, 0
            tour 1 2 -> 12
            tour 2 0 -> 0
            tour 2 1 -> 0
            tour 2 2 -> 23                 # 1 there, 10 along
            tour 3 0 -> MISSING
            """);
        section.hold(tour, """
            pen 0 500 0 0 -> 0
            line 20 0 7 0 -> 0
            take 0 -> 0
            tour 0 1 -> 1                  # the second end is nearer
            tour 0 2 -> 20
            line 30 0 20 1 -> 1
            line 21 0 60 0 -> 2
            tour 1 0 -> 1                  # both 1 away: the lowest number
            tour 1 1 -> 1
            tour 1 2 -> 31
            tour 2 0 -> 2                  # 9 away from 30, 0
            tour 2 1 -> 0
            tour 2 2 -> 79
            pen 0 500 0 1 -> 1
            tour 0 0 -> 2                  # the plan gives the others to pen 1
            tour 1 0 -> MISSING
            """);
        section.hold("(Strikes, ink, clogging and wet lines play no part.)", """
            pen 0 10 0 0 -> 0
            pen 0 10 0 1 -> 1
            line 0 0 10 0 -> 0
            line 10 0 10 9 -> 1
            line 10 9 19 9 -> 2
            line 30 0 40 0 -> 3
            set 0 0 -> 60
            set 2 100 -> 10
            take 1 -> 0
            draw 0 0 -> 15
            take 0 -> 2
            whyNot 1 0 -> 6
            tour 0 0 -> 1
            tour 0 2 -> 9
            tour 1 0 -> 3
            tour 1 2 -> 39                 # 20 there, 10 along
            tour 2 0 -> MISSING
            waits 41 -> 61
            whyNot 1 0 -> 5
            tour 0 0 -> 1
            tour 1 0 -> 3
            take 1 -> 1
            penOf 1 2 -> 0
            whyNot 2 0 -> 3
            tour 0 0 -> 2
            tour 0 2 -> 18
            set 0 10 -> 0
            whyNot 2 0 -> 4
            tour 0 0 -> 2
            tour 1 0 -> MISSING
            """);
    }

    // ---- texts

    private static String whole(String text) {
        return "text " + text + "\nfault 0 -> MISSING\nfault 1 -> MISSING\nfault 2 -> MISSING\n";
    }

    private static String faulty(String text, int position, int reason, String cause) {
        return "text " + text + "\nfault 0 -> " + position + "\nfault 1 -> " + reason + "\nfault 2 -> " + cause
            + "\nplay -> IMPOSSIBLE\n";
    }

    private static void texts() {
        Sentences section = new Sentences("Texts");
        holdOrders(section);
        holdNumbers(section);
        holdForm(section);
        holdNoSuch(section);
        holdOtherwise(section);
        holdLateness(section);
        holdWhy(section);
        section.close();
    }

    private static void holdOrders(Sentences section) {
        section.hold("There is a text of at most 60 characters, initially empty: orders, each followed by \";\": "
            + "\"p\" a pen (it is taken into the hand), \"h\" (the pen goes home), \"d\" a line (it is drawn from its first "
            + "end), \"r\" a line (it is drawn from its second end), \"w\" ticks (they are waited), or \"c\" (cleaning); "
            + "numbers of 1 to 3 digits, 0 ahead allowed", """
            count 12 -> 0
            fault 0 -> MISSING
            pen 0 100 0 0 -> 0
            pen 0 100 0 1 -> 1
            line 2 0 9 0 -> 0
            text p1;
            play -> 1
            count 5 -> 1
            count 4 -> 5
            text d0;
            play -> 1
            count 6 -> 9
            count 4 -> 14
            undo -> 3
            text r0;
            play -> 1
            count 6 -> 2
            count 4 -> 21
            text w7;
            play -> 1
            penOf 1 4 -> 7
            text c;
            play -> 1
            penOf 1 4 -> 0
            count 4 -> 32
            text h;
            play -> 1
            count 5 -> MISSING
            count 4 -> 37
            clearText -> 2
            again 59 type 59
            type 59 -> 60
            type 59 -> LIMIT
            count 12 -> 60
            """);
    }

    private static void holdNumbers(Sentences section) {
        section.hold("numbers of 1 to 3 digits, 0 ahead allowed", "pen 0 100 0 0 -> 0\nline 0 0 9 0 -> 0\n"
            + whole("w1;") + whole("w10;") + whole("w200;") + whole("w01;") + whole("w001;") + whole("w099;")
            + whole("p0;") + whole("p00;d000;") + whole("p000;r00;")
            + faulty("w;", 0, 1, "1") + faulty("w0001;", 0, 1, "4") + faulty("w1000;", 0, 1, "4")
            + faulty("p0000;", 0, 1, "4") + faulty("p;", 0, 1, "1") + faulty("p0;d;", 3, 1, "1")
            + faulty("p0;r0000;", 3, 1, "4"));
    }

    private static void holdForm(Sentences section) {
        section.hold("The fault of the text is the position, from 0, of the first character of the first order that is not "
            + "possible; its reason is 1 if it is not of this form, its \";\" included", "pen 0 100 0 0 -> 0\n"
            + "clearText -> 0\nfault 0 -> MISSING\n"
            + faulty("x", 0, 1, "0") + faulty("w1;x", 3, 1, "0") + faulty("w1;x;y", 3, 1, "0")
            + faulty("w1", 0, 1, "2") + faulty("w1;w1", 3, 1, "2")
            + whole("p0;h;") + faulty("p0;h", 3, 1, "1") + faulty("p9", 0, 1, "2") + faulty("d9", 0, 1, "2")
            + faulty("w999", 0, 1, "4") + faulty("h", 0, 1, "1") + faulty("p0;p0", 3, 1, "2")
            + whole("w10;".repeat(14) + "w1;") + faulty("w10;".repeat(14) + "w1;x", 59, 1, "0")
            + faulty("w1;".repeat(19) + "w10", 57, 1, "3") + whole("w1;".repeat(20)));
        String letters = "";
        for (char sign = 33; sign <= 126; sign++) {
            if ("pdrwhc#".indexOf(sign) < 0) {
                letters += faulty(sign + ";", 0, 1, "0") + faulty("w1;" + sign, 3, 1, "0");
            }
        }
        section.hold("its reason is 1 if it is not of this form", letters);
        section.hold(CAUSE, faulty("p", 0, 1, "1") + faulty("d", 0, 1, "1") + faulty("r", 0, 1, "1")
            + faulty("w", 0, 1, "1") + faulty("h", 0, 1, "1") + faulty("c", 0, 1, "1")
            + faulty("p1", 0, 1, "2") + faulty("d12", 0, 1, "3") + faulty("r123", 0, 1, "4")
            + faulty("w1234", 0, 1, "4") + faulty("px", 0, 1, "1") + faulty("d1x", 0, 1, "2")
            + faulty("r12x", 0, 1, "3") + faulty("w123x", 0, 1, "4") + faulty("hh", 0, 1, "1")
            + faulty("c1;", 0, 1, "1") + faulty("h0;", 0, 1, "1") + faulty("w/;", 0, 1, "1")
            + faulty("w:;", 0, 1, "1") + faulty("w1/;", 0, 1, "2") + faulty("w9:", 0, 1, "2")
            + faulty("w5;p12", 3, 1, "3") + faulty(";", 0, 1, "0") + faulty("w5;;", 3, 1, "0"));
    }

    private static void holdNoSuch(Sentences section) {
        section.hold("2 if there is no such pen or line, and 3 if it is not possible otherwise",
            faulty("p0;", 0, 2, "MISSING") + faulty("d0;", 0, 2, "MISSING") + faulty("r0;", 0, 2, "MISSING")
            + "pen 0 100 0 0 -> 0\npen 0 100 0 1 -> 1\nline 0 0 9 0 -> 0\nline 9 0 9 9 -> 1\n"
            + whole("p1;") + faulty("p2;", 0, 2, "MISSING") + faulty("p999;", 0, 2, "MISSING")
            + whole("p0;d1;") + faulty("p0;d2;", 3, 2, "MISSING") + faulty("p0;d999;", 3, 2, "MISSING")
            + whole("p0;r1;") + faulty("p0;r2;", 3, 2, "MISSING") + faulty("p0;r002;", 3, 2, "MISSING")
            + faulty("d2;", 0, 2, "MISSING") + faulty("d1;", 0, 3, "1"));
        section.hold("2 if there is no such pen or line", """
            pen 0 100 0 0 -> 0
            pen 0 100 0 1 -> 1
            pen 0 100 2 0 -> 2
            pen 0 100 2 1 -> 3
            pen 1 100 1 1 -> 4
            again 16 line 3 3 4 4
            """ + whole("p4;") + faulty("p5;", 0, 2, "MISSING") + whole("p4;d15;") + faulty("p4;d16;", 3, 2, "MISSING")
            + faulty("p4;r16;", 3, 2, "MISSING"));
    }

    private static void holdOtherwise(Sentences section) {
        section.hold(NOT_POSSIBLE, "pen 0 100 0 0 -> 0\npen 0 100 0 1 -> 1\nline 0 0 9 0 -> 0\nleave 1 1 -> 1\n"
            + whole("p0;") + faulty("p0;p0;", 3, 3, "MISSING") + faulty("p1;", 0, 3, "MISSING") + whole("p0;h;p0;")
            + faulty("h;", 0, 3, "MISSING") + whole("p0;h;") + faulty("p0;h;h;", 5, 3, "MISSING")
            + faulty("c;", 0, 3, "MISSING") + whole("p0;c;") + faulty("p0;h;c;", 5, 3, "MISSING")
            + faulty("w0;", 0, 3, "MISSING") + faulty("w000;", 0, 3, "MISSING") + whole("w1;") + whole("w200;")
            + faulty("w201;", 0, 3, "MISSING") + faulty("w999;", 0, 3, "MISSING") + faulty("w200;w201;", 5, 3, "MISSING")
            + faulty("d0;", 0, 3, "1") + whole("p0;d0;") + faulty("p0;d0;d0;", 6, 3, "2"));
    }

    private static void holdLateness(Sentences section) {
        section.hold(NOT_POSSIBLE, "pen 0 500 0 0 -> 0\nline 0 0 10 0 -> 0\ntill 99950\n"
            + whole("w50;") + faulty("w51;", 0, 3, "MISSING") + whole("w25;w25;") + faulty("w25;w26;", 4, 3, "MISSING")
            + whole("w45;p0;") + faulty("w46;p0;", 4, 3, "MISSING")
            + whole("w40;p0;h;") + faulty("w41;p0;h;", 7, 3, "MISSING")
            + whole("w41;p0;c;") + faulty("w42;p0;c;", 7, 3, "MISSING")
            + whole("w35;p0;d0;") + faulty("w36;p0;d0;", 7, 3, "7")
            + whole("w25;p0;r0;") + faulty("w26;p0;r0;", 7, 3, "7")
            + whole("p0;w35;d0;") + faulty("p0;w36;d0;", 7, 3, "7"));
    }

    private static void holdWhy(Sentences section) {
        section.hold(CAUSE, "pen 0 30 0 0 -> 0\npen 0 100 0 1 -> 1\n"
            + "line 0 0 20 0 -> 0\nline 20 0 20 10 -> 1\nline 20 0 20 11 -> 2\nline 25 0 20 0 -> 3\n"
            + faulty("d0;", 0, 3, "1") + faulty("r0;", 0, 3, "1")
            + faulty("p0;d0;d0;", 6, 3, "2") + faulty("p0;d0;r0;", 6, 3, "2")
            + whole("p0;d0;d1;") + faulty("p0;d0;d2;", 6, 3, "4") + faulty("p0;d0;r2;", 6, 3, "4")
            + whole("p0;w40;d0;") + faulty("p0;w41;d0;", 7, 3, "5") + whole("p0;w20;r0;") + faulty("p0;w21;r0;", 7, 3, "5")
            + faulty("p0;d0;p1;w4;d1;", 12, 3, "6") + whole("p0;d0;p1;w5;d1;")
            + whole("p0;d0;p1;r1;") + faulty("p0;d0;p1;w4;r3;", 12, 3, "6") + whole("p0;d0;p1;w5;r3;")
            + "set 0 19 -> 60\n" + faulty("p0;d0;d1;", 6, 3, "3") + faulty("p0;d0;r1;", 6, 3, "3")
            + "set 0 20 -> 19\n" + whole("p0;d0;d1;"));
    }

    // ---- changes and errors

    private static void changes() {
        Sentences section = new Sentences("Changes and errors");
        holdChanges(section);
        holdHistory(section);
        holdOrderOfErrors(section);
        holdRefusedCalls(section);
        holdNumbersOfNone(section);
        section.close();
    }

    private static void holdChanges(Sentences section) {
        String changes = "The changes are the calls of set, pen, line, leave, refill, take, home, draw, erase, waits, clean "
            + "and play that return no error";
        section.hold(changes, """
            count 11 -> 0
            set 0 60 -> 60
            count 11 -> 1
            undo -> 0
            waits 1 -> 1
            count 11 -> 1
            undo -> 0
            play -> 0
            count 11 -> 1
            undo -> 0
            pen 0 100 0 0 -> 0
            count 11 -> 1
            leave 0 1 -> 0
            count 11 -> 2
            undo -> 1
            line 0 0 9 0 -> 0
            count 11 -> 2
            take 0 -> 0
            count 11 -> 3
            draw 0 0 -> 14
            count 11 -> 4
            undo -> 3
            home -> 0
            count 11 -> 4
            undo -> 3
            undo -> 2
            text p0;d0;
            play -> 2
            count 11 -> 3
            erase 0 -> 0
            count 11 -> 4
            undo -> 3
            refill 0 -> 9
            count 11 -> 4
            undo -> 3
            clean -> 0
            count 11 -> 4
            undo -> 3
            """);
        section.hold(changes, """
            type 112 -> 1
            clearText -> 1
            count 11 -> 0                  # these are none
            set 0 501 -> INVALID
            pen 1 10 0 0 -> IMPOSSIBLE
            line 0 0 0 0 -> INVALID
            leave 0 1 -> INVALID
            refill 0 -> INVALID
            take 0 -> INVALID
            home -> IMPOSSIBLE
            draw 0 0 -> INVALID
            erase 0 -> INVALID
            waits 0 -> INVALID
            clean -> IMPOSSIBLE
            text x
            play -> IMPOSSIBLE
            undo -> IMPOSSIBLE
            count 11 -> 0
            """);
    }

    private static void holdHistory(Sentences section) {
        String history = "A history of at most 4 states is kept: each change records everything before it but the text, "
            + "and if there are 5 states then, the oldest one is dropped";
        section.hold(history, """
            set 0 1 -> 60
            set 0 2 -> 1
            set 0 3 -> 2
            count 11 -> 3
            set 0 4 -> 3
            count 11 -> 4
            undo -> 3
            undo -> 2
            undo -> 1
            undo -> 0
            count 20 -> 60                 # with 4 changes, back to the first state
            undo -> IMPOSSIBLE
            set 0 1 -> 60
            set 0 2 -> 1
            set 0 3 -> 2
            set 0 4 -> 3
            set 0 5 -> 4
            count 11 -> 4
            undo -> 3
            count 20 -> 4
            undo -> 2
            undo -> 1
            undo -> 0
            count 20 -> 1                  # the oldest one was dropped
            undo -> IMPOSSIBLE
            """);
        section.hold(history, """
            pen 0 100 0 0 -> 0
            line 0 0 9 0 -> 0
            take 0 -> 0
            text w1;
            draw 0 0 -> 14
            text w1;w2;
            undo -> 3
            count 12 -> 6                  # the text stays
            count 4 -> 5
            count 6 -> 0
            count 9 -> 1
            count 10 -> 0
            penOf 0 2 -> 100
            penOf 0 3 -> 0
            lineOf 0 5 -> 0
            clearText -> 6
            undo -> 2
            count 12 -> 0
            count 5 -> MISSING
            """);
    }

    private static void holdOrderOfErrors(Sentences section) {
        section.hold("If several errors apply to a call, INVALID_ARGUMENT is returned rather than NOT_POSSIBLE, NOT_POSSIBLE "
            + "rather than LIMIT_REACHED, and LIMIT_REACHED rather than NOT_FOUND", """
            tour -1 0 -> INVALID           # and no pen in the hand
            pen 1 9 0 0 -> INVALID         # and the wrong holder
            pen 0 100 0 0 -> 0
            pen 0 100 0 1 -> 1
            leave 0 2 -> INVALID
            room 0 -> 60
            leave 1 1 -> 1
            room 0 -> MISSING
            leave 0 1 -> 0
            room 0 -> IMPOSSIBLE           # and no other pen
            line 0 0 9 0 -> 0
            line 9 0 9 9 -> 1
            fair 0 -> MISSING
            fair 2 -> INVALID              # and all pens on leave
            leave 0 0 -> 1
            lineOf 0 10 -> INVALID
            lineOf 2 6 -> INVALID          # and not drawn
            draw 0 2 -> INVALID            # and no pen in the hand
            waitFor 0 2 -> INVALID
            take 0 -> 0
            draw 0 0 -> 14
            draw 0 2 -> INVALID            # and drawn
            seamsBy 0 2 -> INVALID
            seamsBy 2 0 -> INVALID
            home -> 0
            leave 0 1 -> 0
            fair 0 -> IMPOSSIBLE           # and all pens on leave
            fault 3 -> INVALID             # and no fault
            tour 99 0 -> IMPOSSIBLE        # and not so many
            """);
        section.hold("INVALID_ARGUMENT is returned rather than NOT_POSSIBLE, NOT_POSSIBLE rather than LIMIT_REACHED", """
            pen 0 100 0 0 -> 0
            pen 0 100 0 1 -> 1
            pen 0 100 2 0 -> 2
            pen 0 100 2 1 -> 3
            pen 1 100 1 0 -> 4
            pen 1 100 1 1 -> LIMIT
            pen 1 100 1 0 -> IMPOSSIBLE
            pen 0 100 1 1 -> IMPOSSIBLE
            pen 1 9 1 0 -> INVALID
            again 16 line 0 0 1 1
            line 0 0 1 1 -> LIMIT
            line 1 1 1 1 -> INVALID
            again 60 type 119
            type 119 -> LIMIT
            type 127 -> INVALID
            leave 1 1 -> 4
            till 99990
            take 0 -> 0
            waits 5 -> 100000
            waits 1 -> LIMIT
            waits 201 -> INVALID
            take 2 -> LIMIT
            take 0 -> IMPOSSIBLE
            take 1 -> IMPOSSIBLE
            take 5 -> INVALID
            home -> LIMIT
            clean -> LIMIT
            set 3 0 -> 5
            home -> 0
            set 3 5 -> 0
            home -> IMPOSSIBLE
            clean -> IMPOSSIBLE
            """);
    }

    private static void holdRefusedCalls(Sentences section) {
        section.hold("A call that returns an error changes nothing", """
            pen 0 100 0 0 -> 0
            line 0 0 9 0 -> 0
            take 0 -> 0
            waits 1 -> 6
            waits 2 -> 8
            waits 3 -> 11
            count 11 -> 4
            set 0 501 -> INVALID
            pen 0 100 0 0 -> IMPOSSIBLE
            line 9 9 9 9 -> INVALID
            leave 0 1 -> IMPOSSIBLE
            refill 0 -> IMPOSSIBLE
            take 0 -> IMPOSSIBLE
            draw 1 0 -> INVALID
            erase 0 -> IMPOSSIBLE
            waits 0 -> INVALID
            text p0;
            play -> IMPOSSIBLE
            count 11 -> 4
            undo -> 3
            count 4 -> 8
            undo -> 2
            count 4 -> 6
            undo -> 1
            count 4 -> 5
            undo -> 0
            count 4 -> 0
            count 5 -> MISSING
            undo -> IMPOSSIBLE
            count 1 -> 1
            """);
    }

    private static void holdNumbersOfNone(Sentences section) {
        section.hold("If there is no pen or line with a certain number, this is INVALID_ARGUMENT", """
            pen 0 100 0 0 -> 0
            pen 0 100 0 1 -> 1
            line 0 0 9 0 -> 0
            line 9 0 9 9 -> 1
            line 9 9 0 0 -> 2
            outside 0 1 leave * 1
            outside 0 1 refill *
            outside 0 1 penOf * 0
            outside 0 2 lineOf * 0
            outside 0 1 take *
            outside 0 2 draw * 0
            outside 0 2 erase *
            outside 0 2 whyNot * 0
            outside 0 2 waitFor * 0
            outside 0 1 room *
            outside 0 2 touch * 0
            outside 0 2 touch 0 *
            outside 0 2 touching *
            outside 0 2 seamsBy * 0
            outside 0 1 seamsBy 0 *
            outside 0 2 fair *
            undo -> 3
            outside 0 1 lineOf * 0
            undo -> 2
            undo -> 1
            undo -> 0
            outside 0 0 penOf * 0
            """);
    }
}
