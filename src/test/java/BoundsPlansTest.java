/** The sentences of promises 25 to 29, each at its bounds: plans, counts, the history. */
public final class BoundsPlansTest {
    private static final String TWO_PENS = """
        pen 0 500 0 0 -> 0
        pen 0 500 0 1 -> 1
        """;
    private static final String ALL_AWAY = "NOT_FOUND if all pens are on leave";

    public static void main(String[] args) {
        fair();
        fairSpread();
        tour();
        count();
        undo();
        Script.close();
    }

    private static void fair() {
        Sentences promise = new Sentences("Promise 25");
        promise.hold("`line`: number of the line", "fair 0 -> INVALID\n" + TWO_PENS + """
            again 16 line 0 0 9 0
            outside 0 15 fair *
            fair 0 -> 0
            fair 15 -> 1
            """);
        promise.hold("Returns the pen to which the fair plan gives a line", TWO_PENS + """
            line 0 0 9 0 -> 0
            line 0 1 9 1 -> 1
            fair 0 -> 0
            fair 1 -> 1
            line 0 2 10 2 -> 2
            fair 2 -> 0
            fair 0 -> 1
            fair 1 -> 1
            """);
        promise.hold("Returns the number of the pen", """
            line 0 0 9 0 -> 0
            pen 0 500 0 0 -> 0
            pen 0 500 0 1 -> 1
            pen 0 500 2 0 -> 2
            pen 1 500 1 0 -> 3
            pen 1 500 1 1 -> 4
            fair 0 -> 0
            leave 0 1 -> 4
            leave 1 1 -> 3
            leave 2 1 -> 2
            fair 0 -> 3
            leave 3 1 -> 1
            fair 0 -> 4
            leave 0 0 -> 2
            fair 0 -> 0
            """);
        promise.hold("INVALID_ARGUMENT; NOT_POSSIBLE if it is drawn; " + ALL_AWAY, """
            line 0 0 9 0 -> 0
            line 0 1 9 1 -> 1
            fair 0 -> MISSING              # without pens none is not on leave
            fair 2 -> INVALID              # rather than not found
            pen 0 500 0 0 -> 0
            fair 0 -> 0
            take 0 -> 0
            draw 0 0 -> 14
            fair 0 -> IMPOSSIBLE
            fair 1 -> 0
            home -> 0
            leave 0 1 -> 0
            fair 0 -> IMPOSSIBLE           # rather than not found
            fair 1 -> MISSING
            fair 2 -> INVALID
            erase 0 -> 0
            fair 0 -> MISSING
            """);
        promise.close();
    }

    private static void fairSpread() {
        Sentences promise = new Sentences("Promise 26");
        promise.hold("Returns the spread that there would be if all lines were drawn by the fair plan", TWO_PENS + """
            fairSpread -> 0
            line 0 0 9 0 -> 0
            fairSpread -> 9
            line 9 0 9 8 -> 1
            fairSpread -> 1                # 9 and 8
            line 9 8 9 7 -> 2
            fairSpread -> 0                # 9 and 9
            take 1 -> 0
            draw 0 0 -> 14
            fairSpread -> 0                # 9 drawn, 8 and 1
            spread -> 9
            erase 0 -> 1
            fairSpread -> 7                # 9 and 9, then 8 to pen 0 and 1 to pen 1
            """);
        promise.hold("Returns the difference; " + ALL_AWAY, """
            fairSpread -> MISSING
            line 0 0 9 0 -> 0
            fairSpread -> MISSING
            pen 0 500 0 0 -> 0
            fairSpread -> 0
            leave 0 1 -> 0
            fairSpread -> MISSING
            pen 0 500 0 1 -> 1
            fairSpread -> 0                # one pen alone
            leave 0 0 -> 2
            fairSpread -> 9
            """);
        promise.close();
    }

    private static void tour() {
        Sentences promise = new Sentences("Promise 27");
        String lines = """
            pen 0 500 0 0 -> 0
            line 9 0 1 0 -> 0
            line 9 1 9 9 -> 1
            """;
        promise.hold("`index`: 0 for the first line of it, and so on", lines + """
            take 0 -> 0
            tour 0 0 -> 0
            tour 1 0 -> 1
            tour 2 0 -> MISSING
            tour 2147483647 0 -> MISSING
            again 14 line 20 20 30 20
            tour 15 0 -> 15
            tour 15 2 -> 169               # 18, 11 there, 14 times 10 along, to and fro
            tour 16 0 -> MISSING
            """);
        promise.hold("`what`: 0: the line; 1: 0 if it is drawn from its first end, 1 if from its second end; "
            + "2: the ticks from now till it is done, travel and drawing", lines + """
            take 0 -> 0
            tour 0 0 -> 0
            tour 0 1 -> 1
            tour 0 2 -> 9                  # 1 there, 8 along
            tour 1 0 -> 1
            tour 1 1 -> 0
            tour 1 2 -> 18
            waits 1 -> 6
            tour 1 2 -> 18                 # from now
            draw 0 1 -> 15
            tour 0 0 -> 1
            tour 0 2 -> 9
            """);
        promise.hold("`what`: 0: the line; 1: 0 if it is drawn from its first end, 1 if from its second end", """
            pen 0 500 0 0 -> 0
            line 0 30 0 20 -> 0
            line 5 20 9 40 -> 1
            line 9 60 9 50 -> 2
            line 9 5 9 15 -> 3
            take 0 -> 0
            tour 0 0 -> 3                  # 9 away
            tour 0 1 -> 0
            tour 0 2 -> 19
            tour 1 0 -> 1                  # 5 away, from 9, 15
            tour 1 1 -> 0
            tour 1 2 -> 44
            tour 2 0 -> 0                  # 10 away, from 9, 40, as line 2 is
            tour 2 1 -> 0
            tour 2 2 -> 64
            tour 3 0 -> 2                  # 30 away, from 0, 20
            tour 3 1 -> 1
            tour 3 2 -> 104
            """);
        promise.hold("Returns something of the tour of the pen in the hand", lines + """
            pen 0 500 0 1 -> 1
            take 0 -> 0
            tour 0 0 -> 0
            tour 1 0 -> MISSING
            take 1 -> 1
            tour 0 0 -> 1
            tour 1 0 -> MISSING
            """);
        promise.hold("Returns the number; INVALID_ARGUMENT if index is negative or what is out of range", lines + """
            outside 0 2 tour 0 *
            tour -1 0 -> INVALID           # and no pen in the hand
            tour -2147483648 2 -> INVALID
            take 0 -> 0
            outside 0 2 tour 0 *
            tour -1 0 -> INVALID
            tour 9 3 -> INVALID            # and not so many
            tour -1 3 -> INVALID
            tour 0 0 -> 0
            tour 0 2 -> 9
            """);
        promise.hold("NOT_POSSIBLE if no pen is in the hand; NOT_FOUND if there are not so many", """
            tour 0 0 -> IMPOSSIBLE
            """ + lines + """
            tour 0 0 -> IMPOSSIBLE
            tour 2 0 -> IMPOSSIBLE         # rather than not found
            take 0 -> 0
            tour 1 0 -> 1
            tour 2 0 -> MISSING
            draw 0 1 -> 14
            tour 1 0 -> MISSING
            draw 1 0 -> 23
            tour 0 0 -> MISSING            # none is left
            home -> 0
            tour 0 0 -> IMPOSSIBLE
            """);
        promise.close();
    }

    private static void count() {
        Sentences promise = new Sentences("Promise 28");
        promise.hold("`what`: 0: pens; 1: lines; 2: drawn lines; 3: wet lines now; 4: the time; 5: the pen in the hand; "
            + "6: x of the hand; 7: y of the hand; 8: the length of all lines that are not drawn; 9: swaps so far; "
            + "10: ticks of travel so far; 11: states in the history; 12: the length of the text; "
            + "20 to 24: the settings 0 to 4", TWO_PENS + """
            count 0 -> 2
            line 3 0 9 2 -> 0
            line 9 9 9 2 -> 1
            count 1 -> 2
            count 2 -> 0
            count 3 -> 0
            count 8 -> 13
            take 1 -> 0
            count 5 -> 1
            draw 0 0 -> 14
            count 2 -> 1
            count 3 -> 1
            count 4 -> 14
            count 6 -> 9
            count 7 -> 2
            count 8 -> 7
            count 9 -> 1
            count 10 -> 3
            draw 1 0 -> 28                 # 7 there
            count 2 -> 2
            count 3 -> 1                   # line 0 was wet till 24
            count 7 -> 2
            count 8 -> 0
            count 10 -> 10
            home -> 1
            count 9 -> 2
            count 10 -> 10
            erase 0 -> 1
            count 2 -> 1
            count 8 -> 6
            count 11 -> 4
            undo -> 3
            count 11 -> 3
            undo -> 2
            count 9 -> 1
            undo -> 1
            count 10 -> 3
            text w1;
            count 12 -> 3
            set 0 1 -> 60
            set 1 2 -> 40
            set 2 3 -> 10
            set 3 4 -> 5
            set 4 6 -> 4
            count 20 -> 1
            count 21 -> 2
            count 22 -> 3
            count 23 -> 4
            count 24 -> 6
            """);
        promise.hold("Returns a number", "count 20 -> 60\n");
        promise.hold("Returns the number; INVALID_ARGUMENT if what is out of range", """
            outside 0 24 count *
            outside 0 12 count *
            count 12 -> 0
            count 13 -> INVALID
            count 19 -> INVALID
            count 20 -> 60
            count 24 -> 4
            count 25 -> INVALID
            """);
        promise.hold("NOT_FOUND for 5 if there is none", TWO_PENS + """
            count 5 -> MISSING
            take 0 -> 0
            count 5 -> 0
            home -> 0
            count 5 -> MISSING
            """);
        promise.close();
    }

    private static void undo() {
        Sentences promise = new Sentences("Promise 29");
        promise.hold("Restores the latest state of the history, which is removed from it", TWO_PENS + """
            line 0 0 9 0 -> 0
            take 0 -> 0
            draw 0 0 -> 14
            undo -> 3
            count 4 -> 5
            count 6 -> 0
            count 10 -> 0
            lineOf 0 5 -> 0
            penOf 0 2 -> 500
            penOf 0 3 -> 0
            count 5 -> 0
            undo -> 2
            count 5 -> MISSING
            count 9 -> 0
            count 4 -> 0
            line 9 9 0 0 -> 1
            undo -> 2                      # the one that is new
            count 1 -> 1
            undo -> 1
            count 1 -> 0
            """);
        promise.hold("Returns the number of states that are left in the history", """
            waits 1 -> 1
            waits 1 -> 2
            waits 1 -> 3
            waits 1 -> 4
            waits 1 -> 5
            undo -> 3
            waits 1 -> 5
            undo -> 3
            undo -> 2
            undo -> 1
            undo -> 0
            count 4 -> 1
            """);
        promise.hold("NOT_POSSIBLE if it is empty", """
            undo -> IMPOSSIBLE
            waits 1 -> 1
            undo -> 0
            undo -> IMPOSSIBLE
            again 9 waits 1
            undo -> 3
            undo -> 2
            undo -> 1
            undo -> 0
            undo -> IMPOSSIBLE
            count 4 -> 5
            """);
        promise.close();
    }
}
