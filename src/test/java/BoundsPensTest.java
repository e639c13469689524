/** The sentences of promises 1 to 8, each at its bounds: a new object, settings, pens, lines. */
public final class BoundsPensTest {
    private static final String OUT_OF_RANGE = "INVALID_ARGUMENT if an argument is out of range";

    public static void main(String[] args) {
        newObject();
        set();
        pen();
        line();
        leave();
        refill();
        penOf();
        lineOf();
        Script.close();
    }

    private static void newObject() {
        Sentences promise = new Sentences("Promise 1");
        promise.hold("Creates a plotter without pens and lines, at the time 0", """
            count 0 -> 0
            count 1 -> 0
            count 4 -> 0
            penOf 0 0 -> INVALID
            lineOf 0 0 -> INVALID
            undo -> IMPOSSIBLE
            waits 1 -> 1
            pen 0 10 0 0 -> 0
            line 0 0 0 1 -> 0
            """);
        promise.close();
    }

    private static void set() {
        Sentences promise = new Sentences("Promise 2");
        promise.hold("`what`: 0 to 4", """
            outside 0 4 set * 1
            set 0 1 -> 60
            set 4 1 -> 4
            count 20 -> 1
            count 21 -> 40
            count 24 -> 1
            """);
        promise.hold("`value`: a value in its range", """
            outside 0 500 set 0 *
            outside 1 200 set 1 *
            outside 0 100 set 2 *
            outside 0 50 set 3 *
            outside 0 50 set 4 *
            set 0 500 -> 60
            set 0 0 -> 500
            set 1 200 -> 40
            set 1 1 -> 200
            set 2 100 -> 10
            set 2 0 -> 100
            set 3 50 -> 5
            set 3 0 -> 50
            set 4 50 -> 4
            set 4 0 -> 50
            """);
        promise.hold("Sets a setting", """
            set 2 11 -> 10
            count 20 -> 60
            count 21 -> 40
            count 22 -> 11
            count 23 -> 5
            count 24 -> 4
            """);
        promise.hold("Returns what it was", """
            set 3 7 -> 5
            set 3 7 -> 7                   # the same again is a change
            set 3 51 -> INVALID
            set 3 8 -> 7
            undo -> 2
            set 3 9 -> 7
            """);
        promise.hold(OUT_OF_RANGE, """
            set -1 -1 -> INVALID
            set 5 501 -> INVALID
            set 1 0 -> INVALID             # 0 is in the range of all others
            set 1 201 -> INVALID
            set 2 200 -> INVALID           # in the range of setting 1
            set 3 100 -> INVALID           # in the range of setting 2
            set 4 51 -> INVALID
            count 20 -> 60
            count 21 -> 40
            count 22 -> 10
            count 23 -> 5
            count 24 -> 4
            """);
        promise.close();
    }

    private static void pen() {
        Sentences promise = new Sentences("Promise 3");
        promise.hold("`kind`: 0 or 1", """
            outside 0 1 pen * 10 2 0
            pen 0 10 2 0 -> 0
            pen 1 10 2 1 -> 1
            penOf 0 0 -> 0
            penOf 1 0 -> 1
            """);
        promise.hold("`capacity`: 10 to 5000", """
            outside 10 5000 pen 0 * 0 0
            outside 10 5000 pen 1 * 1 0
            pen 0 10 0 0 -> 0
            pen 0 5000 0 1 -> 1
            pen 1 10 1 0 -> 2
            pen 1 5000 1 1 -> 3
            penOf 2 1 -> 10
            penOf 3 1 -> 5000
            """);
        promise.hold("`holder`: 0 to 2", """
            outside 0 2 pen 0 10 * 0
            outside 0 2 pen 1 10 * 1
            pen 0 10 0 0 -> 0
            pen 1 10 1 0 -> 1
            pen 0 10 2 0 -> 2
            penOf 0 5 -> 0
            penOf 1 5 -> 10
            penOf 2 5 -> 20
            """);
        promise.hold("`slot`: 0 or 1", """
            outside 0 1 pen 0 10 0 *
            outside 0 1 pen 1 10 2 *
            pen 0 10 0 1 -> 0
            pen 0 10 0 0 -> 1
            penOf 0 5 -> 1
            penOf 1 5 -> 0
            """);
        promise.hold("Adds a pen", """
            pen 1 77 1 1 -> 0
            count 0 -> 1
            penOf 0 2 -> 77
            penOf 0 3 -> 0
            penOf 0 4 -> 0
            penOf 0 6 -> 0
            penOf 0 7 -> 0
            penOf 0 10 -> 0
            count 5 -> MISSING
            """);
        promise.hold("Returns its number", """
            pen 0 10 0 0 -> 0
            pen 0 10 0 0 -> IMPOSSIBLE
            pen 0 10 0 1 -> 1
            undo -> 1
            pen 1 10 2 1 -> 1
            """);
        promise.hold(OUT_OF_RANGE, """
            pen 2 9 3 2 -> INVALID
            pen 1 10 0 2 -> INVALID        # and the wrong holder
            pen 0 5001 1 0 -> INVALID
            pen 0 10 0 0 -> 0
            pen 0 9 0 0 -> INVALID         # and the home of a pen
            pen -1 10 0 0 -> INVALID
            count 0 -> 1
            """);
        holdHomes(promise);
        promise.close();
    }

    private static void holdHomes(Sentences promise) {
        promise.hold("NOT_POSSIBLE if the slot is the home of a pen, or the holder does not take pens of this kind", """
            pen 1 10 0 0 -> IMPOSSIBLE
            pen 1 10 0 1 -> IMPOSSIBLE
            pen 0 10 1 0 -> IMPOSSIBLE
            pen 0 10 1 1 -> IMPOSSIBLE
            pen 0 10 0 0 -> 0
            pen 0 10 0 0 -> IMPOSSIBLE
            pen 1 10 1 0 -> 1              # the same slot of another holder
            pen 1 10 1 0 -> IMPOSSIBLE
            pen 0 10 2 0 -> 2
            pen 1 10 2 0 -> IMPOSSIBLE     # whatever its kind
            take 0 -> 0
            pen 0 10 0 0 -> IMPOSSIBLE     # it is in the hand
            leave 2 1 -> 2
            pen 0 10 2 0 -> IMPOSSIBLE     # it is on leave
            pen 0 10 2 1 -> 3
            pen 0 10 0 1 -> 4
            """);
        promise.hold("LIMIT_REACHED if there are 5", """
            pen 0 10 0 0 -> 0
            pen 0 10 0 1 -> 1
            pen 0 10 2 0 -> 2
            pen 1 10 1 0 -> 3
            pen 1 10 1 1 -> 4
            pen 0 10 2 1 -> LIMIT
            pen 1 5000 2 1 -> LIMIT
            pen 0 10 2 0 -> IMPOSSIBLE
            pen 0 10 1 0 -> IMPOSSIBLE
            pen 0 10 2 2 -> INVALID
            count 0 -> 5
            leave 0 1 -> 4
            pen 0 10 2 1 -> LIMIT          # one on leave is there, too
            undo -> 3
            undo -> 2
            pen 0 10 2 1 -> 4
            """);
    }

    private static void line() {
        Sentences promise = new Sentences("Promise 4");
        promise.hold("`x`: first end, 0 to 99", """
            outside 0 99 line * 5 7 8
            line 0 5 7 8 -> 0
            line 99 5 7 8 -> 1
            lineOf 0 0 -> 0
            lineOf 1 0 -> 99
            """);
        promise.hold("`y`: first end, 0 to 99", """
            outside 0 99 line 5 * 7 8
            line 5 0 7 8 -> 0
            line 5 99 7 8 -> 1
            lineOf 0 1 -> 0
            lineOf 1 1 -> 99
            """);
        promise.hold("`x2`: second end, 0 to 99", """
            outside 0 99 line 5 6 * 8
            line 5 6 0 8 -> 0
            line 5 6 99 8 -> 1
            lineOf 0 2 -> 0
            lineOf 1 2 -> 99
            """);
        promise.hold("`y2`: second end, 0 to 99", """
            outside 0 99 line 5 6 7 *
            line 5 6 7 0 -> 0
            line 5 6 7 99 -> 1
            lineOf 0 3 -> 0
            lineOf 1 3 -> 99
            """);
        promise.hold("Adds a line", """
            line 9 8 7 6 -> 0
            count 1 -> 1
            lineOf 0 0 -> 9
            lineOf 0 1 -> 8
            lineOf 0 2 -> 7
            lineOf 0 3 -> 6
            lineOf 0 5 -> 0
            """);
        promise.hold("Returns its number", """
            line 0 0 1 1 -> 0
            line 1 1 1 1 -> INVALID
            line 0 0 1 1 -> 1              # the same again is another one
            undo -> 1
            line 5 5 6 6 -> 1
            """);
        promise.hold("INVALID_ARGUMENT if an argument is out of range or both ends are the same", """
            line 0 0 0 0 -> INVALID
            line 99 99 99 99 -> INVALID
            line 100 100 100 100 -> INVALID
            line -1 -1 -1 -1 -> INVALID
            line 5 5 5 6 -> 0              # one coordinate is enough
            line 5 5 4 5 -> 1
            line 5 6 6 5 -> 2
            count 1 -> 3
            """);
        promise.hold("LIMIT_REACHED if there are 16", """
            again 15 line 0 0 1 1
            line 0 0 1 1 -> 15
            line 0 0 1 1 -> LIMIT
            line 0 0 0 0 -> INVALID        # rather than the limit
            line 0 0 0 100 -> INVALID
            count 1 -> 16
            undo -> 3
            line 0 0 1 1 -> 15
            line 0 0 1 1 -> LIMIT
            """);
        promise.close();
    }

    private static void leave() {
        Sentences promise = new Sentences("Promise 5");
        promise.hold("`pen`: number of the pen", """
            leave 0 1 -> INVALID
            pen 0 10 0 0 -> 0
            pen 0 10 0 1 -> 1
            outside 0 1 leave * 1
            outside 0 1 leave * 0
            leave 1 1 -> 1
            leave 0 1 -> 0
            """);
        promise.hold("`is`: 1 or 0", """
            pen 0 10 0 0 -> 0
            outside 0 1 leave 0 *
            leave 0 1 -> 0
            outside 0 1 leave 0 *
            leave 0 0 -> 1
            """);
        promise.hold("Gives a pen leave, or ends it", """
            pen 0 10 0 0 -> 0
            penOf 0 7 -> 0
            leave 0 1 -> 0
            penOf 0 7 -> 1
            leave 0 0 -> 1
            penOf 0 7 -> 0
            """);
        promise.hold("Returns how many pens are not on leave then", """
            pen 0 10 0 0 -> 0
            leave 0 1 -> 0
            pen 0 10 0 1 -> 1
            pen 0 10 2 0 -> 2
            pen 1 10 1 0 -> 3
            pen 1 10 1 1 -> 4
            leave 4 1 -> 3
            leave 0 0 -> 4
            leave 4 0 -> 5
            take 2 -> 0
            leave 3 1 -> 4                 # the one in the hand counts
            """);
        promise.hold(OUT_OF_RANGE, """
            pen 0 10 0 0 -> 0
            leave 1 2 -> INVALID
            leave 0 2 -> INVALID
            leave 1 0 -> INVALID           # and not on leave
            take 0 -> 0
            leave 0 -1 -> INVALID          # and in the hand
            """);
        promise.hold("NOT_POSSIBLE if it is so already, or the pen is in the hand", """
            pen 0 10 0 0 -> 0
            pen 0 10 0 1 -> 1
            leave 0 0 -> IMPOSSIBLE
            leave 0 1 -> 1
            leave 0 1 -> IMPOSSIBLE
            take 1 -> 0
            leave 1 1 -> IMPOSSIBLE
            leave 1 0 -> IMPOSSIBLE
            leave 0 0 -> 2                 # another one is in the hand
            home -> 1
            leave 1 1 -> 1
            """);
        promise.close();
    }

    private static void refill() {
        Sentences promise = new Sentences("Promise 6");
        String drawn = """
            pen 0 10 0 0 -> 0
            line 0 0 9 0 -> 0
            line 9 0 9 1 -> 1
            take 0 -> 0
            draw 0 0 -> 14
            """;
        promise.hold("`pen`: number of the pen", "refill 0 -> INVALID\n" + drawn + """
            outside 0 0 refill *
            pen 0 10 0 1 -> 1
            outside 0 1 refill *
            refill 0 -> 9
            """);
        promise.hold("Fills a pen up to its capacity", drawn + """
            whyNot 1 0 -> 0
            draw 1 0 -> 15
            penOf 0 2 -> 0
            refill 0 -> 10                 # from empty
            penOf 0 2 -> 10
            penOf 0 3 -> 10                # what it has drawn stays
            """);
        promise.hold("Returns the ink that was filled in", drawn + """
            refill 0 -> 9
            undo -> 3
            home -> 0
            leave 0 1 -> 0
            refill 0 -> 9                  # wherever it is
            """);
        promise.hold("INVALID_ARGUMENT; NOT_POSSIBLE if it is full", """
            pen 1 10 1 0 -> 0
            refill 0 -> IMPOSSIBLE
            line 0 0 1 0 -> 0
            take 0 -> 0
            draw 0 0 -> 6
            refill 1 -> INVALID
            refill 0 -> 2                  # a length of 1 is missing
            refill 0 -> IMPOSSIBLE
            refill 1 -> INVALID
            """);
        promise.close();
    }

    private static void penOf() {
        Sentences promise = new Sentences("Promise 7");
        promise.hold("`pen`: number of the pen", """
            penOf 0 0 -> INVALID
            pen 1 20 2 1 -> 0
            outside 0 0 penOf * 0
            pen 0 30 0 0 -> 1
            outside 0 1 penOf * 10
            """);
        promise.hold("`what`: 0: its kind; 1: its capacity; 2: its ink; 3: its drawn length; 4: its idle ticks; "
            + "5: ten times the holder plus the slot of its home; 6: 1 if it is in the hand, otherwise 0", """
            pen 1 20 2 1 -> 0
            pen 0 30 0 0 -> 1
            pen 1 40 1 1 -> 2
            line 0 0 4 0 -> 0
            penOf 0 0 -> 1
            penOf 1 0 -> 0
            penOf 0 1 -> 20
            penOf 1 1 -> 30
            penOf 0 5 -> 21
            penOf 1 5 -> 0
            penOf 2 5 -> 11
            penOf 0 6 -> 0
            take 0 -> 0
            penOf 0 6 -> 1
            penOf 1 6 -> 0
            draw 0 0 -> 9
            penOf 0 1 -> 20
            penOf 0 2 -> 12
            penOf 0 3 -> 4
            penOf 0 4 -> 0
            waits 3 -> 12
            penOf 0 4 -> 3
            penOf 1 2 -> 30
            penOf 1 3 -> 0
            penOf 1 4 -> 0
            """);
        promise.hold("7: 1 if it is on leave, otherwise 0; 8: 1 if it strikes, otherwise 0; "
            + "9: 1 if it is clogged, otherwise 0; 10: how many lines are drawn by it now", """
            pen 0 100 0 0 -> 0
            pen 0 100 0 1 -> 1
            line 0 0 4 0 -> 0
            line 4 0 4 4 -> 1
            penOf 0 7 -> 0
            penOf 0 10 -> 0
            set 0 8 -> 60
            take 0 -> 0
            draw 0 0 -> 9
            penOf 0 10 -> 1
            draw 1 0 -> 13
            penOf 0 10 -> 2
            penOf 1 10 -> 0
            penOf 0 8 -> 0                 # 8 more than the least
            set 0 7 -> 8
            penOf 0 8 -> 1
            penOf 1 8 -> 0
            waits 40 -> 53
            penOf 0 9 -> 0
            waits 1 -> 54
            penOf 0 9 -> 1
            penOf 1 9 -> 0
            erase 0 -> 0
            penOf 0 10 -> 1
            penOf 0 8 -> 1                 # what it has drawn stays
            home -> 0
            leave 0 1 -> 1
            penOf 0 7 -> 1
            penOf 0 8 -> 0
            penOf 0 9 -> 1
            penOf 0 10 -> 1
            """);
        promise.hold("Returns something of a pen", "pen 0 10 0 0 -> 0\npenOf 0 1 -> 10\n");
        promise.hold("Returns the number; " + OUT_OF_RANGE, """
            penOf 0 11 -> INVALID
            pen 0 10 0 0 -> 0
            outside 0 10 penOf 0 *
            penOf 0 0 -> 0
            penOf 0 10 -> 0
            penOf 1 11 -> INVALID
            penOf -1 -1 -> INVALID
            """);
        promise.close();
    }

    private static void lineOf() {
        Sentences promise = new Sentences("Promise 8");
        promise.hold("`line`: number of the line", """
            lineOf 0 0 -> INVALID
            line 0 0 1 0 -> 0
            outside 0 0 lineOf * 0
            again 15 line 1 1 5 5
            outside 0 15 lineOf * 0
            lineOf 15 0 -> 1
            """);
        promise.hold("`what`: 0 to 3: x and y of its first end, x and y of its second end; 4: its length; "
            + "5: 1 if it is drawn, otherwise 0; 6: the pen by which it is drawn; 7: the time when it was done; "
            + "8: 1 if it is wet now, otherwise 0; 9: the bits of its shade", """
            pen 0 20 0 0 -> 0
            pen 0 20 0 1 -> 1
            line 3 2 8 4 -> 0
            line 8 4 8 3 -> 1
            lineOf 0 0 -> 3
            lineOf 0 1 -> 2
            lineOf 0 2 -> 8
            lineOf 0 3 -> 4
            lineOf 0 4 -> 5
            lineOf 0 5 -> 0
            lineOf 0 8 -> 0
            take 1 -> 0
            draw 0 0 -> 13                 # 3 there, 5 along
            lineOf 0 5 -> 1
            lineOf 0 6 -> 1
            lineOf 0 7 -> 13
            lineOf 0 8 -> 1
            lineOf 0 9 -> 20/20
            draw 1 0 -> 14
            lineOf 1 7 -> 14
            lineOf 1 9 -> 15/20
            lineOf 0 7 -> 13
            waits 8 -> 22
            lineOf 0 8 -> 1
            waits 1 -> 23
            lineOf 0 8 -> 0
            lineOf 1 8 -> 1
            waits 1 -> 24
            lineOf 1 8 -> 0
            """);
        promise.hold("Returns something of a line", "line 4 5 6 8 -> 0\nlineOf 0 4 -> 3\n");
        promise.hold("Returns the number; " + OUT_OF_RANGE, """
            lineOf 0 10 -> INVALID
            line 4 5 6 7 -> 0
            outside 0 9 lineOf 0 *
            lineOf 0 0 -> 4
            lineOf 1 6 -> INVALID          # rather than not found
            lineOf -1 9 -> INVALID
            """);
        promise.hold("NOT_FOUND for 6, 7 and 9 if it is not drawn", """
            pen 0 20 0 0 -> 0
            line 0 0 5 0 -> 0
            lineOf 0 5 -> 0
            lineOf 0 6 -> MISSING
            lineOf 0 7 -> MISSING
            lineOf 0 8 -> 0
            lineOf 0 9 -> MISSING
            take 0 -> 0
            draw 0 0 -> 10
            lineOf 0 6 -> 0
            lineOf 0 7 -> 10
            lineOf 0 9 -> 1/1
            erase 0 -> 0
            lineOf 0 5 -> 0
            lineOf 0 6 -> MISSING
            lineOf 0 7 -> MISSING
            lineOf 0 8 -> 0
            lineOf 0 9 -> MISSING
            undo -> 3
            lineOf 0 6 -> 0
            lineOf 0 7 -> 10
            lineOf 0 8 -> 1
            lineOf 0 9 -> 1/1
            """);
        promise.close();
    }
}
