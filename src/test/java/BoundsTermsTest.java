/** The sentences of the terms on grid, lines, pens and settings, each at its bounds. */
public final class BoundsTermsTest {
    public static void main(String[] args) {
        calls();
        terms();
        gridAndLines();
        pens();
        settings();
        Script.close();
    }

    private static void calls() {
        Sentences section = new Sentences("What it is");
        section.hold("An object is used for at most 512 calls after it has been made", """
            again 500 waits 200
            again 10 type 59
            type 59 -> 11
            waits 1 -> LIMIT               # the 512th call
            """);
    }

    private static void terms() {
        Sentences section = new Sentences("Terms");
        section.hold("All numbers are whole numbers but shades", """
            pen 0 30 0 0 -> 0
            line 0 0 10 0 -> 0
            line 10 0 11 0 -> 1
            take 0 -> 0
            draw 0 0 -> 15
            draw 1 0 -> 16
            lineOf 1 9 -> 20/30
            """);
        section.hold("Time is told in ticks, 0 at first", """
            count 4 -> 0
            waits 1 -> 1
            count 4 -> 1
            """);
        section.hold("Sets are told as bits: bit k is for number k", """
            strikers -> 0
            line 0 0 1 0 -> 0
            touching 0 -> 0
            again 14 line 5 5 6 6
            line 1 0 1 1 -> 15
            touching 0 -> 32768            # bit 15
            touching 15 -> 1               # bit 0
            touching 1 -> 32764            # bits 2 to 14
            pen 0 100 0 0 -> 0
            pen 0 100 0 1 -> 1
            pen 1 100 1 0 -> 2
            pen 1 100 1 1 -> 3
            pen 1 100 2 0 -> 4
            set 0 0 -> 60
            set 2 0 -> 10
            take 4 -> 0
            draw 0 0 -> 6
            strikers -> 16                 # bit 4
            take 0 -> 5
            draw 15 0 -> 12
            strikers -> 17                 # bits 0 and 4
            """);
        section.close();
    }

    private static void gridAndLines() {
        Sentences section = new Sentences("Grid and lines");
        section.hold("Points have two coordinates, x and y, 0 to 99 each", """
            line 0 0 99 99 -> 0
            line 99 0 0 99 -> 1
            lineOf 1 0 -> 99
            lineOf 1 1 -> 0
            lineOf 1 2 -> 0
            lineOf 1 3 -> 99
            outside 0 99 line * 5 7 8
            outside 0 99 line 7 * 6 8
            outside 0 99 line 7 8 * 5
            outside 0 99 line 7 8 6 *
            count 1 -> 2
            """);
        section.hold("The distance of two points is the greater one of both differences of their coordinates", """
            line 3 5 10 6 -> 0
            lineOf 0 4 -> 7
            line 6 10 5 3 -> 1
            lineOf 1 4 -> 7
            line 9 0 0 9 -> 2
            lineOf 2 4 -> 9                # both are the same
            line 10 20 18 29 -> 3
            lineOf 3 4 -> 9
            line 10 20 19 28 -> 4
            lineOf 4 4 -> 9
            line 40 30 40 39 -> 5
            pen 0 100 0 0 -> 0
            take 0 -> 0
            draw 5 0 -> 54                 # 40 there, 9 along
            count 10 -> 40
            """);
        section.hold("A line goes from its first end to its second end, which is another point; "
            + "its length is the distance of its ends", """
            line 0 0 0 0 -> INVALID
            line 4 4 4 4 -> INVALID
            line 99 99 99 99 -> INVALID
            line 4 4 4 5 -> 0
            lineOf 0 4 -> 1
            line 4 4 3 4 -> 1
            lineOf 1 4 -> 1
            line 4 4 5 3 -> 2
            lineOf 2 4 -> 1
            line 0 50 99 50 -> 3
            lineOf 3 4 -> 99
            line 99 99 0 0 -> 4
            lineOf 4 4 -> 99
            lineOf 4 0 -> 99
            lineOf 4 2 -> 0
            """);
        holdLines(section);
        holdTouching(section);
        section.close();
    }

    private static void holdLines(Sentences section) {
        section.hold("There are at most 16 lines, numbered from 0; a line is drawn (by a pen) or not", """
            lineOf 0 5 -> INVALID
            line 0 0 1 0 -> 0
            again 14 line 5 5 6 6
            count 1 -> 15
            lineOf 15 5 -> INVALID
            line 1 0 1 1 -> 15
            lineOf 15 5 -> 0
            line 2 2 3 3 -> LIMIT
            lineOf 16 5 -> INVALID
            count 1 -> 16
            pen 0 100 0 0 -> 0
            take 0 -> 0
            draw 15 1 -> 7
            lineOf 15 5 -> 1
            lineOf 15 6 -> 0
            lineOf 14 5 -> 0
            erase 15 -> 0
            lineOf 15 5 -> 0
            """);
    }

    private static void holdTouching(Sentences section) {
        String touch = "Two lines touch if they have a point in common, as straight lines between their ends "
            + "(not only points of the grid)";
        section.hold(touch, """
            line 0 0 99 98 -> 0
            line 98 97 99 99 -> 1          # they cross between the points of the grid
            touch 0 1 -> 1
            line 98 97 98 96 -> 2          # as near as can be
            touch 0 2 -> 0
            line 99 98 99 99 -> 3          # both end there
            touch 0 3 -> 1
            line 99 97 98 95 -> 4
            touch 0 4 -> 0
            line 97 96 96 95 -> 5          # side by side, as near as can be
            touch 0 5 -> 0
            line 97 97 98 97 -> 6          # from one side to the other
            touch 0 6 -> 1
            """);
        section.hold(touch, """
            line 20 0 30 0 -> 0
            line 31 0 40 0 -> 1            # a gap of one on one straight line
            touch 0 1 -> 0
            line 30 0 31 0 -> 2
            touch 0 2 -> 1
            touch 1 2 -> 1
            line 25 0 25 9 -> 3            # an end on it
            touch 0 3 -> 1
            line 25 1 25 9 -> 4            # an end beside it
            touch 0 4 -> 0
            line 22 0 28 0 -> 5            # inside of it
            touch 0 5 -> 1
            touch 5 0 -> 1
            touch 5 1 -> 0
            line 20 1 30 1 -> 6            # beside it
            touch 0 6 -> 0
            line 19 1 21 0 -> 7
            touch 0 7 -> 1
            line 18 1 19 0 -> 8            # ends ahead of it
            touch 0 8 -> 0
            """);
        section.hold(touch, """
            line 50 20 50 30 -> 0
            line 50 31 50 40 -> 1          # a gap of one, upright
            line 50 40 50 31 -> 2
            line 50 10 50 19 -> 3
            line 50 19 50 10 -> 4
            touching 0 -> 0
            touching 1 -> 4
            touching 3 -> 16
            line 50 19 50 20 -> 5
            touching 5 -> 25
            line 50 31 50 30 -> 6
            touching 6 -> 7
            line 50 28 50 22 -> 7          # inside of it
            touching 7 -> 1
            line 50 99 50 0 -> 8           # over all of them
            touching 8 -> 255
            line 1 1 51 50 -> 9            # side by side, as near as can be
            line 0 0 50 49 -> 10
            touching 10 -> 256             # line 8 alone
            touching 9 -> 256
            line 0 1 1 1 -> 11             # an end upon one of them
            touching 11 -> 512
            """);
    }

    private static void pens() {
        Sentences section = new Sentences("Pens");
        section.hold("There are at most 5 pens, numbered from 0, each of a kind: 0 fine, 1 broad", """
            penOf 0 0 -> INVALID
            pen 0 10 0 0 -> 0
            pen 1 10 1 0 -> 1
            pen 0 10 0 1 -> 2
            pen 1 10 1 1 -> 3
            penOf 4 0 -> INVALID
            pen 0 10 2 0 -> 4
            penOf 4 0 -> 0
            penOf 3 0 -> 1
            pen 0 10 2 1 -> LIMIT
            pen 1 10 2 1 -> LIMIT
            penOf 5 0 -> INVALID
            count 0 -> 5
            outside 0 1 pen * 10 2 1
            """);
        section.hold("A pen has a capacity (10 to 5000), ink (as much as its capacity at first), a drawn length "
            + "(0 at first), idle ticks (0 at first) and a home, which is a slot of a holder", """
            outside 10 5000 pen 0 * 0 0
            pen 0 10 0 0 -> 0
            pen 1 5000 1 1 -> 1
            penOf 0 1 -> 10
            penOf 0 2 -> 10
            penOf 0 3 -> 0
            penOf 0 4 -> 0
            penOf 0 5 -> 0
            penOf 1 1 -> 5000
            penOf 1 2 -> 5000
            penOf 1 3 -> 0
            penOf 1 4 -> 0
            penOf 1 5 -> 11
            """);
        section.hold("There are three holders with 2 slots each: holder 0 takes fine pens alone, "
            + "holder 1 broad ones alone, holder 2 all", """
            outside 0 2 pen 0 10 * 0
            outside 0 1 pen 0 10 2 *
            pen 1 10 0 0 -> IMPOSSIBLE
            pen 1 10 0 1 -> IMPOSSIBLE
            pen 0 10 1 0 -> IMPOSSIBLE
            pen 0 10 1 1 -> IMPOSSIBLE
            pen 0 10 0 0 -> 0
            pen 0 10 0 1 -> 1
            pen 0 10 2 0 -> 2
            pen 1 10 2 1 -> 3
            pen 1 10 1 0 -> 4
            undo -> 3
            pen 1 10 1 1 -> 4
            penOf 4 5 -> 11
            """);
        section.hold("One pen at most is in the hand, all others are at home", """
            pen 0 10 0 0 -> 0
            pen 0 10 0 1 -> 1
            count 5 -> MISSING
            penOf 0 6 -> 0
            take 0 -> 0
            penOf 0 6 -> 1
            penOf 1 6 -> 0
            take 1 -> 1
            penOf 0 6 -> 0
            penOf 1 6 -> 1
            count 5 -> 1
            home -> 1
            penOf 1 6 -> 0
            """);
        section.hold("A pen can be on leave; such a pen is at home", """
            pen 0 10 0 0 -> 0
            take 0 -> 0
            leave 0 1 -> IMPOSSIBLE
            home -> 0
            leave 0 1 -> 0
            penOf 0 6 -> 0
            take 0 -> IMPOSSIBLE
            leave 0 0 -> 1
            take 0 -> 0
            """);
        section.hold("By a length a fine pen uses as much ink, a broad one twice as much", """
            pen 0 10 0 0 -> 0
            pen 1 20 1 0 -> 1
            pen 1 19 1 1 -> 2
            line 0 0 10 0 -> 0
            line 10 0 0 0 -> 1
            set 2 0 -> 10
            take 2 -> 0
            whyNot 0 0 -> 4                # 1 too little
            take 0 -> 3
            draw 0 0 -> 20
            penOf 0 2 -> 0
            take 1 -> 1
            draw 1 0 -> 35
            penOf 1 2 -> 0
            """);
        holdIdleTicks(section);
        holdStrikes(section);
        section.close();
    }

    private static void holdIdleTicks(Sentences section) {
        section.hold("While a pen is in the hand, each tick in which it does not draw is an idle tick of it; "
            + "as soon as it draws, its idle ticks become 0", """
            pen 0 100 0 0 -> 0
            line 3 0 9 0 -> 0
            take 0 -> 0
            penOf 0 4 -> 0
            waits 1 -> 6
            penOf 0 4 -> 1
            draw 0 0 -> 15                 # 3 ticks of travel ahead
            penOf 0 4 -> 0
            waits 2 -> 17
            penOf 0 4 -> 2
            """);
        section.hold("At home they stay as they are", """
            pen 0 100 0 0 -> 0
            pen 0 100 0 1 -> 1
            waits 200 -> 200
            penOf 0 4 -> 0
            take 0 -> 0
            waits 3 -> 208
            home -> 0
            penOf 0 4 -> 8
            waits 200 -> 413
            penOf 0 4 -> 8
            take 1 -> 0
            waits 7 -> 425
            penOf 0 4 -> 8
            take 0 -> 2
            penOf 0 4 -> 8
            penOf 1 4 -> 12
            clean -> 8
            penOf 0 4 -> 0
            penOf 1 4 -> 12                # cleaning is for the one in the hand
            """);
        section.hold("At home they stay as they are", """
            pen 0 100 0 0 -> 0
            take 0 -> 0
            waits 41 -> 46
            home -> 0
            penOf 0 9 -> 1                 # clogged at home, too
            leave 0 1 -> 0
            penOf 0 9 -> 1
            waits 200 -> 251
            penOf 0 4 -> 46
            leave 0 0 -> 1
            take 0 -> 0
            penOf 0 9 -> 1
            """);
        section.hold("A pen is clogged if its idle ticks are above the limit; cleaning makes them 0", """
            pen 0 100 0 0 -> 0
            take 0 -> 0
            waits 40 -> 45
            penOf 0 9 -> 0
            waits 1 -> 46
            penOf 0 9 -> 1
            set 1 41 -> 40
            penOf 0 9 -> 0
            set 1 1 -> 41
            penOf 0 9 -> 1
            clean -> 41
            penOf 0 4 -> 0
            penOf 0 9 -> 0
            waits 1 -> 51
            penOf 0 9 -> 0
            waits 1 -> 52
            penOf 0 9 -> 1
            set 1 200 -> 1
            waits 198 -> 250
            penOf 0 9 -> 0
            waits 1 -> 251
            penOf 0 9 -> 1
            """);
    }

    private static void holdStrikes(Sentences section) {
        String strike = "A pen that is not on leave strikes if its drawn length is above the least drawn length "
            + "of all pens that are not on leave by more than the bound";
        section.hold(strike, """
            pen 0 500 0 0 -> 0
            pen 0 500 0 1 -> 1
            line 0 0 60 0 -> 0
            line 60 0 61 0 -> 1
            take 0 -> 0
            draw 0 0 -> 65
            strikers -> 0                  # by 60, which is the bound
            draw 1 0 -> 66
            strikers -> 1                  # by 61
            set 0 61 -> 60
            strikers -> 0
            set 0 60 -> 61
            penOf 0 8 -> 1
            penOf 1 8 -> 0
            """);
        section.hold(strike, """
            pen 0 500 0 0 -> 0
            pen 0 500 0 1 -> 1
            pen 0 500 2 0 -> 2
            line 0 0 9 0 -> 0
            line 9 0 9 8 -> 1
            set 0 0 -> 60
            take 0 -> 0
            draw 0 0 -> 14
            strikers -> 1
            leave 1 1 -> 2
            strikers -> 1                  # pen 2 has drawn as little
            leave 2 1 -> 1
            strikers -> 0                  # there is no other one
            leave 1 0 -> 2
            take 1 -> 1
            waits 5 -> 24
            draw 1 0 -> 32
            strikers -> 1                  # 9 and 8
            set 0 1 -> 0
            strikers -> 0
            leave 2 0 -> 3
            strikers -> 3                  # 9, 8 and 0
            leave 0 1 -> 2
            strikers -> 2                  # a pen on leave does not strike
            """);
    }

    private static void settings() {
        Sentences section = new Sentences("Settings");
        section.hold("The settings are (in parentheses: range; first value): 0 the bound (0 to 500; 60), "
            + "1 the limit of idle ticks (1 to 200; 40), 2 the wet ticks (0 to 100; 10), "
            + "3 the ticks of a swap (0 to 50; 5), 4 the ticks of a cleaning (0 to 50; 4)", """
            outside 0 500 set 0 *
            outside 1 200 set 1 *
            outside 0 100 set 2 *
            outside 0 50 set 3 *
            outside 0 50 set 4 *
            set 0 0 -> 60
            set 1 1 -> 40
            set 2 0 -> 10
            set 3 0 -> 5
            set 4 0 -> 4
            set 0 500 -> 0
            set 1 200 -> 1
            set 2 100 -> 0
            set 3 50 -> 0
            set 4 50 -> 0
            count 20 -> 500
            count 21 -> 200
            count 22 -> 100
            count 23 -> 50
            count 24 -> 50
            """);
        section.close();
    }
}
