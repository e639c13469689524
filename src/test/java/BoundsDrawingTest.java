/** The sentences of the terms on drawing, each at its bounds. */
public final class BoundsDrawingTest {
    private static final String CANNOT = "A line cannot be drawn now for the first of these reasons that is so: ";

    public static void main(String[] args) {
        Sentences section = new Sentences("Drawing");
        holdTheWay(section);
        holdWetLines(section);
        holdReasons(section);
        holdReasonOneOverOthers(section);
        holdReasonTwoOverOthers(section);
        holdReasonThreeOverOthers(section);
        holdReasonFourOverOthers(section);
        holdLastReasons(section);
        holdShades(section);
        holdSwaps(section);
        holdSeams(section);
        section.close();
        Script.close();
    }

    private static void holdTheWay(Sentences section) {
        section.hold("The hand is at a point, 0, 0 at first", """
            count 6 -> 0
            count 7 -> 0
            pen 0 100 0 0 -> 0
            line 0 0 0 1 -> 0
            take 0 -> 0
            count 6 -> 0
            count 7 -> 0
            draw 0 0 -> 6                  # no travel
            count 10 -> 0
            """);
        section.hold("To draw a line, one way or the other, the hand travels to the end where it begins (as many ticks "
            + "as the distance), then draws (as many ticks as the length), and is at the other end then", """
            pen 0 500 0 0 -> 0
            line 3 8 13 10 -> 0
            set 1 200 -> 40
            take 0 -> 0
            draw 0 0 -> 23                 # 8 there, 10 along
            count 6 -> 13
            count 7 -> 10
            count 10 -> 8
            undo -> 3
            draw 0 1 -> 28                 # 13 there, 10 along
            count 6 -> 3
            count 7 -> 8
            count 10 -> 13
            line 3 8 3 7 -> 1
            draw 1 0 -> 29                 # the hand is there
            count 10 -> 13
            line 3 8 3 6 -> 2
            draw 2 1 -> 32                 # a travel of 1
            count 6 -> 3
            count 7 -> 8
            count 10 -> 14
            """);
    }

    private static void holdWetLines(Sentences section) {
        String wet = "Behind this the line is wet for as many ticks as the setting tells when it is drawn: "
            + "it is wet at a time that is less than the time when it was done plus these";
        section.hold(wet, """
            pen 0 100 0 0 -> 0
            line 0 0 9 0 -> 0
            lineOf 0 8 -> 0
            take 0 -> 0
            draw 0 0 -> 14
            lineOf 0 8 -> 1
            waits 9 -> 23
            lineOf 0 8 -> 1                # the last wet tick
            count 3 -> 1
            waits 1 -> 24
            lineOf 0 8 -> 0
            count 3 -> 0
            """);
        section.hold(wet, """
            pen 0 100 0 0 -> 0
            line 0 0 9 0 -> 0
            line 9 0 9 5 -> 1
            line 9 5 9 9 -> 2
            set 2 0 -> 10
            take 0 -> 0
            draw 0 0 -> 14
            lineOf 0 8 -> 0                # no wet tick at all
            count 3 -> 0
            set 2 100 -> 0
            lineOf 0 8 -> 0                # it was drawn with the other setting
            draw 1 0 -> 19
            set 2 1 -> 100
            lineOf 1 8 -> 1
            draw 2 0 -> 23
            count 3 -> 2
            waits 1 -> 24
            lineOf 2 8 -> 0
            waits 94 -> 118
            lineOf 1 8 -> 1
            waits 1 -> 119
            lineOf 1 8 -> 0
            count 3 -> 0
            """);
    }

    private static void holdReasons(Sentences section) {
        section.hold(CANNOT + "1 no pen is in the hand, 2 the line is drawn already", """
            line 0 0 9 0 -> 0
            whyNot 0 0 -> 1
            pen 0 100 0 0 -> 0
            whyNot 0 0 -> 1
            take 0 -> 0
            whyNot 0 0 -> 0
            whyNot 0 1 -> 0
            draw 0 0 -> 14
            whyNot 0 0 -> 2
            whyNot 0 1 -> 2
            erase 0 -> 0
            whyNot 0 0 -> 0
            """);
        section.hold("3 the pen strikes, 4 it has less ink than it would use", """
            pen 0 20 0 0 -> 0
            pen 1 20 1 0 -> 1
            line 0 0 9 0 -> 0
            line 0 0 10 0 -> 1
            line 0 0 11 0 -> 2
            line 0 0 12 0 -> 3
            set 0 9 -> 60
            set 2 0 -> 10
            take 1 -> 0
            whyNot 1 0 -> 0                # 20 of 20
            whyNot 2 0 -> 4                # 22 of 20
            take 0 -> 2
            draw 0 0 -> 19
            whyNot 2 1 -> 0                # 11 of 11, 9 is not above the bound
            whyNot 3 1 -> 4                # 12 of 11
            refill 0 -> 9
            set 0 8 -> 9
            whyNot 2 1 -> 3
            set 0 9 -> 8
            whyNot 2 1 -> 0
            """);
        section.hold("5 it is clogged, or would be when the hand comes to the begin of the line", """
            pen 0 100 0 0 -> 0
            line 1 0 0 0 -> 0
            take 0 -> 0
            waits 39 -> 44
            whyNot 0 0 -> 0                # 40 when the hand comes there
            waits 1 -> 45
            whyNot 0 0 -> 5                # 41
            whyNot 0 1 -> 0                # 40, without travel
            waits 1 -> 46
            whyNot 0 1 -> 5                # it is clogged
            set 1 41 -> 40
            whyNot 0 1 -> 0
            whyNot 0 0 -> 5
            set 1 42 -> 41
            whyNot 0 0 -> 0
            """);
        section.hold("6 when the hand comes there, a line that was drawn by another pen and touches this one is wet", """
            pen 0 100 0 0 -> 0
            pen 0 100 0 1 -> 1
            line 0 0 10 0 -> 0
            line 10 0 10 5 -> 1
            line 11 0 11 5 -> 2
            take 0 -> 0
            draw 0 0 -> 15                 # wet till 25
            whyNot 1 0 -> 0                # the same pen
            take 1 -> 1
            whyNot 1 0 -> 6
            whyNot 1 1 -> 0                # 5 ticks of travel
            whyNot 2 0 -> 0                # it does not touch
            waits 4 -> 24
            whyNot 1 0 -> 6
            waits 1 -> 25
            whyNot 1 0 -> 0
            undo -> 3
            erase 0 -> 0
            whyNot 1 0 -> 0                # what is erased is not wet
            """);
        section.hold("7 the time would be above 100000 behind it", """
            pen 0 100 0 0 -> 0
            line 3 0 9 0 -> 0
            till 99986
            take 0 -> 0
            whyNot 0 0 -> 0                # 99991, 3 there, 6 along
            whyNot 0 1 -> 7                # 9 there
            waits 1 -> 99992
            whyNot 0 0 -> 7
            undo -> 3
            draw 0 0 -> 100000
            """);
    }

    private static void holdReasonOneOverOthers(Sentences section) {
        section.hold(CANNOT + "1 no pen is in the hand", """
            pen 0 100 0 0 -> 0
            pen 0 100 0 1 -> 1
            line 0 0 10 0 -> 0
            line 10 0 10 5 -> 1
            set 2 20 -> 10
            take 0 -> 0
            draw 0 0 -> 15
            whyNot 0 0 -> 2
            home -> 0
            whyNot 0 0 -> 1                # rather than 2
            whyNot 1 0 -> 1                # rather than 6
            take 1 -> 0
            whyNot 1 0 -> 6
            """);
        section.hold(CANNOT + "1 no pen is in the hand", """
            pen 0 100 0 0 -> 0
            line 0 0 9 0 -> 0
            till 99992
            whyNot 0 0 -> 1                # rather than 7
            take 0 -> 0
            whyNot 0 0 -> 7
            """);
    }

    private static void holdReasonTwoOverOthers(Sentences section) {
        section.hold("2 the line is drawn already, 3 the pen strikes", """
            pen 0 100 0 0 -> 0
            pen 0 100 0 1 -> 1
            line 0 0 6 0 -> 0
            line 6 0 6 1 -> 1
            set 0 5 -> 60
            take 0 -> 0
            draw 0 0 -> 11
            whyNot 1 0 -> 3
            whyNot 0 1 -> 2                # rather than 3
            """);
        section.hold("2 the line is drawn already, 3 the pen strikes, 4 it has less ink", """
            pen 0 10 0 0 -> 0
            line 0 0 6 0 -> 0
            line 6 0 1 0 -> 1
            take 0 -> 0
            draw 0 0 -> 11
            whyNot 1 0 -> 4
            whyNot 0 1 -> 2                # rather than 4
            """);
        section.hold("2 the line is drawn already", """
            pen 0 100 0 0 -> 0
            pen 0 100 0 1 -> 1
            line 0 0 6 0 -> 0
            line 6 0 6 4 -> 1
            line 6 0 9 0 -> 2
            set 2 100 -> 10
            take 0 -> 0
            draw 0 0 -> 11
            draw 1 0 -> 15
            take 1 -> 1
            whyNot 2 0 -> 6
            whyNot 0 1 -> 2                # rather than 6: line 1 touches it
            waits 41 -> 61
            whyNot 2 0 -> 5
            whyNot 0 1 -> 2                # rather than 5
            """);
        section.hold("2 the line is drawn already", """
            pen 0 100 0 0 -> 0
            line 0 0 9 0 -> 0
            line 9 0 9 9 -> 1
            set 4 0 -> 4
            take 0 -> 0
            draw 0 0 -> 14
            till 99992
            clean -> 99978
            whyNot 1 0 -> 7
            whyNot 0 1 -> 2                # rather than 7
            """);
    }

    private static void holdReasonThreeOverOthers(Sentences section) {
        section.hold("3 the pen strikes, 4 it has less ink than it would use, 5 it is clogged", """
            pen 0 10 0 0 -> 0
            pen 0 10 0 1 -> 1
            line 0 0 6 0 -> 0
            line 6 0 1 0 -> 1
            set 0 5 -> 60
            take 0 -> 0
            draw 0 0 -> 11
            whyNot 1 0 -> 3                # rather than 4
            set 0 6 -> 5
            whyNot 1 0 -> 4
            refill 0 -> 6
            waits 41 -> 52
            whyNot 1 0 -> 5
            set 0 5 -> 6
            whyNot 1 0 -> 3                # rather than 5
            """);
        section.hold("3 the pen strikes", """
            pen 0 100 0 0 -> 0
            pen 0 100 0 1 -> 1
            line 0 0 6 0 -> 0
            line 9 0 9 1 -> 1
            line 9 1 9 4 -> 2
            set 0 4 -> 60
            set 2 100 -> 10
            take 0 -> 0
            draw 0 0 -> 11
            take 1 -> 1
            draw 1 0 -> 20
            take 0 -> 2
            whyNot 2 0 -> 3                # rather than 6
            set 0 5 -> 4
            whyNot 2 0 -> 6
            """);
        section.hold("3 the pen strikes", """
            pen 0 100 0 0 -> 0
            pen 0 100 0 1 -> 1
            line 0 0 6 0 -> 0
            line 6 0 6 9 -> 1
            set 0 5 -> 60
            set 4 0 -> 4
            take 0 -> 0
            draw 0 0 -> 11
            till 99992
            clean -> 99981
            whyNot 1 0 -> 3                # rather than 7
            set 0 6 -> 5
            whyNot 1 0 -> 7
            """);
    }

    private static void holdReasonFourOverOthers(Sentences section) {
        section.hold("4 it has less ink than it would use, 5 it is clogged", """
            pen 0 10 0 0 -> 0
            line 0 0 6 0 -> 0
            line 6 0 1 0 -> 1
            take 0 -> 0
            draw 0 0 -> 11
            waits 41 -> 52
            whyNot 1 0 -> 4                # rather than 5
            refill 0 -> 6
            whyNot 1 0 -> 5
            """);
        section.hold("4 it has less ink than it would use", """
            pen 0 10 0 0 -> 0
            pen 0 100 0 1 -> 1
            line 0 0 6 0 -> 0
            line 6 0 6 4 -> 1
            line 6 4 6 9 -> 2
            set 2 100 -> 10
            take 0 -> 0
            draw 0 0 -> 11
            take 1 -> 1
            erase 0 -> 0                   # which is wet
            draw 1 0 -> 20
            take 0 -> 2
            whyNot 2 0 -> 4                # rather than 6
            refill 0 -> 6
            whyNot 2 0 -> 6
            """);
        section.hold("4 it has less ink than it would use", """
            pen 0 10 0 0 -> 0
            line 0 0 6 0 -> 0
            line 6 0 1 0 -> 1
            set 4 0 -> 4
            take 0 -> 0
            draw 0 0 -> 11
            till 99996
            clean -> 99985
            whyNot 1 0 -> 4                # rather than 7
            refill 0 -> 6
            whyNot 1 0 -> 7
            """);
    }

    private static void holdLastReasons(Sentences section) {
        section.hold("5 it is clogged", """
            pen 0 100 0 0 -> 0
            pen 0 100 0 1 -> 1
            line 0 0 10 0 -> 0
            line 10 0 10 5 -> 1
            set 2 100 -> 10
            take 0 -> 0
            draw 0 0 -> 15
            take 1 -> 1
            waits 41 -> 61
            whyNot 1 0 -> 5                # rather than 6
            clean -> 41
            whyNot 1 0 -> 6
            """);
        section.hold("5 it is clogged", """
            pen 0 100 0 0 -> 0
            line 0 0 10 0 -> 0
            set 4 0 -> 4
            take 0 -> 0
            till 99991
            whyNot 0 0 -> 5                # rather than 7
            clean -> 99986
            whyNot 0 0 -> 7
            """);
        section.hold("6 when the hand comes there, a line that was drawn by another pen and touches this one is wet, "
            + "7 the time would be above 100000 behind it", """
            pen 0 100 0 0 -> 0
            pen 0 100 0 1 -> 1
            line 0 0 9 0 -> 0
            line 9 0 9 9 -> 1
            set 2 50 -> 10
            till 99970
            take 0 -> 0
            draw 0 0 -> 99984
            take 1 -> 1
            waits 2 -> 99991
            whyNot 1 0 -> 6
            waits 1 -> 99992
            whyNot 1 0 -> 6                # rather than 7
            erase 0 -> 0
            whyNot 1 0 -> 7
            undo -> 3
            undo -> 2
            erase 0 -> 0
            whyNot 1 0 -> 0                # 99991 and 9
            """);
    }

    private static void holdShades(Sentences section) {
        String shade = "The shade of a line is the ink of its pen when it began to be drawn, as a float, "
            + "divided by the capacity, as a float";
        section.hold(shade, """
            pen 0 10 0 0 -> 0
            pen 1 11 1 0 -> 1
            line 0 0 9 0 -> 0
            line 9 0 10 0 -> 1
            line 10 0 15 0 -> 2
            line 15 0 16 0 -> 3
            set 2 0 -> 10
            take 0 -> 0
            draw 0 0 -> 14
            lineOf 0 9 -> 1/1              # full
            draw 1 0 -> 15
            lineOf 1 9 -> 1/10             # all that was left
            refill 0 -> 10
            lineOf 1 9 -> 1/10
            take 1 -> 1
            draw 2 0 -> 25
            lineOf 2 9 -> 11/11
            whyNot 3 0 -> 4
            refill 1 -> 10
            draw 3 0 -> 26
            lineOf 3 9 -> 11/11
            erase 3 -> 1
            draw 3 1 -> 27
            lineOf 3 9 -> 9/11
            """);
        section.hold(shade, """
            pen 0 5000 0 0 -> 0
            line 0 0 99 0 -> 0
            line 99 0 0 0 -> 1
            line 0 0 49 0 -> 2
            line 49 0 50 0 -> 3
            take 0 -> 0
            text d0;d1;
            """ + "play -> 2\nerase 0 -> 0\nerase 1 -> 0\n".repeat(25) + """
            penOf 0 2 -> 50
            draw 2 0 -> 5004
            lineOf 2 9 -> 50/5000
            draw 3 0 -> 5005
            lineOf 3 9 -> 1/5000           # as faint as can be
            lineOf 2 9 -> 50/5000
            penOf 0 2 -> 0
            """);
    }

    private static void holdSwaps(Sentences section) {
        section.hold("A swap takes the ticks of a swap, a cleaning those of a cleaning; both are idle ticks of the pen "
            + "that is in the hand when they begin (of a swap: of the one that goes home); "
            + "behind a cleaning its idle ticks are 0", """
            pen 0 100 0 0 -> 0
            pen 0 100 0 1 -> 1
            take 0 -> 0
            count 4 -> 5
            penOf 0 4 -> 0                 # it was not in the hand when the swap began
            take 1 -> 1
            count 4 -> 10
            penOf 0 4 -> 5
            penOf 1 4 -> 0
            home -> 1
            penOf 1 4 -> 5
            set 3 0 -> 5
            take 0 -> 0
            take 1 -> 1
            home -> 1
            count 4 -> 15
            count 9 -> 6
            penOf 0 4 -> 5
            penOf 1 4 -> 5
            set 3 50 -> 0
            take 1 -> 0
            take 0 -> 2
            count 4 -> 115
            penOf 1 4 -> 55
            clean -> 5
            count 4 -> 119
            penOf 0 4 -> 0
            set 4 50 -> 4
            clean -> 0
            count 4 -> 169
            penOf 0 4 -> 0                 # the ticks of the cleaning, too
            waits 1 -> 170
            set 4 0 -> 50
            clean -> 1
            count 4 -> 170
            penOf 0 4 -> 0
            penOf 1 4 -> 55
            """);
    }

    private static void holdSeams(Sentences section) {
        section.hold("A seam is a point that is an end of two drawn lines, at least, of unlike pens", """
            pen 0 100 0 0 -> 0
            pen 0 100 0 1 -> 1
            pen 1 100 1 0 -> 2
            line 0 0 10 0 -> 0
            line 10 0 20 0 -> 1
            line 5 0 5 5 -> 2
            line 10 0 10 9 -> 3
            set 2 0 -> 10
            take 0 -> 0
            draw 0 0 -> 15
            seams -> 0                     # one line alone
            draw 1 0 -> 25
            seams -> 0                     # two, of the same pen
            take 2 -> 1
            draw 2 0 -> 50
            seams -> 0                     # not an end of the other one
            draw 3 0 -> 64
            seams -> 1                     # three lines, two pens
            erase 1 -> 0
            seams -> 1                     # two lines
            erase 0 -> 0
            seams -> 0
            """);
    }
}
