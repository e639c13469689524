/** The sentences of promises 17 to 24, each at its bounds: strikes, seams, shades. */
public final class BoundsStrikesTest {
    private static final String THREE_PENS = """
        pen 0 500 0 0 -> 0
        pen 0 500 0 1 -> 1
        pen 1 500 1 0 -> 2
        """;

    public static void main(String[] args) {
        strikers();
        room();
        spread();
        touch();
        touching();
        seams();
        seamsBy();
        meanShade();
        Script.close();
    }

    private static void strikers() {
        Sentences promise = new Sentences("Promise 17");
        promise.hold("Returns the pens that strike", THREE_PENS + """
            line 0 0 7 0 -> 0
            set 0 7 -> 60
            take 1 -> 0
            draw 0 0 -> 12
            strikers -> 0
            set 0 6 -> 7
            strikers -> 2
            home -> 1
            leave 1 1 -> 2
            strikers -> 0
            """);
        promise.hold("Returns the set of pens", """
            strikers -> 0                  # without pens
            pen 0 500 0 0 -> 0
            strikers -> 0
            pen 0 500 0 1 -> 1
            pen 0 500 2 0 -> 2
            pen 1 500 2 1 -> 3
            pen 1 500 1 0 -> 4
            line 0 0 1 0 -> 0
            line 1 0 2 0 -> 1
            line 2 0 3 0 -> 2
            line 3 0 4 0 -> 3
            line 4 0 5 0 -> 4
            set 0 0 -> 60
            set 2 0 -> 10
            text p4;d0;p3;d1;p2;d2;p1;d3;
            play -> 8
            strikers -> 30                 # all but pen 0
            text p0;d4;
            play -> 2
            strikers -> 0                  # all have drawn as much
            """);
        promise.close();
    }

    private static void room() {
        Sentences promise = new Sentences("Promise 18");
        promise.hold("`pen`: number of the pen", "room 0 -> INVALID\n" + THREE_PENS + """
            outside 0 2 room *
            room 2 -> 60
            """);
        promise.hold("Returns the greatest length that a pen could draw so that it would not strike behind it", THREE_PENS + """
            line 0 0 60 0 -> 0
            line 60 0 61 0 -> 1
            room 0 -> 60
            take 0 -> 0
            draw 0 0 -> 65
            strikers -> 0                  # just as much as there was room for
            room 0 -> 0
            room 1 -> 60
            draw 1 0 -> 66
            strikers -> 1
            undo -> 3
            erase 0 -> 0
            draw 0 1 -> 125
            strikers -> 1
            room 0 -> -60
            """);
        promise.hold("Returns the length, below 0 if it strikes already", THREE_PENS + """
            line 0 0 9 0 -> 0
            take 0 -> 0
            draw 0 0 -> 14
            set 0 9 -> 60
            room 0 -> 0
            penOf 0 8 -> 0
            set 0 8 -> 9
            room 0 -> -1
            penOf 0 8 -> 1
            set 0 0 -> 8
            room 0 -> -9
            room 1 -> 0                    # none, but it does not strike
            penOf 1 8 -> 0
            set 0 500 -> 0
            room 0 -> 491
            room 1 -> 500
            """);
        promise.hold("Returns the length", THREE_PENS + """
            line 0 0 9 0 -> 0
            line 9 0 9 7 -> 1
            set 2 0 -> 10
            take 0 -> 0
            draw 0 0 -> 14
            take 1 -> 1
            draw 1 0 -> 26
            leave 2 1 -> 2
            room 0 -> 58                   # 7 and 60, but 9 drawn
            room 1 -> 62                   # 9 and 60, but 7 drawn: its own length is not the least
            """);
        promise.hold("INVALID_ARGUMENT; NOT_POSSIBLE if it is on leave; NOT_FOUND if no other pen is not on leave", """
            room 0 -> INVALID
            pen 0 500 0 0 -> 0
            room 0 -> MISSING
            room 1 -> INVALID              # and no other pen
            leave 0 1 -> 0
            room 0 -> IMPOSSIBLE           # rather than not found
            pen 0 500 0 1 -> 1
            room 0 -> IMPOSSIBLE
            room 1 -> MISSING
            leave 0 0 -> 2
            room 0 -> 60
            room 1 -> 60
            leave 1 1 -> 1
            room 0 -> MISSING
            room 1 -> IMPOSSIBLE
            """);
        promise.close();
    }

    private static void spread() {
        Sentences promise = new Sentences("Promise 19");
        promise.hold("Returns the greatest drawn length of the pens that are not on leave, minus the least one", THREE_PENS + """
            line 0 0 9 0 -> 0
            line 9 0 9 7 -> 1
            set 2 0 -> 10
            spread -> 0
            take 0 -> 0
            draw 0 0 -> 14
            spread -> 9
            take 1 -> 1
            draw 1 0 -> 26
            spread -> 9                    # 9, 7 and 0
            leave 2 1 -> 2
            spread -> 2
            leave 0 1 -> 1
            spread -> 0
            leave 2 0 -> 2
            spread -> 7
            """);
        promise.hold("Returns the greatest drawn length of the pens", THREE_PENS + """
            line 0 0 9 0 -> 0
            take 2 -> 0
            draw 0 0 -> 14
            penOf 2 2 -> 482
            spread -> 9                    # by lengths, not by ink
            fairSpread -> 9
            refill 2 -> 18
            spread -> 9
            """);
        promise.hold("Returns the difference; NOT_FOUND if there are no such pens", """
            spread -> MISSING
            pen 0 500 0 0 -> 0
            spread -> 0
            leave 0 1 -> 0
            spread -> MISSING
            leave 0 0 -> 1
            spread -> 0
            """);
        promise.close();
    }

    private static void touch() {
        Sentences promise = new Sentences("Promise 20");
        promise.hold("`one`: number of a line", """
            touch 0 0 -> INVALID
            line 0 0 10 10 -> 0
            line 0 1 1 0 -> 1
            outside 0 1 touch * 0
            touch 1 0 -> 1
            """);
        promise.hold("`other`: number of a line", """
            line 0 0 10 10 -> 0
            line 0 1 1 0 -> 1
            outside 0 1 touch 0 *
            touch 0 1 -> 1
            """);
        promise.hold("Tells whether two lines touch", """
            line 10 50 20 50 -> 0
            line 20 50 30 60 -> 1          # an end in common
            touch 0 1 -> 1
            line 21 50 31 60 -> 2          # beside the end
            touch 0 2 -> 0
            line 15 40 15 50 -> 3          # an end upon it
            touch 0 3 -> 1
            line 15 40 15 49 -> 4
            touch 0 4 -> 0
            line 15 40 15 60 -> 5          # across it
            touch 0 5 -> 1
            line 9 40 9 60 -> 6            # past its end
            touch 0 6 -> 0
            line 10 40 10 60 -> 7          # through its end
            touch 0 7 -> 1
            line 0 49 20 51 -> 8           # slanting, through its end
            touch 0 8 -> 1
            line 0 48 19 49 -> 9
            touch 0 9 -> 0
            """);
        promise.hold("Returns 1 or 0; a line touches itself", """
            line 0 0 9 0 -> 0
            line 9 0 0 0 -> 1
            line 0 1 9 1 -> 2
            touch 0 0 -> 1
            touch 0 1 -> 1
            touch 1 0 -> 1
            touch 0 2 -> 0
            touch 2 0 -> 0
            touch 2 2 -> 1
            """);
        promise.hold("INVALID_ARGUMENT if there is no such line", """
            touch 0 0 -> INVALID
            line 0 0 9 0 -> 0
            touch 1 1 -> INVALID           # nor does a line touch itself that is not there
            touch 0 1 -> INVALID
            touch 1 0 -> INVALID
            touch -1 -1 -> INVALID
            touch 16 16 -> INVALID
            """);
        promise.close();
    }

    private static void touching() {
        Sentences promise = new Sentences("Promise 21");
        promise.hold("`line`: number of the line", """
            touching 0 -> INVALID
            line 0 0 9 0 -> 0
            outside 0 0 touching *
            touching 0 -> 0
            """);
        promise.hold("Returns the lines that touch a line", """
            line 0 0 9 0 -> 0
            line 9 0 9 9 -> 1
            line 9 9 0 9 -> 2
            touching 0 -> 2
            touching 1 -> 5
            touching 2 -> 2
            undo -> 2
            touching 1 -> 1
            line 5 0 5 9 -> 2              # another line in its place
            touching 0 -> 6
            touching 1 -> 1
            touching 2 -> 1
            """);
        promise.hold("Returns the set of lines, but itself; INVALID_ARGUMENT", """
            again 16 line 0 0 9 9
            touching 0 -> 65534            # all but line 0
            touching 15 -> 32767
            outside 0 15 touching *
            undo -> 3
            touching 0 -> 32766
            touching 15 -> INVALID
            """);
        promise.close();
    }

    private static void seams() {
        Sentences promise = new Sentences("Promise 22");
        promise.hold("Counts the seams", THREE_PENS + """
            line 0 0 9 0 -> 0
            line 9 0 0 0 -> 1
            line 0 9 0 0 -> 2
            set 2 0 -> 10
            seams -> 0
            take 0 -> 0
            draw 0 0 -> 14
            seams -> 0
            take 2 -> 1
            draw 1 0 -> 28
            seams -> 2                     # at both ends
            erase 1 -> 2
            seams -> 0
            draw 2 1 -> 37
            seams -> 1
            """);
        promise.hold("Counts the seams", THREE_PENS + """
            line 3 8 12 5 -> 0
            line 12 5 20 9 -> 1
            line 3 8 20 9 -> 2
            line 8 3 5 12 -> 3             # the same numbers, but other points
            set 1 200 -> 40
            set 2 0 -> 10
            text p0;d0;p1;d1;
            play -> 4
            seams -> 1
            text p2;d2;
            play -> 2
            seams -> 3
            text p1;d3;
            play -> 2
            seams -> 3
            erase 0 -> 0
            seams -> 1
            """);
        promise.hold("Returns how many points are seams", THREE_PENS + """
            seams -> 0
            line 50 50 50 59 -> 0
            line 50 50 59 50 -> 1
            line 50 50 50 41 -> 2
            line 50 50 41 50 -> 3
            set 1 200 -> 40
            set 2 0 -> 10
            text p0;d0;p1;d1;p2;d2;p0;d3;
            play -> 8
            seams -> 1                     # one point, four lines, three pens
            erase 1 -> 1
            seams -> 1
            erase 2 -> 2
            seams -> 0                     # both by the same pen
            """);
        promise.close();
    }

    private static void seamsBy() {
        Sentences promise = new Sentences("Promise 23");
        String square = THREE_PENS + """
            line 0 0 9 0 -> 0
            line 9 0 9 9 -> 1
            line 9 9 0 9 -> 2
            line 0 9 0 0 -> 3
            line 9 0 0 9 -> 4
            set 2 0 -> 10
            """;
        promise.hold("`line`: number of the line", square + """
            outside 0 4 seamsBy * 0
            seamsBy 4 0 -> 0
            """);
        promise.hold("`pen`: number of the pen", square + """
            outside 0 2 seamsBy 0 *
            seamsBy 0 2 -> 0
            """);
        promise.hold("Tells how many seams more there would be if a line was drawn by a pen", square + """
            take 0 -> 0
            draw 0 0 -> 14
            seamsBy 1 0 -> 0
            seamsBy 1 2 -> 1
            seamsBy 2 2 -> 0               # no end in common with line 0
            draw 2 1 -> 32
            seamsBy 1 0 -> 0
            seamsBy 1 2 -> 2
            take 2 -> 1
            draw 1 1 -> 46
            seams -> 2                     # as many as it told
            seamsBy 4 0 -> 0               # there is one at 9, 0, and the same pen at 0, 9
            seamsBy 4 2 -> 1
            seamsBy 4 1 -> 1
            seamsBy 3 2 -> 2
            """);
        promise.hold("Returns how many more, 0 to 2", square + """
            seamsBy 3 2 -> 0               # nothing is drawn
            take 0 -> 0
            draw 0 0 -> 14
            seamsBy 3 0 -> 0
            seamsBy 3 2 -> 1
            draw 2 0 -> 32
            seamsBy 3 0 -> 0
            seamsBy 3 2 -> 2
            home -> 0
            leave 2 1 -> 2
            seamsBy 3 2 -> 2               # on leave or not
            """);
        promise.hold("INVALID_ARGUMENT if an argument is out of range; NOT_POSSIBLE if it is drawn", square + """
            seamsBy 5 3 -> INVALID
            take 0 -> 0
            draw 0 0 -> 14
            seamsBy 0 0 -> IMPOSSIBLE
            seamsBy 0 2 -> IMPOSSIBLE
            seamsBy 0 3 -> INVALID         # rather than drawn
            seamsBy 0 -1 -> INVALID
            seamsBy 5 0 -> INVALID
            erase 0 -> 0
            seamsBy 0 2 -> 0
            """);
        promise.close();
    }

    private static void meanShade() {
        Sentences promise = new Sentences("Promise 24");
        String shades = """
            pen 0 10 0 0 -> 0
            line 0 0 3 0 -> 0
            line 3 0 9 0 -> 1
            line 9 0 10 0 -> 2
            """;
        promise.hold("Returns the bits of the mean of the shades of all drawn lines: they are added up in doubles, by the "
            + "numbers of the lines, the sum is divided by how many they are in doubles, and this is made a float", shades + """
            take 0 -> 0
            draw 0 0 -> 8
            meanShade -> 10/10
            draw 1 0 -> 14
            meanShade -> 17/20             # 10 and 7 of 10
            draw 2 0 -> 15
            meanShade -> 18/30             # and 1 of 10
            erase 0 -> 0
            meanShade -> 8/20
            erase 1 -> 0
            meanShade -> 1/10
            """);
        promise.hold("they are added up in doubles", """
            pen 0 15 0 0 -> 0
            line 0 0 1 0 -> 0
            line 1 0 2 0 -> 1
            line 2 0 3 0 -> 2
            line 3 0 4 0 -> 3
            line 4 0 5 0 -> 4
            line 5 0 6 0 -> 5
            text p0;d0;d1;d2;d3;d4;d5;
            play -> 7
            lineOf 5 9 -> 10/15
            meanShade -> 1062557014        # in floats it would be one bit less, as 75/90 is
            """);
        promise.hold("Returns the bits of the float; NOT_FOUND if no line is drawn", """
            meanShade -> MISSING
            """ + shades + """
            meanShade -> MISSING
            take 0 -> 0
            draw 2 1 -> 16
            meanShade -> 1/1
            erase 2 -> 0
            meanShade -> MISSING
            undo -> 3
            meanShade -> 1/1
            """);
        promise.close();
    }
}
