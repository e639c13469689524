/** The sentences of promises 30 to 33, each at its bounds: texts. */
public final class BoundsTextsTest {
    private static final String PEN_AND_LINES = """
        pen 0 100 0 0 -> 0
        line 0 0 9 0 -> 0
        line 9 0 9 9 -> 1
        """;

    public static void main(String[] args) {
        type();
        clearText();
        fault();
        play();
        Script.close();
    }

    private static void type() {
        Sentences promise = new Sentences("Promise 30");
        promise.hold("`character`: 32 to 126", """
            outside 32 126 type *
            type 32 -> 1
            type 126 -> 2
            """);
        promise.hold("Appends a character to the text", """
            type 119 -> 1
            fault 2 -> 1
            type 49 -> 2
            fault 2 -> 2
            type 59 -> 3
            fault 2 -> MISSING
            play -> 1
            count 4 -> 1
            """);
        promise.hold("Returns the length of the text", """
            type 119 -> 1
            type 31 -> INVALID
            type 119 -> 2
            count 12 -> 2
            clearText -> 2
            type 119 -> 1
            """);
        promise.hold("INVALID_ARGUMENT if character is out of range; LIMIT_REACHED if it has 60 characters", """
            again 59 type 119
            type 126 -> 60
            type 119 -> LIMIT
            type 32 -> LIMIT
            type 126 -> LIMIT
            outside 32 126 type *
            count 12 -> 60
            clearText -> 60
            type 119 -> 1
            """);
        promise.close();
    }

    private static void clearText() {
        Sentences promise = new Sentences("Promise 31");
        promise.hold("Empties the text", """
            type 120 -> 1
            fault 0 -> 0
            clearText -> 1
            count 12 -> 0
            fault 0 -> MISSING
            play -> 0
            type 99 -> 1                   # nothing of it is left
            fault 0 -> 0
            fault 2 -> 1
            """);
        promise.hold("Returns the length it had", """
            clearText -> 0
            type 120 -> 1
            clearText -> 1
            clearText -> 0
            again 60 type 59
            clearText -> 60
            undo -> IMPOSSIBLE             # it is no change
            """);
        promise.close();
    }

    private static void fault() {
        Sentences promise = new Sentences("Promise 32");
        promise.hold("`what`: 0: its position; 1: its reason; 2: its cause", PEN_AND_LINES + """
            text p0;d0;d00;w1;x
            fault 0 -> 6
            fault 1 -> 3
            fault 2 -> 2
            text p0;d0;r1;w1;x
            fault 0 -> 12
            fault 1 -> 1
            fault 2 -> 0
            """);
        promise.hold("Tells about the fault of the text", PEN_AND_LINES + """
            text p0;d0;w9;r1;c;h;
            fault 0 -> MISSING
            count 4 -> 0                   # it tells and does nothing
            count 5 -> MISSING
            take 0 -> 0
            fault 0 -> 0                   # it is in the hand now
            fault 1 -> 3
            home -> 0
            fault 0 -> MISSING
            """);
        promise.hold("Returns that; INVALID_ARGUMENT if what is out of range", """
            outside 0 2 fault *
            fault 0 -> MISSING
            text x
            outside 0 2 fault *
            fault 0 -> 0
            fault 2 -> 0
            """);
        promise.hold("NOT_FOUND if the text has no fault (also if it is empty), for 2 if the reason is 2, "
            + "or 3 of an order other than \"d\" and \"r\"", PEN_AND_LINES + """
            fault 0 -> MISSING
            fault 1 -> MISSING
            fault 2 -> MISSING
            text p0;
            fault 0 -> MISSING
            fault 1 -> MISSING
            fault 2 -> MISSING
            text p1;
            fault 0 -> 0
            fault 1 -> 2
            fault 2 -> MISSING
            text d2;
            fault 1 -> 2
            fault 2 -> MISSING
            text r2;
            fault 1 -> 2
            fault 2 -> MISSING
            text d1;
            fault 1 -> 3
            fault 2 -> 1
            text r1;
            fault 1 -> 3
            fault 2 -> 1
            """);
        promise.hold("or 3 of an order other than \"d\" and \"r\"", PEN_AND_LINES + """
            text p0;p0;
            fault 0 -> 3
            fault 1 -> 3
            fault 2 -> MISSING
            text h;
            fault 1 -> 3
            fault 2 -> MISSING
            text c;
            fault 1 -> 3
            fault 2 -> MISSING
            text w0;
            fault 1 -> 3
            fault 2 -> MISSING
            text w201;
            fault 1 -> 3
            fault 2 -> MISSING
            text p0;d0;d0;
            fault 2 -> 2
            text p0;d0;h;h;
            fault 0 -> 8
            fault 1 -> 3
            fault 2 -> MISSING             # nor that of the one before
            """);
        promise.close();
    }

    private static void play() {
        Sentences promise = new Sentences("Promise 33");
        promise.hold("Does all orders of the text, which stays. They are one change, also if there are none", PEN_AND_LINES + """
            play -> 0
            count 11 -> 4
            undo -> 3
            count 1 -> 2
            text p0;d0;w7;r1;c;h;
            play -> 6
            count 12 -> 16
            count 11 -> 4
            count 4 -> 48                  # 5, 9, 7, 9 and 9, 4, 5
            count 5 -> MISSING
            count 2 -> 2
            count 6 -> 9
            count 7 -> 0
            penOf 0 2 -> 82
            penOf 0 4 -> 5
            undo -> 3
            count 4 -> 0
            count 2 -> 0
            count 12 -> 16
            play -> 6
            """);
        promise.hold("Does all orders of the text", """
            pen 1 27 2 0 -> 0
            line 3 20 12 28 -> 0
            line 12 29 12 33 -> 1
            line 12 33 12 38 -> 2
            text p0;r0;d1;d2;
            fault 0 -> 9
            fault 2 -> 4                   # a broad pen: 18 and 8, and 1 is left
            text p0;r0;d1;
            play -> 3
            count 4 -> 55                  # 5, 28 and 9, 9 and 4
            count 6 -> 12
            count 7 -> 33
            penOf 0 2 -> 1
            text d2;
            fault 2 -> 4
            """);
        promise.hold("They are one change, also if there are none", """
            play -> 0
            play -> 0
            play -> 0
            play -> 0
            play -> 0
            count 11 -> 4
            undo -> 3
            undo -> 2
            undo -> 1
            undo -> 0
            undo -> IMPOSSIBLE
            """);
        promise.hold("Returns how many there are in it", PEN_AND_LINES + """
            play -> 0
            text w1;
            play -> 1
            text w1;w1;
            play -> 2
            text w1;w1;w1;w1;w1;w1;w1;w1;w1;w1;w1;w1;w1;w1;w1;w1;w1;w1;w1;w1;
            play -> 20
            take 0 -> 0
            text c;c;c;c;c;c;c;c;c;c;c;c;c;c;c;c;c;c;c;c;c;c;c;c;c;c;c;c;c;c;
            play -> 30
            count 4 -> 148
            """);
        promise.hold("NOT_POSSIBLE if it has a fault", PEN_AND_LINES + """
            text x
            play -> IMPOSSIBLE
            text w1
            play -> IMPOSSIBLE
            text p1;
            play -> IMPOSSIBLE
            text p0;d0;w1;d0;
            play -> IMPOSSIBLE             # those ahead of it are not done
            count 4 -> 0
            count 5 -> MISSING
            count 2 -> 0
            count 11 -> 3
            text p0;d0;w1;d1;
            play -> 4
            play -> IMPOSSIBLE             # it is in the hand now
            """);
        promise.close();
    }
}
