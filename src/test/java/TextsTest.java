/** Promises 30 to 33: texts. */
public final class TextsTest {
    public static void main(String[] args) {
        typing();
        form();
        noSuch();
        otherwise();
        play();
        Script.close();
    }

    private static void typing() {
        Script.run("promises 30 and 31", """
            clearText -> 0
            type 31 -> INVALID
            type 127 -> INVALID
            type -1 -> INVALID
            type 2147483647 -> INVALID
            type -2147483648 -> INVALID
            type 32 -> 1
            type 126 -> 2
            clearText -> 2
            count 12 -> 0
            clearText -> 0
            again 60 type 59
            count 12 -> 60
            type 59 -> LIMIT
            type 31 -> INVALID             # rather than the limit
            clearText -> 60
            type 65 -> 1
            undo -> IMPOSSIBLE             # texts are no changes
            """);
    }

    private static void form() {
        String rows = "";
        String[] texts = {"x 0", "; 0", "5 0", "H; 0", "~ 0", "p 1", "d 1", "r 1", "w 1", "h 1", "c 1", "p; 1", "w; 1",
            "h1; 1", "cc; 1", "hx 1", "w1 2", "w12 3", "w123 4", "w1234; 4", "d00000; 4", "r1x; 2", "p-1; 1", "w01h; 3", "p:; 1",
            "p/; 1"};
        for (String text : texts) {
            String[] parts = text.split(" ");
            rows += "text " + parts[0] + "\nfault 0 -> 0\nfault 1 -> 1\nfault 2 -> " + parts[1] + "\nplay -> IMPOSSIBLE\n";
            rows += "text w1;w002;" + parts[0] + "\nfault 0 -> 8\nfault 1 -> 1\nfault 2 -> " + parts[1] + "\nplay -> IMPOSSIBLE\n";
        }
        Script.run("promise 32: form", rows + """
            fault -1 -> INVALID
            fault 3 -> INVALID
            fault 2147483647 -> INVALID
            clearText -> 11
            type 32 -> 1                   # a blank is no order
            fault 1 -> 1
            fault 2 -> 0
            clearText -> 1
            fault 0 -> MISSING
            fault 1 -> MISSING
            fault 2 -> MISSING
            fault 3 -> INVALID
            text w1;
            type 32 -> 4
            fault 0 -> 3
            fault 2 -> 0
            """);
    }

    private static void noSuch() {
        Script.run("promise 32: no such pen or line", """
            pen 0 500 0 0 -> 0
            line 0 0 10 0 -> 0
            text p1;
            fault 0 -> 0
            fault 1 -> 2
            fault 2 -> MISSING
            play -> IMPOSSIBLE
            text d0;
            fault 1 -> 3                   # there is one, but no pen in the hand
            text d1;
            fault 1 -> 2                   # rather than 3
            fault 2 -> MISSING
            text p0;r001;
            fault 0 -> 3
            fault 1 -> 2
            text p000;d999;
            fault 0 -> 5
            fault 1 -> 2
            text p9
            fault 1 -> 1                   # rather than 2
            """);
    }

    private static void otherwise() {
        Script.run("promise 32: not possible", """
            pen 0 30 0 0 -> 0
            pen 0 500 2 0 -> 1
            line 0 0 20 0 -> 0
            line 20 0 20 30 -> 1
            text w0;
            fault 0 -> 0
            fault 1 -> 3
            fault 2 -> MISSING
            text w200;w201;
            fault 0 -> 5
            fault 1 -> 3
            fault 2 -> MISSING
            text h;
            fault 1 -> 3
            fault 2 -> MISSING
            text c;
            fault 1 -> 3
            fault 2 -> MISSING
            text d0;
            fault 1 -> 3
            fault 2 -> 1
            text p0;p0;
            fault 0 -> 3
            fault 1 -> 3
            fault 2 -> MISSING
            text p0;h;h;
            fault 0 -> 5
            fault 1 -> 3
            text p0;d0;r0;
            fault 0 -> 6
            fault 1 -> 3
            fault 2 -> 2
            text p0;d0;d1;
            fault 0 -> 6
            fault 2 -> 4
            text p0;w41;d0;
            fault 0 -> 7
            fault 2 -> 5
            text p0;w40;d0;
            fault 0 -> MISSING
            text p0;d0;p1;d1;
            fault 0 -> 9
            fault 1 -> 3
            fault 2 -> 6
            text p0;d0;p1;w4;d1;
            fault 2 -> 6
            text p0;d0;p1;w5;d1;
            fault 0 -> MISSING
            fault 2 -> MISSING
            text p0;d0;p1;w41;c;d1;
            fault 0 -> MISSING
            set 0 19 -> 60
            text p0;d0;d1;
            fault 2 -> 3
            leave 1 1 -> 1
            fault 2 -> 4
            text p1;
            fault 1 -> 3
            fault 2 -> MISSING
            """);
        Script.run("promise 32: the time", """
            pen 0 500 0 0 -> 0
            line 0 0 10 0 -> 0
            till 99800
            text w200;w200;
            fault 0 -> 5                   # 99800 and 200, but no more
            fault 1 -> 3
            fault 2 -> MISSING
            text w192;p0;d0;
            fault 0 -> 8
            fault 1 -> 3
            fault 2 -> 7                   # 99800, 192, 5, 10
            set 1 200 -> 40
            text p0;w186;d0;
            fault 0 -> 8
            fault 2 -> 7
            set 1 100 -> 200
            text w100;p0;w85;d0;
            fault 0 -> MISSING
            text w100;p0;w86;d0;
            fault 2 -> 7
            text w196;p0;
            fault 0 -> 5
            fault 1 -> 3
            fault 2 -> MISSING
            text p0;w191;h;
            fault 0 -> 8
            fault 1 -> 3
            text p0;w192;c;
            fault 0 -> 8
            text p0;w191;c;
            fault 0 -> MISSING
            """);
    }

    private static void play() {
        Script.run("promise 33", """
            play -> 0
            undo -> 0
            pen 0 500 0 0 -> 0
            pen 1 500 1 0 -> 1
            line 4 0 14 0 -> 0
            line 20 20 20 50 -> 1
            text p0;d0;p1;w9;r01;c;h;
            fault 0 -> 12
            fault 2 -> 5
            play -> IMPOSSIBLE
            set 1 200 -> 40
            play -> 7
            count 4 -> 122
            count 5 -> MISSING
            count 6 -> 20
            count 7 -> 20
            count 9 -> 3
            count 10 -> 54
            count 12 -> 20                 # the text stays
            lineOf 0 6 -> 0
            lineOf 1 6 -> 1
            lineOf 0 7 -> 19
            lineOf 1 7 -> 113
            penOf 0 4 -> 5
            penOf 1 4 -> 5
            penOf 1 2 -> 440
            play -> IMPOSSIBLE             # line 0 is drawn now
            fault 0 -> 3
            fault 2 -> 2
            undo -> 3                      # one change
            count 4 -> 0
            count 2 -> 0
            play -> 7
            clearText -> 20
            play -> 0
            count 11 -> 4
            undo -> 3
            count 4 -> 122
            text h
            play -> IMPOSSIBLE
            type 49 -> 2
            play -> IMPOSSIBLE
            text c;
            play -> IMPOSSIBLE
            """);
        Script.run("promise 33: wet lines and shades", """
            pen 0 20 0 0 -> 0
            line 0 0 10 0 -> 0
            line 10 0 10 5 -> 1
            text p0;d0;d1;
            play -> 3
            lineOf 0 8 -> 1
            lineOf 1 8 -> 1
            lineOf 0 9 -> 1/1
            lineOf 1 9 -> 10/20
            """);
        Script.run("promise 33: as many as fit", """
            pen 0 500 0 0 -> 0
            take 0 -> 0
            text c;c;c;c;c;c;c;c;c;c;c;c;c;c;c;c;c;c;c;c;c;c;c;c;c;c;c;c;c;c;
            count 12 -> 60
            fault 0 -> MISSING
            play -> 30
            count 4 -> 125
            undo -> 2
            count 4 -> 5
            """);
    }
}
