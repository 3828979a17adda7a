import java.math.BigInteger;
import java.util.ArrayList;
import java.util.List;

/**
 * For each sentence of the document that names a boundary a test of its own: the last that is taken and
 * the first that is refused, the empty and the full, and that a refused call changes nothing.
 */
public final class BoundaryTests {
    private static final int BAD = -1, NO = -2, FULL = -3, NONE = -4;
    private static final int MIN = Integer.MIN_VALUE, MAX = Integer.MAX_VALUE;
    private static final String FIRST =
        "n7;l0,1,1;l1,2,2;l2,3,1;l3,4,1;l4,5,3;l5,0,1;l1,6,1;l6,3,2;d4,2,5;";
    // clusters {0, 1}, {2, 3} and {4}, all told
    private static final String THREE =
        "n5;l0,1,2;l1,2,5;l2,3,1;l0,3,4;d0,6,10;d1,0,11;d2,6,12;d3,1,13;d4,6,14;";
    // drawn ones, told ones, another M, P and Z
    private static final String MIXED = "n5;l0,1,2;l1,2,5;l2,3,1;l0,3,4;d0,6,10;d3,1,13;m9,5;z12;";
    private static final String FOUR_CHANGES = "link 0 4 3, delay 1 2 3, unlink 1 2, draws 33";

    private static String sentence = "";
    private static int sentences = 0;
    private static int wrong = 0;

    private static void fail(String what) {
        wrong++;
        System.out.println(sentence + ": " + what);
    }

    private static void same(String what, int got, int want) {
        if (got != want) {
            fail(what + " answered " + got + ", due is " + want);
        }
    }

    // ---- an object whose calls are told as words: "link 0 1 9"

    private static final class Subject {
        // no promise is made about an object beyond these
        private static final int MOST_CALLS = 512;

        private final DelayClusters x = new DelayClusters();
        private final StringBuilder story = new StringBuilder();
        private int calls = 0;

        int ask(String call) {
            String[] words = call.split(" ");
            int[] a = new int[4];
            for (int k = 1; k < words.length; k++) {
                a[k - 1] = number(words[k]);
            }
            return ask(words[0], a);
        }

        private int ask(String name, int... a) {
            calls++;
            if (calls > MOST_CALLS) {
                fail("the test itself goes beyond 512 calls");
            }
            return answer(name, a);
        }

        private static int number(String word) {
            return word.equals("MIN") ? MIN : word.equals("MAX") ? MAX : Integer.parseInt(word);
        }

        private int answer(String name, int[] a) {
            return switch (name) {
                case "write" -> x.write(a[0]);
                case "wipe" -> x.wipe();
                case "fault" -> x.fault();
                case "lay" -> x.lay();
                case "link" -> x.link(a[0], a[1], a[2]);
                case "unlink" -> x.unlink(a[0], a[1]);
                case "delay" -> x.delay(a[0], a[1], a[2]);
                case "drawn" -> x.drawn(a[0]);
                case "draws" -> x.draws(a[0]);
                case "undo" -> x.undo();
                case "place" -> x.place(a[0], a[1]);
                case "far" -> x.far(a[0], a[1]);
                case "front" -> x.front(a[0], a[1]);
                case "linkOf" -> x.linkOf(a[0], a[1], a[2]);
                case "cluster" -> x.cluster(a[0], a[1]);
                case "beside" -> x.beside(a[0], a[1], a[2]);
                case "tried" -> x.tried(a[0], a[1]);
                case "best" -> x.best(a[0], a[1], a[2]);
                case "chance" -> x.chance(a[0], a[1], a[2], a[3]);
                case "rise" -> x.rise(a[0]);
                case "count" -> x.count(a[0]);
                default -> throw new IllegalArgumentException(name);
            };
        }

        /** Each of the calls answers this. */
        Subject due(int want, String... all) {
            for (String call : all) {
                same(story + call, ask(call), want);
                story.append(call).append(", ");
            }
            return this;
        }

        /** The call answers these with 0, 1, .. for its question mark. */
        Subject row(String call, int... wants) {
            for (int k = 0; k < wants.length; k++) {
                due(wants[k], call.replace("?", String.valueOf(k)));
            }
            return this;
        }

        /** The calls, parted by commas, none of which may be refused. */
        Subject after(String calls) {
            if (!calls.isEmpty()) {
                for (String call : calls.split(", ")) {
                    int got = ask(call);
                    if (got < 0) {
                        fail(story + call + " answered " + got + ", due is no refusal");
                    }
                    story.append(call).append(", ");
                }
            }
            return this;
        }

        /** The text anew, letter by letter. */
        Subject tell(String text) {
            ask("wipe");
            for (int k = 0; k < text.length(); k++) {
                same(text, ask("write", text.charAt(k)), k + 1);
            }
            story.append('"').append(text).append("\", ");
            return this;
        }
    }

    private static Subject fresh() {
        return new Subject();
    }

    private static Subject laid(String text) {
        int places = Integer.parseInt(text.substring(1, text.indexOf(';')));
        return fresh().tell(text).due(places, "lay");
    }

    private static String times(String part, int times) {
        return part.repeat(times);
    }

    // ---- what is asked of many calls alike

    /** The number for the question mark is taken from least to most, and none beside these. */
    private static void range(String text, String call, int least, int most) {
        for (int number = least; number <= most; number++) {
            String taken = call.replace("?", String.valueOf(number));
            if (laid(text).ask(taken) == BAD) {
                fail(text + " " + taken + " answered BAD, but the number is one that is told");
            }
        }
        String[] beside = {String.valueOf(least - 1L), String.valueOf(most + 1L), "MIN", "MAX",
            String.valueOf(least - 256), String.valueOf(most + 256), String.valueOf(least - 65536),
            String.valueOf(most + 65536)};
        for (String number : beside) {
            laid(text).due(BAD, call.replace("?", number));
        }
    }

    /** The text has no fault and is laid. */
    private static void sound(String... texts) {
        for (String text : texts) {
            laid(text).due(NONE, "fault");
        }
    }

    /** The text's fault is there, and it is not laid. */
    private static void faulty(int at, String... texts) {
        for (String text : texts) {
            fresh().tell(text).due(at, "fault").due(NO, "lay").due(7, "count 0");
        }
    }

    private static final int LOOKS = 5;

    /** What an object answers, seen from one of several sides, since one object has not calls for all. */
    private static List<Integer> look(Subject s, int side) {
        List<Integer> seen = new ArrayList<>();
        int n = s.ask("count 0");
        switch (side) {
            case 0 -> lookAtPlaces(s, n, seen);
            case 1 -> lookAtLinks(s, n, seen);
            case 2 -> lookAtTries(s, n, seen);
            case 3 -> lookAtPast(s, seen);
            default -> lookAtText(s, seen);
        }
        return seen;
    }

    private static void lookAtPlaces(Subject s, int n, List<Integer> seen) {
        for (int what = 0; what < 13; what++) {
            seen.add(s.ask("count " + what));
        }
        for (int i = 0; i < n; i++) {
            for (int what = 0; what < 10; what++) {
                seen.add(s.ask("place " + i + " " + what));
            }
        }
        for (int hour = 0; hour < 10; hour++) {
            seen.add(s.ask("front " + hour + " -1"));
            seen.add(s.ask("front " + hour + " 0"));
        }
    }

    private static void lookAtLinks(Subject s, int n, List<Integer> seen) {
        for (int i = 0; i < n; i++) {
            for (int j = 0; j < i; j++) {
                seen.add(s.ask("far " + i + " " + j));
                seen.add(s.ask("linkOf " + i + " " + j + " 0"));
            }
        }
        for (int c = 0; c < Math.min(n, 5); c++) {
            for (int what = 0; what < 6; what++) {
                seen.add(s.ask("cluster " + c + " " + what));
            }
            seen.add(s.ask("beside 0 " + c + " 0"));
            seen.add(s.ask("beside 0 " + c + " 1"));
        }
    }

    private static void lookAtTries(Subject s, int n, List<Integer> seen) {
        for (int what = 0; what < 4; what++) {
            seen.add(s.ask("tried 0 " + what));
            seen.add(s.ask("tried 77 " + what));
        }
        for (int w = 0; w < 5; w++) {
            seen.add(s.ask("best 10 " + w + " 0"));
            seen.add(s.ask("best 10 " + w + " 1"));
        }
        for (int i = 0; i < n; i++) {
            seen.add(s.ask("rise " + i));
            seen.add(s.ask("chance 0 " + i + " 12 0"));
            seen.add(s.ask("chance 0 " + i + " 12 1"));
        }
    }

    private static void lookAtPast(Subject s, List<Integer> seen) {
        for (int k = 0; k < 6; k++) {
            lookInBrief(s, seen);
            seen.add(s.ask("undo"));
        }
    }

    private static void lookAtText(Subject s, List<Integer> seen) {
        seen.add(s.ask("fault"));
        seen.add(s.ask("write 33"));
        seen.add(s.ask("fault"));
        seen.add(s.ask("lay"));
        lookInBrief(s, seen);
        seen.add(s.ask("wipe"));
    }

    private static void lookInBrief(Subject s, List<Integer> seen) {
        for (int what = 0; what < 13; what++) {
            seen.add(s.ask("count " + what));
        }
        int few = Math.min(s.ask("count 0"), 5);
        for (int i = 0; i < few; i++) {
            for (int what = 0; what < 5; what++) {
                seen.add(s.ask("place " + i + " " + what));
            }
            for (int j = 0; j < i; j++) {
                seen.add(s.ask("linkOf " + i + " " + j + " 0"));
            }
        }
    }

    /** How an object comes to be as it is ahead of a call. */
    private interface Making {
        Subject make();
    }

    /** Behind the calls all is as it is without them. */
    private static void nothingChangesBy(Making making, int want, String... calls) {
        for (String call : calls) {
            for (int side = 0; side < LOOKS; side++) {
                List<Integer> with = look(making.make().due(want, call), side);
                List<Integer> without = look(making.make(), side);
                if (!with.equals(without)) {
                    fail(call + " changes what is answered, from " + without + " to " + with);
                }
            }
        }
    }

    private static void nothingChangesByAny(Making making, String... calls) {
        for (String call : calls) {
            nothingChangesBy(making, making.make().ask(call), call);
        }
    }

    /** Mixed, changed four times, with another text that can be laid. */
    private static Subject changedFourTimes() {
        return laid(MIXED).after(FOUR_CHANGES).tell("n3;l0,1,4;d2,3,4;");
    }

    private static Subject notChangedYet() {
        return laid(MIXED);
    }

    /** Forty links of sixteen places: all of 0, 1 and some of 2. */
    private static Subject fullOfLinks() {
        return linkedTimes(40);
    }

    private static Subject linkedTimes(int most) {
        Subject s = laid("n16;");
        int links = 0;
        for (int i = 0; i < 16; i++) {
            for (int j = i + 1; j < 16 && links < most; j++) {
                links++;
                s.due(links, "link " + i + " " + j + " " + (1 + links % 8));
            }
        }
        return s;
    }

    // ---- terms: places, links, delays

    private static void placesAreOneToSixteen() {
        laid("n1;").due(1, "count 0").due(0, "place 0 4").due(BAD, "place 1 4", "place -1 4");
        laid("n16;").due(16, "count 0").due(15, "place 15 4").due(BAD, "place 16 4", "place -1 4");
        faulty(0, "n0;", "n17;", "n0000;", "n9999;", "n-1;");
        for (int n = 1; n <= 16; n++) {
            sound("n" + n + ";");
        }
    }

    private static void placesAreSuchAsThereAre() {
        for (String call : new String[] {"delay ? 4 4", "drawn ?", "place ? 0", "rise ?"}) {
            range("n1;", call, 0, 0);
            range(THREE, call, 0, 4);
            range("n16;", call, 0, 15);
        }
        for (String call : new String[] {"link ? ! 3", "unlink ? !", "linkOf ? ! 0", "linkOf ? ! 1",
            "chance ? ! 3 0", "far ? !"}) {
            boolean unlike = !call.startsWith("far");
            pairs("n1;", 1, call, unlike);
            pairs(THREE, 5, call, unlike);
            pairs("n16;l0,15,1;", 16, call, unlike);
        }
    }

    /** The two are taken if they are places, and unlike if they have to be. */
    private static void pairs(String text, int n, String call, boolean unlike) {
        for (int i = -2; i < n + 2; i++) {
            for (int j = -2; j < n + 2; j++) {
                boolean told = i >= 0 && i < n && j >= 0 && j < n && !(unlike && i == j);
                String asked = call.replace("?", String.valueOf(i)).replace("!", String.valueOf(j));
                if ((laid(text).ask(asked) != BAD) != told) {
                    fail(text + " " + asked + (told ? " is BAD" : " is not BAD"));
                }
            }
        }
        for (String far : new String[] {"MIN", "MAX"}) {
            laid(text).due(BAD, call.replace("?", far).replace("!", "0"),
                call.replace("?", "0").replace("!", far), call.replace("?", far).replace("!", far));
        }
    }

    private static void linksAreOneToNineLong() {
        laid("n2;").due(1, "link 0 1 1").due(1, "linkOf 0 1 0", "far 0 1")
            .due(1, "link 0 1 9").due(9, "linkOf 1 0 0", "far 1 0")
            .due(BAD, "link 0 1 0", "link 0 1 10", "link 0 1 -1").due(9, "linkOf 0 1 0");
        sound("n2;l0,1,1;", "n2;l0,1,9;", "n2;l1,0,0009;");
        laid("n2;l0,1,1;").due(1, "linkOf 0 1 0");
        laid("n2;l0,1,9;").due(9, "linkOf 0 1 0");
        faulty(3, "n2;l0,1,0;", "n2;l0,1,10;", "n2;l0,1,0000;", "n2;l0,1,9999;", "n2;l0,1,-1;");
    }

    private static void linksJoinUnlikePlaces() {
        laid("n2;").due(BAD, "link 0 0 1", "link 1 1 1", "unlink 0 0", "linkOf 1 1 0", "chance 0 0 1 0")
            .due(0, "count 1", "count 11");
        faulty(3, "n2;l0,0,1;", "n2;l1,1,1;");
        faulty(4, "n16;l15,15,1;", "n16;l0,0,9;");
        sound("n16;l15,14,1;l0,15,1;");
    }

    private static void placesOfItemsAreSuchAsThereAre() {
        sound("n2;l0,1,1;", "n2;l1,0,1;", "n1;d0,1,1;", "n2;d1,1,1;", "n16;l15,0,1;d15,0,0;");
        faulty(3, "n2;l0,2,1;", "n2;l2,0,1;", "n1;l0,1,1;", "n1;d1,1,1;", "n2;d2,1,1;", "n2;l0,9999,1;",
            "n2;l9999,0,1;", "n2;d9999,1,1;", "n2;l-1,0,1;", "n2;l0,-1,1;", "n2;d-1,1,1;");
        faulty(4, "n16;l0,16,1;", "n16;l16,0,1;", "n16;d16,0,0;");
    }

    private static void fortyLinksAtMost() {
        linkedTimes(39).due(39, "count 1").due(40, "link 13 14 1").due(FULL, "link 14 15 1").due(40, "count 1");
        fullOfLinks().due(FULL, "link 14 15 1", "link 15 14 9").due(NONE, "linkOf 14 15 0").due(40, "count 1");
    }

    private static void whatIsLinkedCanBeOfAnotherLengthWhenFull() {
        fullOfLinks().due(40, "link 0 1 9", "link 1 0 1").due(1, "linkOf 0 1 0").due(40, "count 1");
    }

    private static void oneTakenOutMakesRoom() {
        fullOfLinks().due(2, "unlink 0 1").due(39, "count 1").due(40, "link 14 15 1").due(FULL, "link 0 1 2")
            .due(1, "unlink 14 15").due(40, "link 0 1 2");
        fullOfLinks().due(2, "unlink 1 0").due(3, "undo").due(40, "count 1").due(FULL, "link 14 15 1")
            .due(2, "undo").due(39, "count 1").due(40, "link 14 15 1");
    }

    private static void aTextTellsAsManyLinksAsItHasLettersFor() {
        StringBuilder text = new StringBuilder("n8;");
        for (int i = 0; i < 8; i++) {
            for (int j = 0; j < i; j++) {
                text.append('l').append(i).append(',').append(j).append(",1;");
            }
        }
        same("letters", text.length(), 199);
        laid(text.toString()).due(28, "count 1").due(7, "place 0 9", "place 7 9").due(1, "far 0 7");
        // told again and again it is one all the same
        laid("n2;" + times("l0,1,1;l1,0,2;", 14)).due(1, "count 1").due(2, "linkOf 0 1 0");
    }

    private static void delaysAreNoughtToThirty() {
        laid("n2;").after("delay 0 0 5").due(0, "place 0 0").after("delay 0 30 5").due(30, "place 0 0")
            .due(BAD, "delay 0 -1 5", "delay 0 31 5").due(30, "place 0 0");
        laid("n2;d1,0,0;").due(0, "place 1 0");
        laid("n2;d1,30,0;").due(30, "place 1 0");
        faulty(3, "n2;d1,31,0;", "n2;d1,9999,0;", "n2;d1,-1,0;");
    }

    private static void fractionsAreNoughtTo999() {
        laid("n2;").after("delay 0 5 0").due(0, "place 0 1").after("delay 0 5 999").due(999, "place 0 1")
            .due(BAD, "delay 0 5 -1", "delay 0 5 1000").due(999, "place 0 1");
        laid("n2;d1,3,0;").due(0, "place 1 1");
        laid("n2;d1,3,999;").due(999, "place 1 1");
        faulty(3, "n2;d1,3,1000;", "n2;d1,3,9999;", "n2;d1,3,-1;");
    }

    // ---- terms: the text

    private static void theTextHas200LettersAtMost() {
        Subject s = fresh().tell(times("x", 199)).due(200, "write 120")
            .due(FULL, "write 120", "write 32", "write 126")
            .due(200, "count 12");
        s.due(200, "wipe").due(1, "write 120");
        fresh().tell("n9;" + times("z1;", 63) + "l0,1,02;").due(200, "count 12").due(NONE, "fault")
            .due(FULL, "write 59").due(NONE, "fault").due(9, "lay").due(2, "linkOf 0 1 0").due(200, "count 12");
        // the last item is cut off by the text's end
        fresh().tell("n9;" + times("z1;", 63) + "l0,1,002").due(FULL, "write 59").due(192, "fault").due(NO, "lay");
    }

    private static void behindEachItemIsASemicolon() {
        sound("n2;", "n2;z1;");
        faulty(0, "n", "n2", "n2,", "n2:z1;", "n2 ;", ";", ";n2;", ";;");
        faulty(3, "n2;z", "n2;z1", "n2;l0,1,1", "n2;d0,1,1", "n2;m1,1", "n2;;", "n2;z1z2;", "n2;z1,", "n2; ",
            "n2;l0,1,1l0,1,2;", "n2;m1,1m1,2;");
        faulty(6, "n2;z1;;", "n2;z1;z", "n2;z1;z2");
    }

    private static void itemsHaveTheirNumbersWithCommas() {
        faulty(0, "n1,1;", "n1,;", "n,1;");
        faulty(3, "n2;l0,1;", "n2;l0;", "n2;l;", "n2;l0,1,1,1;", "n2;l0,1,1,;", "n2;l0;1;1;", "n2;l0,1;1;",
            "n2;l0;1,1;",
            "n2;l0 1 1;", "n2;d0,1;", "n2;d0;", "n2;d;", "n2;d0,1,1,1;", "n2;d0;1;1;", "n2;m1;", "n2;m;",
            "n2;m1,1,1;",
            "n2;m1;1;", "n2;z;", "n2;z1,1;", "n2;z1,;", "n2;l,0,1,1;", "n2;l0,,1,1;");
    }

    private static void itemsAreOfTheseKinds() {
        for (char kind = 32; kind <= 126; kind++) {
            if ("nldmz".indexOf(kind) < 0) {
                faulty(3, "n2;" + kind + ";", "n2;" + kind + "1;", "n2;" + kind + "1,1;", "n2;" + kind + "0,1,1;");
                faulty(0, kind + "2;");
            }
        }
    }

    private static void numbersHaveOneToFourFigures() {
        // for each number of each item: an item with a hole for it, and one figure that goes there
        String[][] holes = {{"n2;l?,0,1;", "1"}, {"n2;l0,?,1;", "1"}, {"n2;l0,1,?;", "1"}, {"n2;d?,0,1;", "1"},
            {"n2;d1,?,1;", "5"}, {"n2;d1,1,?;", "5"}, {"n2;m?,1;", "5"}, {"n2;m5,?;", "5"}, {"n2;z?;", "5"}};
        for (String[] hole : holes) {
            faulty(3, hole[0].replace("?", ""), hole[0].replace("?", "0000" + hole[1]));
            faulty(3, hole[0].replace("?", " " + hole[1]), hole[0].replace("?", hole[1] + " "));
            faulty(3, hole[0].replace("?", "+" + hole[1]), hole[0].replace("?", "x"));
            for (int noughts = 0; noughts < 4; noughts++) {
                sound(hole[0].replace("?", times("0", noughts) + hole[1]));
            }
        }
        sound("n2;", "n02;", "n002;", "n0002;");
        faulty(0, "n;", "n00002;", "n 2;", "n+2;", "nx;");
        laid("n0003;l0000,0001,0009;d0002,0030,0999;m0030,0010;z0012;").due(9, "linkOf 0 1 0").due(30, "place 2 0")
            .due(999, "place 2 1").due(30, "count 9").due(10, "count 10").due(12, "count 8");
    }

    private static void figuresAreNoughtToNine() {
        for (char sign = 32; sign <= 126; sign++) {
            if (sign >= '0' && sign <= '9') {
                laid("n2;z" + sign + ";").due(sign - '0', "count 8");
            } else if (sign != ';') {
                faulty(3, "n2;z" + sign + ";", "n2;z1" + sign + ";", "n2;z1" + sign + "1;");
            }
        }
    }

    private static void nIsThereOnceAndFirst() {
        faulty(3, "n2;n2;", "n2;n3;", "n2;n2;l0,5,1;");
        faulty(6, "n2;z1;n2;");
        faulty(13, "n2;l0,1,1;z1;n2;");
        faulty(0, "l0,1,1;", "d0,1,1;", "m1,1;", "z1;", "z1;n2;", "m1,1;n2;", "l0,1,1;n2;", "d0,1,1;n2;");
    }

    private static void ofSeveralLinksOfTwoTheLastOneCounts() {
        laid("n3;l0,1,4;l0,1,7;").due(7, "linkOf 0 1 0").due(1, "count 1");
        laid("n3;l0,1,4;l1,2,1;l1,0,7;").due(7, "linkOf 0 1 0").due(2, "count 1");
        laid("n3;l0,1,7;l1,0,4;l0,1,5;").due(5, "linkOf 1 0 0").due(1, "count 1", "place 0 9", "place 1 9");
        faulty(10, "n3;l0,1,4;l0,1,0;", "n3;l0,1,4;l1,0,10;");
    }

    private static void ofSeveralDelaysOfOneTheLastOneCounts() {
        laid("n2;d1,3,4;d1,5,6;").due(5, "place 1 0").due(6, "place 1 1").due(1, "count 7");
        laid("n2;d1,5,6;d0,9,9;d1,3,4;").due(3, "place 1 0").due(4, "place 1 1").due(2, "count 7");
        faulty(10, "n2;d1,3,4;d1,31,6;", "n2;d1,3,4;d1,3,1000;");
    }

    private static void drawnDelaysAreMAtMostByPOfTen() {
        laid("n2;m1,0;").due(1, "count 9").due(0, "count 10");
        laid("n2;m30,10;").due(30, "count 9").due(10, "count 10");
        faulty(3, "n2;m0,5;", "n2;m31,5;", "n2;m5,11;", "n2;m9999,5;", "n2;m5,9999;", "n2;m-1,5;", "n2;m5,-1;");
        laid("n2;").due(8, "count 9").due(6, "count 10");
        fresh().due(8, "count 9").due(6, "count 10");
        laid("n2;m3,4;m7,2;").due(7, "count 9").due(2, "count 10");
        laid("n2;m7,2;z1;m3,4;").due(3, "count 9").due(4, "count 10");
        faulty(8, "n2;m3,4;m31,4;", "n2;m3,4;m3,11;");
    }

    private static void drawsAreByZ() {
        laid("n2;z0;").due(0, "count 8");
        laid("n2;z9999;").due(9999, "count 8");
        faulty(3, "n2;z10000;", "n2;z-1;");
        laid("n2;").due(0, "count 8");
        fresh().due(0, "count 8");
        laid("n2;z7;z8;").due(8, "count 8");
        laid("n2;z8;m1,1;z0;").due(0, "count 8");
        faulty(6, "n2;z7;z10000;");
    }

    private static void theFaultIsOfTheFirstItemThatIsNotSo() {
        faulty(3, "n2;l0,1,x;", "n2;l0,0,1;z10000;", "n2;x;n2;", "n2;l0,2,1;;");
        faulty(20, "n2;l0,1,1;d1,2,3;z7;m3,11;x", "n2;l0,1,1;d1,2,3;z7;n2;l0,0,0;", "n2;l0,1,1;d1,2,3;z7;~");
        faulty(0, "n17;l0,0,0;", "n0;n2;");
        fresh().tell("n9;" + times("z1;", 65)).due(NONE, "fault").due(199, "write 120", "count 12").due(198, "fault");
        // of a text that grows, at each letter
        Subject s = fresh();
        String text = "n2;z1;x";
        int[] faults = {0, 0, NONE, 3, 3, NONE, 6};
        for (int k = 0; k < text.length(); k++) {
            s.due(k + 1, "write " + (int) text.charAt(k)).due(faults[k], "fault");
        }
        s.due(7, "wipe").due(NONE, "fault");
    }

    private static void aTextThatTellsOfNoPlacesIsNotLaid() {
        fresh().due(NONE, "fault").due(NO, "lay").due(7, "count 0");
        laid(THREE).after("wipe").due(NONE, "fault").due(NO, "lay").due(5, "count 0").due(4, "count 1");
    }

    private static void atFirstThatTextIsLaid() {
        for (int side = 0; side < LOOKS; side++) {
            List<Integer> first = look(fresh(), side);
            List<Integer> again = look(laid(FIRST).after("wipe"), side);
            if (!first.equals(again)) {
                fail("a new object answers " + first + ", that text laid " + again);
            }
        }
        int[] links = {0, 1, 1, 1, 2, 2, 2, 3, 1, 3, 4, 1, 4, 5, 3, 5, 0, 1, 1, 6, 1, 6, 3, 2};
        for (int k = 0; k < links.length; k += 3) {
            fresh().due(links[k + 2], "linkOf " + links[k] + " " + links[k + 1] + " 0");
        }
        fresh().row("count ?", 7, 8, 1, 0, 2, 4, 4, 1, 0, 8, 6, 0, 0).row("place 4 ?", 2, 5, 1).due(NO, "undo")
            .due(0, "wipe");
    }

    private static int drawOf(int z, int i, int k) {
        BigInteger x = BigInteger.valueOf(7919L * z + 6151L * i + 3571L * k + 1);
        return x.multiply(x).mod(BigInteger.valueOf(65521)).intValue();
    }

    private static int delayOf(int z, int i, int m, int p) {
        for (int k = 0; k < m; k++) {
            if (drawOf(z, i, k) % 10 >= p) {
                return k;
            }
        }
        return m;
    }

    private static void drawsAreModulo65521() {
        int[] zs = {0, 1, 8, 59, 5000, 9998, 9999};
        int[] ms = {1, 2, 8, 29, 30};
        int[] ps = {0, 1, 6, 9, 10};
        for (int z : zs) {
            for (int m : ms) {
                for (int p : ps) {
                    Subject s = laid("n16;m" + m + "," + p + ";z" + z + ";");
                    for (int i = 0; i < 16; i++) {
                        s.due(delayOf(z, i, m, p), "place " + i + " 0")
                            .due(drawOf(z, i, 99) % 1000, "place " + i + " 1");
                    }
                }
            }
        }
    }

    private static void byPOfTenADelayGoesOn() {
        laid("n16;m30,0;").due(0, "count 6", "place 0 0", "place 15 0");
        laid("n16;m30,10;").due(30, "place 0 0", "place 15 0");
        laid("n16;m1,10;").due(1, "place 0 0", "place 15 0");
        // 0 is drawn 7 by 8 at most
        laid("n1;").due(7, "place 0 0");
        laid("n1;m7,6;").due(7, "place 0 0");
        laid("n1;m6,6;").due(6, "place 0 0");
    }

    // ---- terms: who joins whom

    private static void startIsTheGreatestDelayLessItsOwn() {
        laid("n3;d0,30,0;d1,0,0;d2,30,0;").row("place 0 ?", 30, 0, 1, 0).row("place 1 ?", 0, 0, 1, 30)
            .due(0, "place 2 3");
        laid("n2;d0,7,0;d1,7,0;").due(0, "place 0 3", "place 1 3");
        laid("n2;d0,0,0;d1,0,0;").due(0, "place 0 3", "place 1 3");
        laid("n1;d0,5,5;").due(0, "place 0 3");
        laid("n2;d0,9,0;d1,4,0;").due(5, "place 1 3").due(9, "delay 0 4 0").due(0, "place 1 3")
            .due(4, "delay 0 0 0").due(4, "place 0 3").due(0, "place 1 3");
    }

    private static void farIsTheLeastSum() {
        laid("n3;l0,1,2;l1,2,2;l0,2,5;").due(4, "far 0 2", "far 2 0");
        laid("n3;l0,1,2;l1,2,2;l0,2,3;").due(3, "far 0 2", "far 2 0");
        laid("n3;l0,1,2;l1,2,2;l0,2,4;").due(4, "far 0 2", "far 2 0");
        // by way of the first place, of the last one, and of all
        laid("n3;l0,1,2;l0,2,3;").due(5, "far 1 2", "far 2 1");
        laid("n3;l2,0,2;l2,1,3;").due(5, "far 1 0", "far 0 1");
        Subject chain = laid("n16;");
        for (int i = 0; i < 15; i++) {
            chain.due(i + 1, "link " + i + " " + (i + 1) + " 9");
        }
        chain.due(135, "far 0 15", "far 15 0").due(126, "far 0 14").due(16, "link 0 15 9").due(9, "far 15 0")
            .due(72, "far 0 8");
    }

    private static void farOfOneToItselfIsNought() {
        laid("n1;").due(0, "far 0 0");
        laid("n16;l0,15,9;").due(0, "far 0 0", "far 7 7", "far 15 15");
    }

    private static void farOfTwoThatNothingJoinsIsNone() {
        laid("n4;l0,1,9;l2,3,9;").due(NONE, "far 0 2", "far 2 0", "far 1 3", "far 3 1").due(9, "far 0 1", "far 3 2")
            .due(3, "link 1 2 9").due(27, "far 0 3").due(9, "unlink 2 1").due(NONE, "far 0 3");
    }

    private static void aPlaceJoinsFromWhomItIsReachedEarliest() {
        // 1 begins in hour 3 or is reached then from 0: an hour earlier or later decides, whatever the fractions
        laid("n2;l0,1,3;d0,9,0;d1,7,999;").due(1, "place 1 4").due(2, "place 1 7").due(2, "count 2");
        laid("n2;l0,1,3;d0,9,999;d1,5,0;").due(0, "place 1 4").due(3, "place 1 7").due(1, "count 2");
        laid("n2;l0,1,2;d0,9,999;d1,6,0;").due(0, "place 1 4");
        laid("n2;l0,1,4;d0,9,0;d1,6,999;").due(1, "place 1 4");
        laid("n3;l0,1,1;l1,2,2;d0,5,900;d1,0,999;d2,5,0;").due(0, "place 1 4");
        laid("n3;l0,1,2;l1,2,1;d0,5,0;d1,0,999;d2,5,900;").due(2, "place 1 4");
    }

    private static void ofSeveralThatOfTheLeastFraction() {
        laid("n2;l0,1,3;d0,9,5;d1,6,4;").due(1, "place 1 4").due(0, "place 1 6");
        laid("n2;l0,1,3;d0,9,5;d1,6,6;").due(0, "place 1 4").due(3, "place 1 6");
        laid("n2;l0,1,3;d0,6,6;d1,9,5;").due(1, "place 0 4");
        laid("n3;l0,1,1;l1,2,1;d0,5,7;d1,0,0;d2,5,6;").due(2, "place 1 4");
        laid("n3;l0,1,1;l1,2,1;d0,5,6;d1,0,0;d2,5,7;").due(0, "place 1 4");
        laid("n3;l0,1,1;l1,2,1;d0,5,999;d1,0,0;d2,5,998;").due(2, "place 1 4");
        laid("n4;l0,3,1;l1,3,1;l2,3,1;d0,5,3;d1,5,1;d2,5,2;d3,0,0;").due(1, "place 3 4");
    }

    private static void ofSeveralTheLowest() {
        laid("n2;l0,1,3;d0,9,5;d1,6,5;").due(0, "place 1 4");
        laid("n2;l0,1,3;d0,6,5;d1,9,5;").due(0, "place 0 4");
        laid("n3;l0,1,1;l1,2,1;d0,5,7;d1,0,0;d2,5,7;").due(0, "place 1 4");
        laid("n4;l0,1,1;l0,2,1;l0,3,1;d0,0,0;d1,5,7;d2,5,7;d3,5,7;").due(1, "place 0 4");
    }

    private static void whoIsNotJoinedToOthersJoinsItself() {
        laid("n2;d0,30,0;d1,0,999;").due(1, "place 1 4", "place 1 5").due(30, "place 1 7", "count 6")
            .due(2, "count 2");
        laid("n1;").due(0, "place 0 4", "place 0 5", "place 0 6", "place 0 7").due(1, "count 2");
    }

    private static void clustersAreNumberedByTheirHeadsRising() {
        // 0 joins 2, so that the cluster of 0 is behind that of 1
        laid("n3;l0,2,1;d0,0,0;d1,9,1;d2,9,2;").row("cluster ? 0", 1, 2, BAD).due(1, "place 0 5", "place 2 5")
            .due(0, "place 1 5");
        laid("n16;m1,10;").due(16, "count 2").due(15, "place 15 5", "cluster 15 0").due(BAD, "cluster 16 0");
        laid(THREE).row("cluster ? 0", 0, 2, 4, BAD).due(BAD, "cluster -1 0");
    }

    private static void upIsTheLowestOfItsClusterThatFits() {
        // a head has none
        laid("n1;").due(NONE, "place 0 8");
        laid(THREE).due(NONE, "place 0 8", "place 2 8", "place 4 8").due(0, "place 1 8").due(2, "place 3 8");
        // two fit: the lowest
        String two = "n4;l0,1,1;l0,2,1;l1,3,1;l2,3,1;d0,9,0;d1,0,1;d2,0,2;d3,0,3;";
        laid(two).due(1, "place 3 8").due(1, "unlink 1 3").due(2, "place 3 8");
        laid(two).due(5, "link 0 3 2").due(0, "place 3 8");
        laid(two).due(5, "link 0 3 3").due(1, "place 3 8");
        laid(two).due(4, "link 1 3 2").due(2, "place 3 8");
        // the lower one fits but is of another cluster
        laid("n3;l0,2,2;l1,2,2;d0,9,7;d1,9,3;d2,0,0;").due(1, "place 2 4", "place 2 8").due(2, "linkOf 0 2 1");
        // the head need not be the lowest
        laid("n3;l0,1,1;l1,2,1;d0,0,0;d1,0,1;d2,9,2;").due(1, "place 0 8").due(2, "place 1 8").due(NONE, "place 2 8");
    }

    private static void wideIsTheGreatestDepth() {
        laid("n1;").due(0, "cluster 0 2", "count 5");
        laid(THREE).row("cluster ? 2", 2, 1, 0).due(2, "count 5");
        // the deepest and latest is the first place, or the last one
        laid("n3;l0,1,4;l1,2,1;d0,0,1;d1,9,0;d2,0,1;").due(4, "cluster 0 2", "count 5", "count 6", "tried 3 2",
            "tried 3 3");
        laid("n3;l0,1,1;l1,2,4;d0,0,1;d1,9,0;d2,0,1;").due(4, "cluster 0 2", "count 5", "count 6", "tried 3 2",
            "tried 3 3");
        laid("n2;d0,0,0;d1,9,0;").due(9, "count 6", "tried 3 3").due(0, "count 5");
        // as deep as can be: from hour 0 to hour 30
        laid("n5;l0,1,9;l1,2,9;l2,3,9;l3,4,3;d0,30,0;d1,0,1;d2,0,1;d3,0,1;d4,0,1;")
            .due(30, "cluster 0 2", "count 5", "place 4 6")
            .due(5, "cluster 0 1").due(4, "link 3 4 4").due(27, "cluster 0 2").due(0, "cluster 1 2")
            .due(27, "count 5")
            .due(30, "count 6");
    }

    private static void linksAreOfTheTreeSpareOrCut() {
        String ring = "n3;l0,1,1;l1,2,1;l0,2,2;d0,9,0;d1,0,1;d2,0,1;";
        laid(ring).due(0, "linkOf 0 1 1", "linkOf 1 0 1", "linkOf 0 2 1", "linkOf 2 0 1")
            .due(1, "linkOf 1 2 1", "linkOf 2 1 1", "count 4")
            .due(0, "count 3");
        laid(ring).due(3, "link 0 2 3").due(0, "linkOf 1 2 1").due(1, "linkOf 0 2 1", "count 4");
        laid(THREE).due(2, "linkOf 1 2 1", "linkOf 2 1 1", "linkOf 0 3 1", "count 3")
            .due(0, "linkOf 0 1 1", "linkOf 2 3 1", "count 4");
        laid("n2;").due(0, "count 1", "count 3", "count 4");
    }

    // ---- told

    private static void lettersAre32To126() {
        range("n2;", "write ?", 32, 126);
        fresh().due(BAD, "write 31", "write 127", "write -1", "write 0", "write 10").due(0, "count 12")
            .due(1, "write 32").due(2, "write 126");
        // numbers whose lowest bits would be a letter
        fresh().due(BAD, "write 366", "write 65646", "write -146", "write -65426", "write MIN", "write MAX")
            .due(0, "count 12");
    }

    private static void writeAnswersHowLongTheTextIs() {
        Subject s = fresh();
        for (int k = 1; k <= 200; k++) {
            s.due(k, "write 59", "count 12");
        }
        s.due(FULL, "write 59");
    }

    private static void badIsAheadOfFullOfLetters() {
        fresh().tell(times("x", 200)).due(BAD, "write 31", "write 127", "write MAX")
            .due(FULL, "write 32", "write 126");
    }

    private static void wipeAnswersHowLongItWas() {
        fresh().due(0, "wipe", "wipe");
        fresh().tell("n").due(1, "wipe").due(0, "wipe", "count 12");
        fresh().tell(times("x", 200)).due(200, "wipe").due(0, "wipe", "count 12").due(1, "write 110");
        // letters of the longer text are gone
        fresh().tell("n2;z5;").tell("n3;").due(NONE, "fault").due(3, "lay").due(0, "count 8");
        laid(THREE).after("wipe").due(5, "count 0").due(4, "count 1").due(5, "count 7");
    }

    private static void layForgetsWhatWas() {
        Subject s = laid("n16;l14,15,1;l0,1,2;d15,3,3;d0,4,4;m3,3;z7;").after("link 3 4 5, delay 9 9 9, draws 8");
        s.tell("n2;").due(2, "lay").row("count ?", 2, 0).due(0, "count 7", "count 8", "count 11").due(8, "count 9")
            .due(6, "count 10");
        s.due(NONE, "linkOf 0 1 0").tell("n16;").due(16, "lay")
            .due(0, "count 1", "count 7", "count 8", "place 15 2", "place 0 2")
            .due(NONE, "linkOf 14 15 0", "linkOf 0 1 0", "linkOf 3 4 0").due(drawOf(0, 15, 99) % 1000, "place 15 1");
    }

    private static void theTextStaysWhenItIsLaid() {
        laid("n3;z5;").due(6, "count 12").due(NONE, "fault").due(3, "lay").due(7, "write 122").due(6, "fault")
            .due(NO, "lay").due(8, "write 49").due(9, "write 59").due(3, "lay").due(1, "count 8").due(9, "wipe");
    }

    private static void nothingCanBeUndoneBehindLaid() {
        laid(MIXED).after(FOUR_CHANGES).due(4, "count 11").due(5, "lay").due(0, "count 11").due(NO, "undo")
            .due(12, "draws 3").due(1, "count 11").due(0, "undo").due(12, "count 8").due(NO, "undo")
            .due(12, "count 8");
        laid(MIXED).after("draws 3").due(5, "lay").due(NO, "undo");
    }

    private static void aRefusedLayLeavesAllThatCanBeUndone() {
        nothingChangesBy(() -> laid(MIXED).after(FOUR_CHANGES).after("wipe"), NO, "lay");
        for (String text : new String[] {"n3", "n3;l0,1,4;l0,1,0;", "n3;d0,5,5;m5,5;z7;n3;", "z9;"}) {
            nothingChangesBy(() -> laid(MIXED).after(FOUR_CHANGES).tell(text), NO, "lay");
        }
    }

    private static void faultChangesNothing() {
        nothingChangesBy(BoundaryTests::changedFourTimes, NONE, "fault");
        nothingChangesBy(() -> laid(MIXED).after(FOUR_CHANGES).tell("n3;d0,5,5;m5,5;z7;n3;"), 18, "fault");
    }

    private static void writingAndWipingChangeNoPlaces() {
        Subject s = laid(THREE).after("draws 4").tell("n2;l0,1,1;d0,1,1;z3;");
        s.row("count ?", 5, 4, 3, 2, 0, 2, 2, 5, 4, 8, 6, 1, 20).due(20, "wipe")
            .row("count ?", 5, 4, 3, 2, 0, 2, 2, 5, 4, 8, 6, 1, 0);
    }

    // ---- changes

    private static void linkAnswersHowManyThereAre() {
        laid("n3;").due(1, "link 0 1 1").due(2, "link 2 0 9").due(2, "link 0 1 2", "link 0 2 1").due(3, "link 1 2 1")
            .due(3, "count 1").due(1, "unlink 2 1").due(2, "count 1").due(3, "link 1 2 5");
    }

    private static void aLinkThatIsSoAlreadyIsRefused() {
        laid("n3;l0,1,4;").due(NO, "link 0 1 4", "link 1 0 4").due(1, "link 0 1 5").due(NO, "link 1 0 5")
            .due(1, "link 1 0 3")
            .due(NO, "link 0 1 3").due(2, "count 11");
    }

    private static void noIsAheadOfFullOfLinks() {
        fullOfLinks().due(NO, "link 0 1 2", "link 1 0 2").due(FULL, "link 14 15 2");
    }

    private static void badIsAheadOfFullOfLinks() {
        fullOfLinks().due(BAD, "link 14 15 0", "link 14 15 10", "link 14 16 1", "link -1 15 1", "link 15 15 1");
    }

    private static void unlinkAnswersHowLongItWas() {
        laid("n3;l0,1,1;l1,2,9;").due(9, "unlink 2 1").due(1, "unlink 0 1")
            .due(NO, "unlink 0 1", "unlink 2 1", "unlink 0 2")
            .due(0, "count 1").due(2, "count 11");
    }

    private static void delayAnswersWhatItWas() {
        laid("n1;").due(7, "delay 0 30 0").due(30, "delay 0 0 999").due(0, "delay 0 0 999", "delay 0 5 5")
            .due(5, "delay 0 5 6")
            .due(5, "place 0 0").due(6, "place 0 1").due(4, "count 11").due(1, "count 7", "place 0 2");
    }

    private static void drawnIsForThoseThatAreTold() {
        laid("n2;d1,30,999;").due(NO, "drawn 0").due(1, "place 1 2").due(delayOf(0, 1, 8, 6), "drawn 1")
            .due(0, "place 1 2")
            .due(delayOf(0, 1, 8, 6), "place 1 0").due(drawOf(0, 1, 99) % 1000, "place 1 1").due(NO, "drawn 1")
            .due(1, "count 11")
            .due(0, "count 7");
        laid("n2;d1,30,999;m1,10;").due(1, "drawn 1");
        laid("n2;d1,30,999;m30,10;").due(30, "drawn 1");
        laid("n2;d1,30,999;m30,0;").due(0, "drawn 1");
        laid("n16;d15,0,0;z9999;").due(delayOf(9999, 15, 8, 6), "drawn 15")
            .due(drawOf(9999, 15, 99) % 1000, "place 15 1");
        // told as it would be drawn, it is told all the same
        laid("n1;").after("delay 0 7 728").due(1, "place 0 2").due(7, "drawn 0").due(2, "count 11");
    }

    private static void drawsAnswersWhatZWas() {
        laid("n2;").due(NO, "draws 0").due(0, "draws 9999").due(NO, "draws 9999").due(9999, "draws 0")
            .due(0, "draws 1")
            .due(BAD, "draws -1", "draws 10000").due(1, "count 8").due(3, "count 11");
        laid("n2;z9999;").due(NO, "draws 9999").due(9999, "draws 9998");
        laid("n1;d0,5,5;").due(0, "draws 9999").due(5, "place 0 0", "place 0 1");
        Subject s = laid("n16;").after("draws 9999");
        for (int i = 0; i < 16; i++) {
            s.due(delayOf(9999, i, 8, 6), "place " + i + " 0").due(drawOf(9999, i, 99) % 1000, "place " + i + " 1");
        }
    }

    private static void numbersOfChangesAreWithinTheirBounds() {
        range("n2;", "link 0 1 ?", 1, 9);
        range(THREE, "link 4 3 ?", 1, 9);
        range("n2;", "delay 1 ? 5", 0, 30);
        range("n2;", "delay 1 5 ?", 0, 999);
        range("n2;", "draws ?", 0, 9999);
    }

    /** Ahead of the change and behind its undoing all is alike. */
    private static void undoes(Making making, String change) {
        for (int side = 0; side < LOOKS; side++) {
            Subject changed = making.make();
            int undoable = changed.ask("count 11");
            List<Integer> with = look(changed.after(change).due(undoable, "undo"), side);
            List<Integer> without = look(making.make(), side);
            if (!with.equals(without)) {
                fail(change + " is not undone: " + without + " is " + with);
            }
        }
    }

    private static void eachChangeCanBeUndone() {
        String[] changes = {"link 0 4 3", "link 3 0 9", "link 1 2 1", "unlink 0 1", "unlink 2 3", "delay 0 30 0",
            "delay 1 0 999",
            "delay 0 6 10", "delay 4 30 1", "drawn 0", "drawn 3", "draws 0", "draws 9999"};
        for (String change : changes) {
            undoes(BoundaryTests::notChangedYet, change);
            undoes(() -> laid(MIXED).after("delay 3 5 5, draws 40, link 2 4 1"), change);
        }
    }

    private static void theLastFourCanBeUndone() {
        Subject s = laid("n2;");
        int[] undoable = {1, 2, 3, 4, 4, 4};
        for (int z = 1; z <= 6; z++) {
            s.due(z - 1, "draws " + z).due(undoable[z - 1], "count 11");
        }
        s.due(3, "undo").due(5, "count 8").due(2, "undo").due(4, "count 8").due(1, "undo").due(3, "count 8")
            .due(0, "undo")
            .due(2, "count 8").due(NO, "undo").due(2, "count 8").due(0, "count 11");
    }

    private static void theFifthOfAnyKindIsTooLongAgo() {
        String[] kinds = {"link 0 4 3", "unlink 0 1", "delay 1 2 3", "drawn 0", "draws 33"};
        String others = "link 2 4 7, delay 4 4 4, unlink 1 2, drawn 3";
        for (String first : kinds) {
            Subject s = laid(MIXED).after(first).after(others).due(4, "count 11").due(3, "undo").due(2, "undo")
                .due(1, "undo")
                .due(0, "undo").due(NO, "undo");
            List<Integer> left = new ArrayList<>();
            List<Integer> want = new ArrayList<>();
            lookInBrief(s, left);
            Subject once = laid(MIXED).after(first);
            lookInBrief(once, want);
            // the first change itself can be undone only while no four are behind it
            want.set(11, 0);
            if (!left.equals(want)) {
                fail("behind " + first + " and four more, all undone: " + left + ", due is " + want);
            }
        }
    }

    private static void undoneOnesMakeRoom() {
        Subject s = laid("n2;");
        for (int z = 1; z <= 9; z++) {
            s.due(z - 1, "draws " + z);
        }
        s.due(3, "undo").due(2, "undo").due(7, "count 8", "draws 20").due(20, "draws 21").due(21, "draws 22")
            .due(4, "count 11");
        s.due(3, "undo").due(21, "count 8").due(2, "undo").due(20, "count 8").due(1, "undo").due(7, "count 8")
            .due(0, "undo")
            .due(6, "count 8").due(NO, "undo").due(6, "count 8");
        s.due(6, "draws 1").due(0, "undo").due(6, "count 8").due(NO, "undo");
    }

    private static void manyOfAllKindsAreUndoneOneByOne() {
        String[] changes = {"link 0 4 3", "delay 1 2 3", "unlink 1 2", "draws 33", "drawn 0", "draws 7", "link 2 4 1",
            "delay 0 4 4", "draws 9", "link 0 4 8", "delay 1 9 9", "drawn 1", "unlink 0 4", "drawn 3", "link 1 2 2",
            "draws 12", "unlink 2 4", "delay 3 1 1", "delay 3 2 2", "draws 0"};
        for (int made = 0; made <= changes.length; made++) {
            Subject s = changedBy(changes, made);
            for (int left = made - 1; left >= made - 4 && left >= 0; left--) {
                int undoable = Math.min(made, 4) - (made - left);
                s.due(undoable, "undo");
                List<Integer> want = new ArrayList<>();
                lookInBrief(changedBy(changes, left), want);
                want.set(11, undoable);
                List<Integer> got = new ArrayList<>();
                lookInBrief(s, got);
                if (!got.equals(want)) {
                    fail(made + " changes, undone to " + left + ": " + got + ", due is " + want);
                }
            }
            s.due(NO, "undo");
        }
    }

    private static Subject changedBy(String[] changes, int made) {
        Subject s = laid(MIXED);
        for (int k = 0; k < made; k++) {
            s.after(changes[k]);
        }
        return s;
    }

    private static void withoutChangesNothingIsUndone() {
        fresh().due(NO, "undo", "undo").due(0, "count 11");
        laid(THREE).due(NO, "undo").due(0, "count 11");
        nothingChangesBy(BoundaryTests::notChangedYet, NO, "undo");
        nothingChangesBy(BoundaryTests::fresh, NO, "undo");
    }

    private static void aRefusedChangeChangesNothing() {
        Making four = BoundaryTests::changedFourTimes;
        nothingChangesBy(four, BAD, "write 31", "write 127", "link 0 5 1", "link -1 0 1", "link 2 2 1", "link 0 1 0",
            "link 0 1 10",
            "unlink 0 5", "unlink -1 0", "unlink 1 1", "delay 5 1 1", "delay -1 1 1", "delay 0 -1 1", "delay 0 31 1",
            "delay 0 1 -1", "delay 0 1 1000", "drawn -1", "drawn 5", "draws -1", "draws 10000");
        nothingChangesBy(four, NO, "link 0 1 2", "link 1 0 2", "unlink 1 2", "unlink 2 4", "drawn 2", "drawn 4",
            "draws 33");
        Making none = BoundaryTests::notChangedYet;
        nothingChangesBy(none, BAD, "link 0 5 1", "unlink 0 5", "delay 0 31 1", "delay 0 1 1000", "drawn 5",
            "draws 10000");
        nothingChangesBy(none, NO, "link 0 1 2", "unlink 0 2", "drawn 1", "draws 12");
    }

    private static void aCallRefusedForFullnessChangesNothing() {
        nothingChangesBy(BoundaryTests::fullOfLinks, FULL, "link 14 15 1", "link 4 3 9");
        nothingChangesBy(BoundaryTests::fullOfLinks, NO, "link 0 1 2");
        nothingChangesBy(BoundaryTests::fullOfLinks, BAD, "link 14 15 10");
        Making full = () -> fresh().tell("n9;" + times("z1;", 63) + "l0,1,02;").after("delay 0 3 3, draws 4");
        nothingChangesBy(full, FULL, "write 59", "write 122");
        nothingChangesBy(full, BAD, "write 31");
    }

    // ---- places

    private static void placeTellsTenThings() {
        range(THREE, "place 0 ?", 0, 9);
        laid(THREE).row("place 0 ?", 6, 10, 1, 0, 0, 0, 0, 0, NONE, 2, BAD)
            .row("place 1 ?", 0, 11, 1, 6, 0, 0, 2, 2, 0, 2, BAD)
            .row("place 3 ?", 1, 13, 1, 5, 2, 1, 1, 1, 2, 2, BAD)
            .row("place 4 ?", 6, 14, 1, 0, 4, 2, 0, 0, NONE, 0, BAD);
        laid("n1;d0,0,0;").row("place 0 ?", 0, 0, 1, 0, 0, 0, 0, 0, NONE, 0, BAD);
    }

    private static void linksOfAPlace() {
        laid("n16;").due(0, "place 0 9", "place 15 9");
        linkedTimes(15).due(15, "place 0 9").due(1, "place 1 9", "place 15 9").due(2, "unlink 0 1")
            .due(14, "place 0 9")
            .due(0, "place 1 9");
    }

    private static void hoursOfAFrontAreNoughtTo200() {
        range(THREE, "front ? -1", 0, 200);
        range(THREE, "front ? 0", 0, 200);
        laid("n2;d0,30,0;d1,0,0;").due(0, "front 0 0").due(1, "front 30 0", "front 30 -1", "front 0 -1")
            .due(0, "front 29 -1", "front 31 -1", "front 200 -1").due(NONE, "front 29 0", "front 200 0")
            .due(BAD, "front 201 0", "front -1 0");
    }

    private static void kOfAFrontIsFromMinusOneOn() {
        laid("n4;l0,1,1;l0,2,1;l0,3,1;d0,9,0;d1,0,1;d2,0,1;d3,0,1;").due(1, "front 0 -1").due(3, "front 1 -1")
            .row("front 1 ?", 1, 2, 3, NONE, NONE)
            .due(NONE, "front 0 1", "front 1 MAX", "front 200 MAX")
            .due(BAD, "front 1 -2", "front 1 MIN", "front 200 -2");
        Subject all = laid("n16;m1,10;").due(16, "front 0 -1").due(NONE, "front 0 16").due(0, "front 1 -1");
        for (int k = 0; k < 16; k++) {
            all.due(k, "front 0 " + k);
        }
        // rising by place, not by cluster
        laid("n4;l0,3,1;l1,2,1;d0,1,1;d1,2,2;d2,9,3;d3,9,4;").due(2, "front 0 0").due(3, "front 0 1")
            .due(0, "front 1 0").due(1, "front 1 1");
    }

    private static void badIsAheadOfNone() {
        laid(THREE).due(BAD, "front 201 9", "front 5 -2", "linkOf 0 2 2", "linkOf 0 2 -1", "linkOf 0 5 0",
            "beside 0 2 2", "beside 0 2 -1",
            "beside 2 2 1", "best 61 0 0", "best 60 0 2", "best 0 0 0", "best 60 -1 0", "place 4 10", "far 4 5");
        laid(THREE).due(NONE, "front 5 9", "linkOf 0 2 1", "linkOf 0 2 0", "beside 0 2 1", "best 60 0 0",
            "best 60 0 1", "place 4 8", "far 4 0");
    }

    private static void badIsAheadOfNo() {
        laid(THREE).due(BAD, "chance 0 2 61 0", "chance 0 2 0 0", "chance 0 2 1 2", "chance 0 2 1 -1", "unlink 4 5",
            "drawn 5", "link 0 1 11")
            .due(NO, "chance 0 2 1 0", "unlink 4 3", "link 0 1 2");
    }

    // ---- links and clusters

    private static void linkOfTellsTwoThings() {
        range(THREE, "linkOf 0 1 ?", 0, 1);
        range(THREE, "linkOf 0 2 ?", 0, 1);
        laid(THREE).row("linkOf 0 1 ?", 2, 0, BAD).row("linkOf 2 1 ?", 5, 2, BAD)
            .row("linkOf 4 1 ?", NONE, NONE, BAD);
    }

    private static void clustersAreSuchAsThereAre() {
        range(THREE, "cluster ? 0", 0, 2);
        range("n1;", "cluster ? 5", 0, 0);
        range("n16;m1,10;", "cluster ? 1", 0, 15);
        range(FIRST, "cluster ? 1", 0, 0);
        laid(THREE).after("delay 4 0 0, link 4 0 1").due(2, "count 2").due(2, "cluster 1 0")
            .due(BAD, "cluster 2 0", "beside 0 2 0")
            .due(1, "undo").due(4, "cluster 2 0");
    }

    private static void clusterTellsSixThings() {
        range(THREE, "cluster 0 ?", 0, 5);
        laid(THREE).row("cluster 0 ?", 0, 2, 2, 2, 1, 3, BAD).row("cluster 1 ?", 2, 2, 1, 2, 1, 12, BAD)
            .row("cluster 2 ?", 4, 1, 0, 0, 0, 16, BAD);
        laid("n1;").row("cluster 0 ?", 0, 1, 0, 0, 0, 1, BAD);
        // beside one by one link, beside another by two, not beside the third
        String row = "n5;l0,1,9;l1,2,9;l1,3,9;l2,3,1;d0,5,1;d1,5,1;d2,5,1;d3,0,1;d4,5,1;";
        laid(row).row("cluster 0 ?", 0, 1, 0, 1, 1, 1).row("cluster 1 ?", 1, 1, 0, 3, 2, 2)
            .row("cluster 2 ?", 2, 2, 1, 2, 1, 12).row("cluster 3 ?", 4, 1, 0, 0, 0, 16);
        laid("n16;m1,10;").row("cluster 15 ?", 15, 1, 0, 0, 0, 32768, BAD);
        laid("n3;l0,1,1;l1,2,1;d0,0,0;d1,9,1;d2,0,2;").row("cluster 0 ?", 1, 3, 1, 0, 0, 7, BAD);
        // all sixteen are of one
        Subject star = laid("n16;m1,0;");
        for (int i = 0; i < 15; i++) {
            star.due(i + 1, "link 15 " + i + " 1");
        }
        star.after("delay 15 30 0").row("cluster 0 ?", 15, 16, 1, 0, 0, 65535, BAD);
    }

    private static void besideIsOfTwoUnlikeClusters() {
        laid(THREE).due(BAD, "beside 0 0 0", "beside 1 1 1", "beside 2 2 0", "beside 0 3 0", "beside 3 0 1",
            "beside -1 0 0", "beside 0 -1 0",
            "beside MIN MAX 0", "beside 0 MAX 1").due(2, "beside 0 1 0", "beside 1 0 0")
            .due(4, "beside 0 1 1", "beside 1 0 1");
        laid("n1;").due(BAD, "beside 0 0 0", "beside 0 1 0", "beside 1 0 0");
        laid("n2;m1,10;").due(0, "beside 0 1 0", "beside 1 0 0").due(BAD, "beside 0 2 0", "beside 2 1 0");
    }

    private static void besideTellsTwoThings() {
        range(THREE, "beside 0 1 ?", 0, 1);
        range(THREE, "beside 0 2 ?", 0, 1);
        laid(THREE).row("beside 0 1 ?", 2, 4, BAD).row("beside 2 0 ?", 0, NONE, BAD)
            .row("beside 1 2 ?", 0, NONE, BAD);
        laid("n2;l0,1,9;m1,10;").row("beside 0 1 ?", 1, 9).due(1, "link 1 0 8").row("beside 1 0 ?", 1, 8);
    }

    // ---- tried

    private static void triedIsAsByThoseDraws() {
        int[] zs = {0, 1, 59, 77, 9998, 9999};
        int[] counts = {2, 3, 5, 6};
        for (String text : new String[] {FIRST, MIXED, "n1;",
            "n16;l0,1,1;l1,2,2;l2,3,1;l5,6,9;l6,7,1;l14,15,1;m30,9;d3,5,5;"}) {
            for (int z : zs) {
                Subject drawn = laid(text);
                drawn.ask("draws " + z);
                for (int what = 0; what < 4; what++) {
                    laid(text).due(drawn.ask("count " + counts[what]), "tried " + z + " " + what);
                }
            }
        }
        // told delays stay
        laid(THREE).row("tried 9999 ?", 3, 2, 2, 2, BAD).row("tried 0 ?", 3, 2, 2, 2, BAD);
        range(FIRST, "tried ? 0", 0, 9999);
        range(FIRST, "tried 5 ?", 0, 3);
    }

    private static void bestIsOfZBelowN() {
        for (String text : new String[] {FIRST, MIXED, "n6;l0,1,1;l1,2,1;l2,3,1;l3,4,1;l4,5,1;l5,0,1;m4,5;"}) {
            Subject drawn = laid(text);
            int[] wide = new int[60];
            int[] cut = new int[60];
            for (int z = 0; z < 60; z++) {
                drawn.ask("draws " + z);
                wide[z] = drawn.ask("count 5");
                cut[z] = drawn.ask("count 3");
            }
            for (int w : new int[] {0, 1, 2, 3, 4, 5, 6, 200}) {
                int best = NONE;
                for (int n = 1; n <= 60; n++) {
                    if (wide[n - 1] <= w && (best == NONE || cut[n - 1] < cut[best])) {
                        best = n - 1;
                    }
                    laid(text).due(best, "best " + n + " " + w + " 0")
                        .due(best == NONE ? NONE : cut[best], "best " + n + " " + w + " 1");
                }
            }
        }
    }

    private static void bestIsWideAtMostW() {
        String deep = "n5;l0,1,9;l1,2,9;l2,3,9;l3,4,3;d0,30,0;d1,0,1;d2,0,1;d3,0,1;d4,0,1;";
        laid(deep).due(0, "best 60 30 0", "best 60 30 1", "best 1 200 0")
            .due(NONE, "best 60 29 0", "best 60 29 1", "best 60 0 0");
        laid(THREE).due(0, "best 1 2 0", "best 60 2 0", "best 60 200 0").due(2, "best 60 2 1")
            .due(NONE, "best 60 1 0", "best 60 1 1");
        laid("n1;").due(0, "best 1 0 0", "best 60 0 0", "best 60 0 1");
        range(FIRST, "best ? 3 0", 1, 60);
        range(FIRST, "best 3 ? 0", 0, 200);
        range(FIRST, "best 3 3 ?", 0, 1);
        range(FIRST, "best 60 0 ?", 0, 1);
    }

    private static int common(int a, int b) {
        return b == 0 ? a : common(b, a % b);
    }

    private static void chanceIsOfZBelowNInLowestTerms() {
        int[] links = {0, 1, 1, 2, 2, 3, 3, 4, 4, 5, 5, 0, 1, 6, 6, 3};
        for (int k = 0; k < links.length; k += 2) {
            String two = links[k] + " " + links[k + 1];
            Subject drawn = laid(FIRST);
            int cut = 0;
            for (int n = 1; n <= 60; n++) {
                drawn.ask("draws " + (n - 1));
                cut += drawn.ask("linkOf " + two + " 1") == 2 ? 1 : 0;
                int both = common(cut, n);
                laid(FIRST).due(cut / both, "chance " + two + " " + n + " 0")
                    .due(n / both, "chance " + two + " " + n + " 1");
            }
        }
        // never and always
        laid(THREE).due(0, "chance 0 1 60 0", "chance 1 0 1 0", "chance 2 3 7 0")
            .due(1, "chance 0 1 60 1", "chance 0 1 1 1", "chance 3 2 7 1");
        laid(THREE).due(1, "chance 1 2 60 0", "chance 2 1 60 1", "chance 1 2 1 0", "chance 1 2 1 1",
            "chance 0 3 59 0", "chance 0 3 59 1");
        range(FIRST, "chance 0 1 ? 0", 1, 60);
        range(FIRST, "chance 0 1 5 ?", 0, 1);
        range(FIRST, "chance 0 2 ? 0", 1, 60);
        range(FIRST, "chance 0 2 5 ?", 0, 1);
    }

    private static void chanceOfNoLinkIsRefused() {
        laid(THREE).due(NO, "chance 0 2 1 0", "chance 2 0 60 1", "chance 0 4 5 0").due(2, "unlink 0 1")
            .due(NO, "chance 0 1 5 0")
            .due(0, "undo", "chance 0 1 5 0");
    }

    private static void riseIsTheLeastDelayByWhichItIsAHead() {
        for (String text : new String[] {FIRST, MIXED, THREE, "n4;l0,1,1;l1,2,2;l2,3,1;m30,10;"}) {
            int n = laid(text).ask("count 0");
            for (int i = 0; i < n; i++) {
                Subject told = laid(text);
                int fraction = told.ask("place " + i + " 1");
                laid(text).due(leastDelayOfAHead(told, i, fraction), "rise " + i);
            }
        }
    }

    private static int leastDelayOfAHead(Subject told, int i, int fraction) {
        for (int d = 0; d <= 30; d++) {
            told.after("delay " + i + " " + d + " " + fraction);
            if (told.ask("place " + i + " 4") == i) {
                return d;
            }
        }
        return NONE;
    }

    private static void riseIsNoughtToThirty() {
        laid("n1;d0,30,0;").due(0, "rise 0");
        laid("n2;d0,30,0;d1,0,999;").due(0, "rise 0", "rise 1");
        // beside one of 30, one away: its fraction decides a tie, else the lowest
        laid("n2;l0,1,1;d0,30,5;d1,0,5;").due(30, "rise 1");
        laid("n2;l0,1,1;d0,30,5;d1,0,6;").due(30, "rise 1");
        laid("n2;l0,1,1;d0,30,5;d1,0,4;").due(29, "rise 1");
        laid("n2;l0,1,1;d0,0,5;d1,30,5;").due(29, "rise 0");
        laid("n2;l0,1,1;d0,0,6;d1,30,5;").due(30, "rise 0");
        // its own delay does not count, the greatest though it be
        laid("n2;l0,1,3;d0,20,0;d1,3,9;").due(0, "rise 0");
        laid("n2;l0,1,3;d0,20,10;d1,3,9;").due(1, "rise 0");
        laid("n2;l0,1,4;d0,20,10;d1,3,9;").due(0, "rise 0");
    }

    private static void countTellsThirteenThings() {
        range(FIRST, "count ?", 0, 12);
        laid(THREE).after("draws 17").row("count ?", 5, 4, 3, 2, 0, 2, 2, 5, 17, 8, 6, 1, THREE.length(), BAD)
            .due(BAD, "count -1");
        laid("n1;d0,0,0;").row("count ?", 1, 0, 1, 0, 0, 0, 0, 1, 0, 8, 6, 0, 10, BAD);
        Subject all = laid("n16;").due(0, "count 7");
        for (int i = 0; i < 16; i++) {
            all.after("delay " + i + " 1 1").due(i + 1, "count 7");
        }
        all.due(4, "count 11").due(16, "count 2");
    }

    private static void lookingChangesNothing() {
        nothingChangesByAny(BoundaryTests::changedFourTimes, "tried 0 0", "tried 9999 1", "tried 77 2", "tried 5 3",
            "tried 10000 0", "tried -1 0",
            "tried 0 4", "best 60 200 0", "best 60 0 1", "best 1 0 0", "best 61 0 0", "best 0 0 0", "best 1 201 0",
            "chance 0 1 60 0",
            "chance 0 1 7 1", "chance 0 2 7 0", "chance 0 1 61 0", "rise 0", "rise 4", "rise 5", "rise -1", "count 0",
            "count 13");
        nothingChangesByAny(BoundaryTests::changedFourTimes, "place 0 8", "place 3 5", "place 5 0", "place 0 10",
            "far 0 3", "far 0 5", "front 0 0",
            "front 0 -1", "front 201 0", "linkOf 0 1 1", "linkOf 0 2 0", "linkOf 0 0 0", "cluster 0 5", "cluster 9 0",
            "beside 0 1 0",
            "beside 0 0 0", "fault");
    }

    private static void anObjectLastsFor512Calls() {
        Subject s = fresh();
        for (int k = 0; k < 505; k++) {
            s.due(k % 100 == 0 ? k == 0 ? NO : 99 : k % 100 - 1, "draws " + k % 100);
        }
        s.due(3, "undo").due(2, "undo").due(1, "undo").due(0, "undo").due(NO, "undo").due(0, "count 8")
            .due(7, "place 0 0");
        same("calls", s.calls, 512);
    }

    // ---- all of them

    private static void test(String words, Runnable body) {
        sentence = words;
        sentences++;
        body.run();
    }

    private static void terms() {
        test("Terms: PLACES are 1 to 16", BoundaryTests::placesAreOneToSixteen);
        test("Terms: PLACES such as there are", BoundaryTests::placesAreSuchAsThereAre);
        test("Terms: a LINK is LONG 1 to 9", BoundaryTests::linksAreOneToNineLong);
        test("Terms: a LINK joins two unlike PLACES", BoundaryTests::linksJoinUnlikePlaces);
        test("Terms: PLACES of ITEMS are such as there are", BoundaryTests::placesOfItemsAreSuchAsThereAre);
        test("Terms: 40 LINKS at most", BoundaryTests::fortyLinksAtMost);
        test("Terms: a LINK of another length when there are 40",
            BoundaryTests::whatIsLinkedCanBeOfAnotherLengthWhenFull);
        test("Terms: a LINK taken out of 40", BoundaryTests::oneTakenOutMakesRoom);
        test("Terms: the most LINKS of a text", BoundaryTests::aTextTellsAsManyLinksAsItHasLettersFor);
        test("Terms: a DELAY is 0 to 30", BoundaryTests::delaysAreNoughtToThirty);
        test("Terms: a FRACTION is 0 to 999", BoundaryTests::fractionsAreNoughtTo999);
        test("Terms: THE TEXT is 200 letters at most", BoundaryTests::theTextHas200LettersAtMost);
        test("Terms: a ; behind each ITEM", BoundaryTests::behindEachItemIsASemicolon);
        test("Terms: the numbers of ITEMS", BoundaryTests::itemsHaveTheirNumbersWithCommas);
        test("Terms: the kinds of ITEMS", BoundaryTests::itemsAreOfTheseKinds);
        test("Terms: numbers have one to four figures", BoundaryTests::numbersHaveOneToFourFigures);
        test("Terms: figures", BoundaryTests::figuresAreNoughtToNine);
        test("Terms: nN once, first of all ITEMS", BoundaryTests::nIsThereOnceAndFirst);
        test("Terms: of several LINKS of the same two the last one counts",
            BoundaryTests::ofSeveralLinksOfTwoTheLastOneCounts);
        test("Terms: of several DELAYS of one the last one counts",
            BoundaryTests::ofSeveralDelaysOfOneTheLastOneCounts);
        test("Terms: M is 1 to 30, P 0 to 10; 8, 6 without; the last one counts",
            BoundaryTests::drawnDelaysAreMAtMostByPOfTen);
        test("Terms: Z is 0 to 9999; 0 without; the last one counts", BoundaryTests::drawsAreByZ);
        test("Terms: FAULT is of the first ITEM that is not so", BoundaryTests::theFaultIsOfTheFirstItemThatIsNotSo);
        test("Terms: a TEXT that tells of no PLACES", BoundaryTests::aTextThatTellsOfNoPlacesIsNotLaid);
        test("Promise 1: at first, as told", BoundaryTests::atFirstThatTextIsLaid);
        test("Terms: DRAW is modulo 65521", BoundaryTests::drawsAreModulo65521);
        test("Terms: D is the least k, M at most", BoundaryTests::byPOfTenADelayGoesOn);
    }

    private static void joining() {
        test("2: START", BoundaryTests::startIsTheGreatestDelayLessItsOwn);
        test("2: FAR is the least sum", BoundaryTests::farIsTheLeastSum);
        test("2: FAR of one to itself is 0", BoundaryTests::farOfOneToItselfIsNought);
        test("2, promise 13: FAR of none", BoundaryTests::farOfTwoThatNothingJoinsIsNone);
        test("2: JOINS from whom it is REACHED earliest", BoundaryTests::aPlaceJoinsFromWhomItIsReachedEarliest);
        test("2: of several that of the least FRACTION", BoundaryTests::ofSeveralThatOfTheLeastFraction);
        test("2: of several the lowest", BoundaryTests::ofSeveralTheLowest);
        test("2: i may be j", BoundaryTests::whoIsNotJoinedToOthersJoinsItself);
        test("2: CLUSTERS are numbered by their HEADS, rising", BoundaryTests::clustersAreNumberedByTheirHeadsRising);
        test("2: UP is the lowest of its CLUSTER", BoundaryTests::upIsTheLowestOfItsClusterThatFits);
        test("2: WIDE is the greatest DEPTH", BoundaryTests::wideIsTheGreatestDepth);
        test("2: of THE TREE, SPARE, CUT", BoundaryTests::linksAreOfTheTreeSpareOrCut);
    }

    private static void told() {
        test("Promise 2: letters 32 to 126", BoundaryTests::lettersAre32To126);
        test("Promise 2: how long it is", BoundaryTests::writeAnswersHowLongTheTextIs);
        test("Promise 2: BAD ahead of FULL", BoundaryTests::badIsAheadOfFullOfLetters);
        test("Promise 3: how long it was", BoundaryTests::wipeAnswersHowLongItWas);
        test("Promise 5: LAID is all anew", BoundaryTests::layForgetsWhatWas);
        test("3: THE TEXT stays when it is LAID", BoundaryTests::theTextStaysWhenItIsLaid);
        test("Promise 5: nothing can be UNDONE behind LAID", BoundaryTests::nothingCanBeUndoneBehindLaid);
        test("Promise 5: NO changes nothing", BoundaryTests::aRefusedLayLeavesAllThatCanBeUndone);
        test("Promise 4: fault changes nothing", BoundaryTests::faultChangesNothing);
        test("Promises 2, 3: the text alone", BoundaryTests::writingAndWipingChangeNoPlaces);
    }

    private static void changes() {
        test("Promise 6: how many LINKS there are", BoundaryTests::linkAnswersHowManyThereAre);
        test("Promise 6: NO: it is so already", BoundaryTests::aLinkThatIsSoAlreadyIsRefused);
        test("Promise 6: NO ahead of FULL", BoundaryTests::noIsAheadOfFullOfLinks);
        test("Promise 6: BAD ahead of FULL", BoundaryTests::badIsAheadOfFullOfLinks);
        test("Promise 7: how LONG it was; NO: there is none", BoundaryTests::unlinkAnswersHowLongItWas);
        test("Promise 8: what its DELAY was", BoundaryTests::delayAnswersWhatItWas);
        test("Promise 9: NO: they are not told", BoundaryTests::drawnIsForThoseThatAreTold);
        test("Promise 10: what Z was; NO: it is so", BoundaryTests::drawsAnswersWhatZWas);
        test("Promises 6, 8, 10: numbers that are BAD", BoundaryTests::numbersOfChangesAreWithinTheirBounds);
        test("Promise 11: each change", BoundaryTests::eachChangeCanBeUndone);
        test("3: the last 4 can be UNDONE", BoundaryTests::theLastFourCanBeUndone);
        test("3: the fifth, of any kind, can not", BoundaryTests::theFifthOfAnyKindIsTooLongAgo);
        test("3: the last 4, over and over", BoundaryTests::undoneOnesMakeRoom);
        test("3: the last 4 of all kinds", BoundaryTests::manyOfAllKindsAreUndoneOneByOne);
        test("Promise 11: NO", BoundaryTests::withoutChangesNothingIsUndone);
        test("3: nothing changes by a refused change", BoundaryTests::aRefusedChangeChangesNothing);
        test("3: nothing changes by FULL", BoundaryTests::aCallRefusedForFullnessChangesNothing);
    }

    private static void looks() {
        test("Promise 12: what is 0 to 9", BoundaryTests::placeTellsTenThings);
        test("Promise 12: LINKS of a PLACE", BoundaryTests::linksOfAPlace);
        test("Promise 14: hours 0 to 200", BoundaryTests::hoursOfAFrontAreNoughtTo200);
        test("Promise 14: k from -1 on", BoundaryTests::kOfAFrontIsFromMinusOneOn);
        test("3: BAD ahead of NONE", BoundaryTests::badIsAheadOfNone);
        test("3: BAD ahead of NO", BoundaryTests::badIsAheadOfNo);
        test("Promise 15: what is 0 or 1; NONE", BoundaryTests::linkOfTellsTwoThings);
        test("Promise 16: CLUSTERS such as there are", BoundaryTests::clustersAreSuchAsThereAre);
        test("Promise 16: what is 0 to 5", BoundaryTests::clusterTellsSixThings);
        test("Promise 17: two unlike CLUSTERS", BoundaryTests::besideIsOfTwoUnlikeClusters);
        test("Promise 17: what is 0 or 1; NONE", BoundaryTests::besideTellsTwoThings);
    }

    private static void tries() {
        test("Promise 18: z 0 to 9999, what 0 to 3", BoundaryTests::triedIsAsByThoseDraws);
        test("Promise 19: z from 0 to n less 1, fewest, the lowest", BoundaryTests::bestIsOfZBelowN);
        test("Promise 19: n 1 to 60, w 0 to 200; NONE", BoundaryTests::bestIsWideAtMostW);
        test("Promise 20: z 0 to n less 1, lowest terms", BoundaryTests::chanceIsOfZBelowNInLowestTerms);
        test("Promise 20: NO: there is no such LINK", BoundaryTests::chanceOfNoLinkIsRefused);
        test("Promise 21: the least DELAY", BoundaryTests::riseIsTheLeastDelayByWhichItIsAHead);
        test("Promise 21: 0 to 30", BoundaryTests::riseIsNoughtToThirty);
        test("Promise 22: what is 0 to 12", BoundaryTests::countTellsThirteenThings);
        test("3: nothing changes by looking", BoundaryTests::lookingChangesNothing);
        test("512 calls", BoundaryTests::anObjectLastsFor512Calls);
    }

    public static void main(String[] args) {
        terms();
        joining();
        told();
        changes();
        looks();
        tries();
        System.out.println(wrong == 0 ? sentences + " sentences hold" : wrong + " answers are not as due");
        if (wrong != 0) {
            System.exit(1);
        }
    }
}
