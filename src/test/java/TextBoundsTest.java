import java.util.Arrays;

/** The sentences of the document's part 1 on the statutes' text, and of promises 2 to 5, at their bounds. */
public final class TextBoundsTest {
    public static void main(String[] args) {
        twentyBytesHighestFirst();
        tapeOfTwoHundred();
        endAtEachLength();
        wordsAreSmallLetters();
        numbersHaveOneToThreeDigits();
        blanksAreTwoSigns();
        blanksBetweenOrNot();
        aWordGoesOnAsLongAsLettersAndDigitsDo();
        tireOneToNine();
        restUpToFifty();
        hungerUpToFifty();
        keepRanksOneToThree();
        keepUpToTwenty();
        eachOnceAtMost();
        keepOnceForEachRank();
        theFirstFaultAlongTheText();
        ofOneTokenTheLeast();
        theEndIsAtHowManyBytesThereAre();
        whatIsNotTold();
        faultIsOfTheLatest();
        theTapeIsEmptyThen();
        Check.finish();
    }

    private static void due(String text, int answer, int kind) {
        YamRiders post = new YamRiders();
        String shown = text.replace('\n', '_');
        Check.due("statutes of " + shown, Check.statutes(post, text), answer);
        Check.due("fault of " + shown, post.fault(), kind);
        Check.due("tape behind " + shown, post.count(5), 0);
    }

    private static void good(String text, int rules) {
        due(text, rules, 0);
    }

    private static void fault(String text, int place, int kind) {
        due(text, -1 - place, kind);
    }

    /** "Twenty bytes come behind the tape, of each number the highest first." */
    private static void twentyBytesHighestFirst() {
        YamRiders post = new YamRiders();
        Check.due("feed", post.feed(0x74697265, 0x20373b72, 0x65737420, 0x33393b68, 0x756e6765), 20);
        Check.due("feed", post.feed(0x72203131, 0x3b202020, 0x20202020, 0x0a0a0a0a, 0x20202020), 40);
        Check.due("tire 7;rest 39;hunger 11;", post.statutes(), 3);
        for (int place = 0; place < 20; place++) {
            for (int sign : new int[] {0, 1, 127, 128, 255}) {
                int[] numbers = new int[5];
                Arrays.fill(numbers, 0x20202020);
                int shift = 24 - 8 * (place % 4);
                numbers[place / 4] = numbers[place / 4] & ~(255 << shift) | sign << shift;
                Check.due("feed", post.feed(numbers[0], numbers[1], numbers[2], numbers[3], numbers[4]), 20);
                Check.due("byte " + sign + " at " + place, post.statutes(), -1 - place);
                Check.due("is no token", post.fault(), 1);
            }
        }
    }

    /** "how many it has; NONE, and none come, if it would have more than 200" */
    private static void tapeOfTwoHundred() {
        for (int before = 175; before <= 200; before++) {
            YamRiders post = new YamRiders();
            for (int i = 0; i < 10; i++) {
                post.feed(0x20202020, 0x20202020, 0x20202020, 0x20202020, 0x20202020);
            }
            Check.yes("end", post.end(before));
            boolean room = before <= 180;
            Check.due("feed behind " + before, post.feed(0x20202021, 0, 0, 0, 0), room ? before + 20 : -1);
            Check.due("bytes", post.count(5), room ? before + 20 : before);
            Check.due("the bytes that came", post.statutes(), room ? -1 - before - 3 : 0);
        }
    }

    /** "The tape has its first n bytes alone: true; false, if it has not so many, or n is below 0." */
    private static void endAtEachLength() {
        for (int has = 0; has <= 40; has += 20) {
            for (int n = -2; n <= has + 2; n++) {
                YamRiders post = new YamRiders();
                for (int fed = 0; fed < has; fed += 20) {
                    post.feed(0x20202020, 0x20202020, 0x20202020, 0x20202020, 0x20202021);
                }
                boolean fits = n >= 0 && n <= has;
                Check.due("end(" + n + ") of " + has, post.end(n) ? 1 : 0, fits ? 1 : 0);
                Check.due("bytes", post.count(5), fits ? n : has);
                int left = fits ? n : has;
                Check.due("the first bytes", post.statutes(), left >= 20 ? -20 : 0);
            }
        }
    }

    /** "WORDS (small letters)": the signs beside a and z are none. */
    private static void wordsAreSmallLetters() {
        fault("a", 0, 2);
        fault("z", 0, 2);
        fault("`", 0, 1);
        fault("{", 0, 1);
        fault("A", 0, 1);
        fault("Z", 0, 1);
        fault("tire`2;", 4, 1);
        fault("tire{2;", 4, 1);
        fault("tir", 0, 2);
        fault("tiree", 0, 2);
        fault("TIRE 2;", 0, 1);
        fault("ire 2;", 0, 2);
        for (String word : new String[] {"tire", "rest", "hunger", "keep"}) {
            for (int i = 0; i < word.length(); i++) {
                fault(word.substring(0, i) + "x" + word.substring(i + 1) + " 1 1;", 0, 2);
                fault(word.substring(0, i) + word.substring(i + 1) + " 1 1;", 0, 2);
            }
        }
    }

    /** "NUMBERS (1 to 3 digits)": the signs beside 0 and 9 are none. */
    private static void numbersHaveOneToThreeDigits() {
        good("rest 5;", 1);
        good("rest 05;", 1);
        good("rest 005;", 1);
        fault("rest 0005;", 5, 1);
        fault("rest 00005;", 5, 1);
        fault("rest 999;", 5, 3);
        fault("rest 1000;", 5, 1);
        fault("rest 2147483648;", 5, 1);
        fault("rest 4294967297;", 5, 1);
        fault("rest 18446744073709551617;", 5, 1);
        fault("rest /;", 5, 1);
        fault("rest 5/;", 6, 1);
        fault("rest :;", 5, 1);
        fault("rest 5:", 6, 1);
        fault("rest -5;", 5, 1);
        fault("rest +5;", 5, 1);
        good("rest 000;", 1);
        good("keep 001 020;", 1);
    }

    /** "blanks (32, 10)" and no others */
    private static void blanksAreTwoSigns() {
        for (int sign = 0; sign < 256; sign++) {
            boolean word = sign >= 'a' && sign <= 'z' || sign >= '0' && sign <= '9' || sign >= 'A' && sign <= 'Z';
            if (sign == 32 || sign == 10) {
                good("tire" + (char) sign + "2;", 1);
            } else if (word) {
                fault("tire" + (char) sign + "2;", 0, 1);
            } else {
                fault("tire" + (char) sign + "2;", 4, sign == ';' ? 2 : 1);
            }
        }
    }

    /** "with blanks between or not" */
    private static void blanksBetweenOrNot() {
        good("tire 2;rest 3;", 2);
        good("  tire   2  ;  rest\n\n3 \n;\n\n", 2);
        good("keep 1 1;keep 2 2;", 2);
        good("keep\n1\n1\n;\nkeep\n2\n2\n;", 2);
        good("tire 2 ;", 1);
        fault("keep 11;", 5, 3);
        fault("keep 1;", 6, 2);
        fault("keep1 1;", 0, 1);
        fault("tire2;", 0, 1);
        fault("ti re 2;", 0, 2);
        fault("tire 2;rest3;", 7, 1);
    }

    /** "a WORD, NUMBER goes on as long as letters and digits do; where it is not as told then it is no TOKEN" */
    private static void aWordGoesOnAsLongAsLettersAndDigitsDo() {
        fault("tire2", 0, 1);
        fault("2tire", 0, 1);
        fault("tire 2;2;", 7, 2);
        fault("tire 2;2x;", 7, 1);
        fault("tire 2x;", 5, 1);
        fault("tire x2;", 5, 1);
        fault("tire 2 x;", 7, 2);
        fault("tire 12a;", 5, 1);
        fault("tire 123a;", 5, 1);
        fault("t1re 2;", 0, 1);
        fault("keep 1a 2;", 5, 1);
        fault("keep 1 2a;", 7, 1);
        fault("tire;2", 4, 2);
        fault("tire 2;rest;3", 11, 2);
        fault("tireX 2;", 0, 1);
        fault("tiXre 2;", 0, 1);
        fault("tire 2X;", 5, 1);
        fault("a".repeat(200), 0, 2);
        fault("7".repeat(200), 0, 1);
        fault("a".repeat(199) + "7", 0, 1);
        fault(" ".repeat(199) + "7", 199, 2);
    }

    private static void dueWithin(String word, int least, int most) {
        int place = word.length() + 1;
        for (int number = 0; number <= 999; number++) {
            String text = word + " " + number + ";";
            if (number >= least && number <= most) {
                good(text, 1);
            } else {
                fault(text, place, 3);
            }
        }
    }

    /** "'tire' NUMBER (1 to 9)": the bounds hold in what an hour does, too. */
    private static void tireOneToNine() {
        dueWithin("tire", 1, 9);
        for (int tire : new int[] {1, 2, 8, 9}) {
            YamRiders post = new YamRiders();
            Check.due("tire", Check.statutes(post, "tire " + tire + ";rest 0;"), 2);
            post.road(0, 1, 3);
            post.fodder(0, 9);
            post.horse(0, 3 * tire + 1);
            post.tablet(1);
            post.ride(0, 0, 1);
            Check.hoursGoBy(post, 3);
            Check.dueSteed(post, 0, 1, 1);
        }
    }

    /** "'rest' NUMBER (0 to 50)" */
    private static void restUpToFifty() {
        dueWithin("rest", 0, 50);
        for (int rest : new int[] {0, 1, 49, 50}) {
            YamRiders post = new YamRiders();
            Check.statutes(post, "rest " + rest + ";");
            post.fodder(0, 1);
            post.horse(0, 20);
            post.next();
            Check.dueSteed(post, 0, 20 + rest, 0);
        }
    }

    /** "'hunger' NUMBER (0 to 50)" */
    private static void hungerUpToFifty() {
        dueWithin("hunger", 0, 50);
        for (int hunger : new int[] {0, 1, 49, 50}) {
            YamRiders post = new YamRiders();
            Check.statutes(post, "hunger " + hunger + ";");
            post.horse(0, 80);
            post.next();
            Check.dueSteed(post, 0, 80 - hunger, 0);
        }
    }

    /** "'keep' NUMBER (1 to 3)" */
    private static void keepRanksOneToThree() {
        for (int rank = 0; rank <= 999; rank++) {
            String text = "keep " + rank + " 7;";
            if (rank >= 1 && rank <= 3) {
                good(text, 1);
            } else {
                fault(text, 5, 3);
            }
        }
        for (int told = 1; told <= 3; told++) {
            for (int rank = 1; rank <= 3; rank++) {
                Check.due("keep of " + told + " for " + rank, leavesWith(told, rank), told == rank ? 5 : 1);
            }
        }
    }

    /** With how many horses at the station one of a rank leaves, when keep is 4 for the told rank alone. */
    private static int leavesWith(int told, int rank) {
        YamRiders post = new YamRiders();
        Check.due("keep", Check.statutes(post, "keep " + told + " 4;"), 1);
        post.road(0, 1, 24);
        post.tablet(rank);
        post.ride(0, 0, 1);
        int horses = 0;
        while (post.rider(0, 0) == 0 && horses < 30) {
            horses++;
            post.horse(0, 100);
            post.next();
        }
        return horses;
    }

    /** "NUMBER (0 to 20)" for each rank */
    private static void keepUpToTwenty() {
        for (int rank = 1; rank <= 3; rank++) {
            dueWithin("keep " + rank, 0, 20);
        }
    }

    /** "each once at most" */
    private static void eachOnceAtMost() {
        good("tire 1;rest 1;hunger 1;", 3);
        fault("tire 1;tire 1;", 7, 4);
        fault("rest 1;rest 1;", 7, 4);
        fault("hunger 1;hunger 1;", 9, 4);
        fault("tire 1;rest 1;hunger 1;tire 1;", 23, 4);
        fault("tire 1;rest 1;hunger 1;rest 1;", 23, 4);
        fault("tire 1;rest 1;hunger 1;hunger 1;", 23, 4);
        fault("tire 1;\n tire 2;", 9, 4);
        String all = "tire 9;rest 50;hunger 50;keep 1 20;keep 2 20;keep 3 20;";
        good(all, 6);
        good(all + "\n", 6);
        fault(all + "tire 1;", all.length(), 4);
        fault(all + "rest 1;", all.length(), 4);
        fault(all + "hunger 1;", all.length(), 4);
        fault(all + "keep 3 1;", all.length() + 5, 4);
        fault(all + "keep 4 1;", all.length() + 5, 3);
        fault(all + ";", all.length(), 2);
        fault(all + "!", all.length(), 1);
        YamRiders post = new YamRiders();
        for (int i = 0; i < 3; i++) {
            Check.due("once in each text", Check.statutes(post, "tire 1;"), 1);
        }
    }

    /** "keep once for each first NUMBER (a RANK)": "keep: at the RANK" */
    private static void keepOnceForEachRank() {
        good("keep 3 1;keep 1 1;keep 2 1;", 3);
        for (int rank = 1; rank <= 3; rank++) {
            for (int other = 1; other <= 3; other++) {
                String text = "keep " + rank + " 1;keep  " + other + " 1;";
                if (rank == other) {
                    fault(text, 15, 4);
                } else {
                    good(text, 2);
                }
                fault("keep 1 1;keep 2 1;keep 3 1;keep 00" + rank + " 1;", 32, 4);
            }
        }
        fault("keep 1 1;keep 001 2;", 14, 4);
    }

    /** "FAULTS, the first along the text": of each two kinds, in each order. */
    private static void theFirstFaultAlongTheText() {
        String[] texts = {"! ", "; ", "tire 0;", "keep 1 1;keep 1 1;"};
        int[] places = {0, 0, 5, 14};
        for (int first = 0; first < 4; first++) {
            fault("rest 1;" + texts[first], 7 + places[first], 1 + first);
            for (String second : texts) {
                fault("rest 1;" + texts[first] + second, 7 + places[first], 1 + first);
                fault("rest 1;" + texts[first] + second + "tire", 7 + places[first], 1 + first);
            }
        }
        fault("tire 1;tire 0;", 7, 4);
        fault("tire 1;tire !", 7, 4);
        fault("keep 1 1;keep 1 99;", 14, 4);
        fault("keep 1 1;keep !", 14, 1);
    }

    /** "of one TOKEN the least" */
    private static void ofOneTokenTheLeast() {
        fault("tire !", 5, 1);
        fault("tire 1000;", 5, 1);
        fault("tire 2 1000;", 7, 1);
        fault("tire 2 x2", 7, 1);
        fault("keep 1000 1;", 5, 1);
        fault("tire 2 99;", 7, 2);
        fault("99", 0, 2);
        fault("tire 1;rest tire", 12, 2);
        fault("tire 1;rest 1 tire", 14, 2);
        fault("tire 1;keep tire", 12, 2);
        fault("tire 1;tire1", 7, 1);
        fault("keep 1 1;keep 4 1;", 14, 3);
        fault("keep 1 1;keep 0 1;", 14, 3);
        fault("keep 1 1;keep 1001 1;", 14, 1);
    }

    /** "(the end: how many bytes there are)", blanks behind the last token counted; up to a full tape */
    private static void theEndIsAtHowManyBytesThereAre() {
        good("", 0);
        good(" ", 0);
        good("\n".repeat(200), 0);
        String[] unended = {"tire", "tire 1", "keep", "keep 1", "keep 1 1", "rest 1;hunger 1;tire"};
        for (String text : unended) {
            fault(text, text.length(), 2);
            fault(text + " ", text.length() + 1, 2);
            fault(text + "\n ", text.length() + 2, 2);
            fault(text + " ".repeat(199 - text.length()), 199, 2);
            fault(text + " ".repeat(200 - text.length()), 200, 2);
        }
        good("tire 1" + " ".repeat(193) + ";", 1);
        good(" ".repeat(193) + "tire 1;", 1);
        fault(" ".repeat(194) + "tire 1", 200, 2);
    }

    /** "What is not told: tire 2, rest 3, hunger 1, keep 0 for all", whatever was told in an earlier text */
    private static void whatIsNotTold() {
        for (String earlier : new String[] {null, "tire 9;rest 50;hunger 50;keep 1 20;keep 2 20;keep 3 20;"}) {
            YamRiders post = new YamRiders();
            if (earlier != null) {
                Check.due("told", Check.statutes(post, earlier), 6);
                Check.due("nothing told", Check.statutes(post, ""), 0);
            }
            post.road(0, 1, 5);
            post.fodder(0, 1);
            for (int rank = 1; rank <= 3; rank++) {
                post.horse(0, rank == 1 ? 10 : 30);
                post.tablet(rank);
                post.ride(rank - 1, 0, 1);
            }
            post.next();
            Check.dueSteed(post, 0, 13, -1);
            Check.dueSteed(post, 1, 29, -1);
            Check.hoursGoBy(post, 4);
            Check.dueSteed(post, 0, 3, 1);
            Check.dueSteed(post, 2, 19, 1);
        }
    }

    /** "The kind of the FAULT of the latest statutes(); 0 without one and ahead of any." */
    private static void faultIsOfTheLatest() {
        YamRiders post = new YamRiders();
        Check.due("ahead of any", post.fault(), 0);
        String[] texts = {"!", ";", "tire 0;", "tire 1;tire", "", "tire 1;", "tire 0;", "!", " "};
        int[] kinds = {1, 2, 3, 4, 0, 0, 3, 1, 0};
        for (int i = 0; i < texts.length; i++) {
            int before = post.fault();
            Check.feedBytes(post, texts[i].getBytes());
            Check.due("not yet read", post.fault(), before);
            post.statutes();
            Check.due("fault of " + texts[i], post.fault(), kinds[i]);
            post.leading();
            post.next();
            Check.due("still", post.fault(), kinds[i]);
        }
    }

    /** "The tape (empty then) are the STATUTES" */
    private static void theTapeIsEmptyThen() {
        for (String text : new String[] {"", "tire 1;", "tire", "!", "tire 0;", "tire 1;tire"}) {
            YamRiders post = new YamRiders();
            Check.statutes(post, text);
            Check.due("bytes", post.count(5), 0);
            Check.no("end(1)", post.end(1));
            Check.due("statutes again", post.statutes(), 0);
            Check.due("feed", post.feed(0, 0, 0, 0, 0), 20);
        }
    }
}
