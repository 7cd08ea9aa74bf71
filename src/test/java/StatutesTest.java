import java.nio.charset.StandardCharsets;
import java.util.ArrayList;
import java.util.List;
import java.util.Random;
import java.util.regex.Matcher;
import java.util.regex.Pattern;

/** Promises 4 and 5: the statutes as a text, and its faults. */
public final class StatutesTest {
    public static void main(String[] args) {
        rulesAreCounted();
        faults();
        faultyOnesStay();
        untoldOnesAreAsWithoutAText();
        allBytes();
        againstAnotherReader();
        Check.finish();
    }

    private static void dueFault(String text, int place, int kind) {
        YamRiders post = new YamRiders();
        Check.due("statutes of " + text, Check.statutes(post, text), -1 - place);
        Check.due("fault of " + text, post.fault(), kind);
        Check.due("tape of " + text, post.count(5), 0);
    }

    private static void dueRules(String text, int rules) {
        YamRiders post = new YamRiders();
        Check.due("statutes of " + text, Check.statutes(post, text), rules);
        Check.due("fault of " + text, post.fault(), 0);
        Check.due("tape of " + text, post.count(5), 0);
    }

    private static void rulesAreCounted() {
        dueRules("", 0);
        dueRules(" \n \n", 0);
        dueRules("tire 1;", 1);
        dueRules("tire 9;rest 0;hunger 0;keep 1 0;keep 2 20;keep 3 20;", 6);
        dueRules("\n tire\n009 ;\nrest  50\n;hunger 050;keep 003 00;", 4);
    }

    private static void faults() {
        dueFault("tire", 4, 2);
        dueFault("tire 2", 6, 2);
        dueFault("tire 2  \n", 9, 2);
        dueFault(";", 0, 2);
        dueFault("  5", 2, 2);
        dueFault("tire ;", 5, 2);
        dueFault("tire tire", 5, 2);
        dueFault("tire 2 3;", 7, 2);
        dueFault("tire 2 rest 3;", 7, 2);
        dueFault("tires 2;", 0, 2);
        dueFault("tir 2;", 0, 2);
        dueFault("keep 1;", 6, 2);
        dueFault("keep 1 2 3;", 9, 2);
        dueFault("tire 2;;", 7, 2);
        dueFault("tire 0;", 5, 3);
        dueFault("tire 10;", 5, 3);
        dueFault("rest 51;", 5, 3);
        dueFault("hunger 51;", 7, 3);
        dueFault("keep 0 1;", 5, 3);
        dueFault("keep 4 1;", 5, 3);
        dueFault("keep 3 21;", 7, 3);
        dueFault("tire 1;tire 1;", 7, 4);
        dueFault("tire 1;tire", 7, 4);
        dueFault("tire 1;tire 99;", 7, 4);
        dueFault("rest 1;tire 1;rest 1;", 14, 4);
        dueFault("hunger 1;hunger 1;", 9, 4);
        dueFault("keep 2 1;keep 2 1;", 14, 4);
        dueFault("keep 2 1;keep 2 99;", 14, 4);
        dueFault("tire 1;rest tire;", 12, 2);
        dueFault("keep 1 1;keep 2 2;keep 3 3;keep 1 1;", 32, 4);
        dueFault("keep 1 1;keep 2 2;keep 3 3;keep 4 1;", 32, 3);
        dueFault("tire 1000;", 5, 1);
        dueFault("tire 0001;", 5, 1);
        dueFault("tire2;", 0, 1);
        dueFault("tire 2x;", 5, 1);
        dueFault("tire 2;x2;", 7, 1);
        dueFault("TIRE 2;", 0, 1);
        dueFault("tiRe 2;", 0, 1);
        dueFault("tire 2,", 6, 1);
        dueFault("tire\t2;", 4, 1);
        dueFault("tire 2;\r", 7, 1);
        dueFault("tire 2;\0", 7, 1);
        dueFault("tire -2;", 5, 1);
        dueFault("foo !", 0, 2);
        dueFault("tire ! ;", 5, 1);
        dueFault("tire \u00e9;", 5, 1);
        dueFault("keep 1 21;", 7, 3);
        dueFault("keep 2 21;", 7, 3);
        dueFault("xire 2;", 0, 2);
        dueFault("tirx 2;", 0, 2);
        dueFault("tireA 2;", 0, 1);
        dueFault("tireZ 2;", 0, 1);
        dueFault("tire@", 4, 1);
        dueFault("tire[", 4, 1);
        String all = "tire 9;rest 0;hunger 0;keep 1 0;keep 2 20;keep 3 20;";
        dueFault(all + ";", all.length(), 2);
        dueFault(all + "!", all.length(), 1);
        dueFault(all + "rest 1;", all.length(), 4);
        dueFault(all + "keep", all.length() + 4, 2);
    }

    private static void faultyOnesStay() {
        YamRiders post = new YamRiders();
        post.horse(0, 100);
        Check.due("hunger 7", Check.statutes(post, "hunger 7;"), 1);
        Check.due("a fault", Check.statutes(post, "hunger 9;hunger 8;"), -10);
        Check.due("kind", post.fault(), 4);
        Check.due("kind again", post.fault(), 4);
        post.next();
        Check.due("strength", post.steed(0, 0), 93);
        Check.due("kind after", post.fault(), 4);
        post.leading();
        Check.due("none", Check.statutes(post, ""), 0);
        Check.due("no kind", post.fault(), 0);
    }

    private static void untoldOnesAreAsWithoutAText() {
        YamRiders post = new YamRiders();
        post.horse(0, 50);
        Check.statutes(post, "hunger 7;rest 9;");
        post.next();
        Check.due("hunger 7", post.steed(0, 0), 43);
        Check.statutes(post, "tire 1;");
        post.next();
        Check.due("hunger 1", post.steed(0, 0), 42);
        post.fodder(0, 1);
        post.next();
        Check.due("rest 3", post.steed(0, 0), 45);
    }

    private static void allBytes() {
        for (int sign = 0; sign < 256; sign++) {
            String text = "tire 1;" + (char) sign;
            boolean blank = sign == 32 || sign == 10;
            boolean token = sign == ';' || sign >= '0' && sign <= '9' || sign >= 'a' && sign <= 'z';
            if (blank) {
                dueRules(text, 1);
            } else {
                dueFault(text, 7, token ? 2 : 1);
            }
        }
    }

    private static void againstAnotherReader() {
        Random random = new Random(7);
        String[] parts = {"tire", "rest", "hunger", "keep", ";", " ", "\n", "1", "2", "3", "20", "50", "9", "0", "21",
            "51", "999", "1000", "x", "X", "tire 3;", "rest 7 ;", "hunger 1;", "keep 1 4;", "keep 2 0;", "keep 3 20;",
            " ", ";", "\0", "\u00ff", "?"};
        for (int run = 0; run < 20000; run++) {
            StringBuilder text = new StringBuilder();
            int count = random.nextInt(14);
            for (int i = 0; i < count; i++) {
                text.append(parts[random.nextInt(parts.length)]);
            }
            compareReaders(text.toString());
        }
    }

    private static void compareReaders(String text) {
        int[] want = read(text);
        YamRiders post = new YamRiders();
        String shown = text.replace('\n', '_');
        Check.due("statutes of " + shown, Check.statutes(post, text), want[0]);
        Check.due("fault of " + shown, post.fault(), want[1]);
    }

    private static final Pattern TOKEN = Pattern.compile("[A-Za-z0-9]+|[^ \n]");

    /** Marks each token with a sign for what it is, and looks how far a pattern goes along. */
    private static int[] read(String text) {
        List<String> tokens = new ArrayList<>();
        List<Integer> places = new ArrayList<>();
        Matcher matcher = TOKEN.matcher(text);
        while (matcher.find()) {
            tokens.add(matcher.group());
            places.add(matcher.start());
        }
        List<String> told = new ArrayList<>();
        List<String> rule = new ArrayList<>();
        for (int i = 0; i < tokens.size(); i++) {
            int kind = kindOf(rule, tokens.get(i), told);
            if (kind != 0) {
                return new int[] {-1 - places.get(i), kind};
            }
            rule.add(tokens.get(i));
            if (tokens.get(i).equals(";")) {
                rule.clear();
            }
        }
        if (!rule.isEmpty()) {
            return new int[] {-1 - text.getBytes(StandardCharsets.ISO_8859_1).length, 2};
        }
        return new int[] {told.size(), 0};
    }

    private static int kindOf(List<String> rule, String token, List<String> told) {
        if (!token.matches("[a-z]+|[0-9]{1,3}|;")) {
            return 1;
        }
        if (rule.isEmpty()) {
            if (!token.matches("tire|rest|hunger|keep")) {
                return 2;
            }
            return token.equals("keep") ? 0 : tell(token, told);
        }
        boolean keep = rule.get(0).equals("keep");
        if (rule.size() == (keep ? 3 : 2)) {
            return token.equals(";") ? 0 : 2;
        }
        if (!token.matches("[0-9]+")) {
            return 2;
        }
        int value = Integer.parseInt(token);
        if (keep && rule.size() == 1) {
            return value < 1 || value > 3 ? 3 : tell("keep" + value, told);
        }
        int most = keep ? 20 : rule.get(0).equals("tire") ? 9 : 50;
        int least = rule.get(0).equals("tire") ? 1 : 0;
        return value < least || value > most ? 3 : 0;
    }

    private static int tell(String what, List<String> told) {
        if (told.contains(what)) {
            return 4;
        }
        told.add(what);
        return 0;
    }
}
