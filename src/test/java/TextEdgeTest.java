import java.util.Arrays;
import java.util.function.ToLongFunction;

/** Terms, part 1: each bound of a TEXT and each FAULT, at the last that is taken and the first that is refused. */
public final class TextEdgeTest {
    private static final String SIX_HOLES = "hole 0 outer 1;hole 0 left 1;hole 0 right 1;hole 0 rim 1;hole 1 outer 1;"
            + "hole 1 left 1;";

    private static final String NO_CAUSE = "cause thorn 0;cause kerb 0;cause spoke 0;cause valve 0;";

    private TextEdgeTest() {
    }

    public static void main(String[] args) {
        settings();
        inches();
        holes();
        causes();
        tries();
        riders();
        eachPlaceOfALine();
        eachPlaceOfAnExpr();
        bytes();
        words();
        lengths();
        within();
        nots();
        values();
        toldTwice();
        placeThatHasAHole();
        noCause();
        tubeAtTheBeginning();
        firstAlongTheText();
        leastOfOneToken();
        priorities();
        arithmetic();
        allAnew();
        Due.end();
    }

    private static void taken(String text) {
        BucketTube x = new BucketTube();
        Due.due("taken: " + text, 0, Due.shed(x, text));
        Due.due("no place: " + text, -1, x.fault());
        Due.due("STATUS: " + text, 0, x.count(19));
    }

    private static void refused(int fault, int place, String text) {
        BucketTube x = new BucketTube();
        Due.due("FAULT of " + text, fault, Due.shed(x, text));
        Due.due("place in " + text, place, x.fault());
        Due.due("STATUS: " + text, 1, x.count(19));
        Due.due("HOLES stay: " + text, 0, x.count(8));
        Due.due("INCHES stay: " + text, 48, x.count(0));
    }

    /** A NUMBER where a % stands: the ends of what is taken, one beside them, and how it is read. */
    private static void number(String text, int least, int most, ToLongFunction<BucketTube> read) {
        int place = text.indexOf('%');
        if (least > 0) {
            refused(2, place, text.replace("%", "" + (least - 1)));
        }
        refused(2, place, text.replace("%", "" + (most + 1)));
        refused(2, place, text.replace("%", "9999"));
        refused(2, place, text.replace("%", "10000"));
        refused(2, place, text.replace("%", String.format("%05d", least)));
        refused(2, place, text.replace("%", "99999999999999999999"));
        refused(2, place, text.replace("%", "4294967297"));
        refused(1, place, text.replace("%", "-1"));
        for (int number : new int[] {least, most, (least + most) / 2}) {
            String plain = text.replace("%", "" + number);
            taken(plain);
            Due.due("read: " + plain, number, read.applyAsLong(Due.tube(plain)));
            String wide = text.replace("%", String.format("%04d", number));
            taken(wide);
            Due.due("read: " + wide, number, read.applyAsLong(Due.tube(wide)));
        }
    }

    private static void settings() {
        number("hand %;", 1, 9, x -> x.count(1));
        number("miss %;", 1, 99, x -> x.count(2));
        number("noise %;", 1, 99, x -> x.count(3));
        number("pressure %;", 1, 100, x -> x.count(4));
        number("clung % 50;", 0, 99, x -> x.count(6));
        number("clung 30 %;", 1, 99, x -> x.count(7));
        String[] lines = {"hand 4;", "miss 4;", "noise 4;", "pressure 4;", "mark 4;", "clung 4 5;"};
        long[][] want = {{4, 60, 90, 60, 0, 30, 50}, {3, 4, 90, 60, 0, 30, 50}, {3, 60, 4, 60, 0, 30, 50},
            {3, 60, 90, 4, 0, 30, 50}, {3, 60, 90, 60, 4, 30, 50}, {3, 60, 90, 60, 0, 4, 5}};
        for (int i = 0; i < lines.length; i++) {
            for (int what = 1; what <= 7; what++) {
                Due.due(lines[i] + " count " + what, want[i][what - 1], Due.tube(lines[i]).count(what));
            }
        }
    }

    private static void inches() {
        number("tube %;", 12, 84, x -> x.count(0));
        Due.due("48 without", 48, Due.tube("hand 1;").count(0));
        for (int inches : new int[] {12, 13, 47, 48, 49, 83, 84}) {
            String tube = "tube " + inches + ";";
            number(tube + "mark %;", 0, inches - 1, x -> x.count(5));
            number(tube + "hole % left 1;", 0, inches - 1, x -> x.hole(0, 0));
            number(tube + "hole 0 rim 1;hole % left 1;", 0, inches - 1, x -> x.hole(1, 0));
            BucketTube x = Due.tube(tube);
            Due.due(tube + " last PLACE", 1, x.weight(4 * inches - 1) > 0 ? 1 : 0);
            Due.due(tube + " no PLACE behind it", Due.NSE, () -> x.weight(4 * inches));
            Due.due(tube + " last INCH", 0, x.fits(inches - 1));
            Due.due(tube + " no INCH behind it", Due.NSE, () -> x.fits(inches));
        }
        number("mark %;", 0, 47, x -> x.count(5));
        number("hole % left 1;", 0, 47, x -> x.hole(0, 0));
    }

    private static void holes() {
        number("hole 5 outer %;", 1, 24, x -> x.hole(0, 2));
        number("hole 5 outer % slow;", 1, 24, x -> x.hole(0, 2));
        String[] sides = {"outer", "left", "right", "rim"};
        for (int i = 0; i < 4; i++) {
            BucketTube plain = Due.tube("hole 7 " + sides[i] + " 3;");
            BucketTube slow = Due.tube("hole 7 " + sides[i] + " 3 slow;");
            Due.due("SIDE " + i, i, plain.hole(0, 1));
            Due.due("plain", 0, plain.hole(0, 3));
            Due.due("SLOW", 1, slow.hole(0, 3));
        }
        taken(SIX_HOLES);
        BucketTube x = Due.tube(SIX_HOLES);
        Due.due("six HOLES", 6, x.count(8));
        Due.due("the sixth HOLE", 1, x.hole(5, 1));
        Due.due("no seventh HOLE", Due.NSE, () -> x.hole(6, 0));
        refused(2, SIX_HOLES.length(), SIX_HOLES + "hole 9 outer 1;");
        refused(2, SIX_HOLES.length(), SIX_HOLES + "hole");
        refused(2, SIX_HOLES.length(), SIX_HOLES + "hole 0 outer 1;");
        taken(SIX_HOLES + "hand 1;");
    }

    private static void causes() {
        String[] names = {"thorn", "kerb", "spoke", "valve"};
        for (int i = 0; i < 4; i++) {
            int what = 11 + i;
            number("cause " + names[i] + " %;", 0, 99, x -> x.count(what));
        }
    }

    private static void tries() {
        number("try % 1;", 1, 99, x -> x.mean(0));
        number("try 1 %;", 1, 99, x -> x.mean(1));
        StringBuilder text = new StringBuilder();
        for (int many = 1; many <= 6; many++) {
            text.append("try 1 1;");
            Due.due("TRIES", many, Due.tube(text.toString()).count(9));
        }
        refused(2, text.length(), text + "try 1 1;");
        refused(2, text.length(), text + "try");
        refused(2, text.length(), text + "try frog;");
        taken(text + "hand 1;");
    }

    private static void riders() {
        // A flat RIDER from CELL 0: 24 HOURS fit each CELL of the way by HOUR 23.
        number("rider 0 % 23 flat;", 0, 39, x -> x.tacks(0) / 24 - 1);
        number("rider % 39 23 flat;", 0, 39, x -> 40 - x.tacks(0) / 24);
        number("rider 0 0 % flat;", 0, 23, x -> x.tacks(0) - 1);
        StringBuilder text = new StringBuilder();
        for (int many = 1; many <= 8; many++) {
            text.append("rider 0 1 2 well;");
            Due.due("RIDERS", many, Due.tube(text.toString()).count(10));
        }
        refused(2, text.length(), text + "rider 0 1 2 well;");
        refused(2, text.length(), text + "rider");
        taken(text + "hand 1;");
    }

    private static int[] placesOf(String[] tokens) {
        int[] places = new int[tokens.length + 1];
        for (int i = 0; i < tokens.length; i++) {
            places[i + 1] = places[i] + tokens[i].length() + 1;
        }
        return places;
    }

    private static String with(String[] tokens, int at, String token) {
        String[] changed = tokens.clone();
        changed[at] = token;
        return String.join(" ", changed);
    }

    /** Each place of a line: the text ends there, or another TOKEN stands there. */
    private static void broken(String line, boolean isExpr) {
        String[] tokens = line.split(" ");
        int[] places = placesOf(tokens);
        taken(line);
        taken(String.join("\n", tokens));
        for (int i = 0; i < tokens.length; i++) {
            boolean isNumber = tokens[i].matches("[0-9]+");
            // A PART's place takes numbers and words: it is told by what stands there in the line.
            boolean isPart = isExpr && i > 0 && tokens[i].matches("[0-9]+|[(]|size|side|minutes?|not");
            String before = String.join(" ", Arrays.copyOf(tokens, i));
            if (i > 0) {
                refused(1, before.length(), before);
                refused(1, before.length() + 3, before + " \n ");
            }
            refused(1, places[i], with(tokens, i, "#"));
            refused(1, places[i], with(tokens, i, "Hand"));
            refused(isNumber || isPart ? 2 : 1, places[i], with(tokens, i, "12345"));
            if (!tokens[i].equals("slow")) {
                refused(isPart ? 3 : 1, places[i], with(tokens, i, "frog"));
            }
            // Behind a PART a sign may stand, that joins another one.
            if (!isExpr || isPart || i == 0) {
                refused(1, places[i], with(tokens, i, "/"));
                refused(1, places[i], with(tokens, i, ")"));
            }
        }
        int last = tokens.length - 1;
        refused(1, places[last], with(tokens, last, "7 ;"));
        refused(1, places[last], with(tokens, last, "frog ;"));
        refused(1, places[last] + 2, with(tokens, last, "; ;"));
    }

    private static void eachPlaceOfALine() {
        broken("tube 12 ;", false);
        broken("hole 5 outer 10 ;", false);
        broken("hand 3 ;", false);
        broken("miss 3 ;", false);
        broken("noise 3 ;", false);
        broken("pressure 3 ;", false);
        broken("mark 3 ;", false);
        broken("clung 3 4 ;", false);
        broken("cause thorn 4 ;", false);
        broken("cause kerb 4 ;", false);
        broken("cause spoke 4 ;", false);
        broken("cause valve 4 ;", false);
        broken("try 3 4 ;", false);
        broken("rider 3 4 5 flat ;", false);
        broken("rider 3 4 5 well ;", false);
        String slow = "hole 5 outer 10 slow";
        taken(slow + ";");
        refused(1, slow.length(), slow);
        refused(1, slow.length() + 1, slow + " slow;");
        refused(1, slow.length() + 1, slow + " 1;");
        refused(1, slow.length() + 1, slow + " 12345;");
        refused(1, slow.length() + 1, slow + " #");
        refused(1, 12, "rider 1 2 3 slow;");
    }

    private static void eachPlaceOfAnExpr() {
        broken("leak size ;", true);
        broken("leak 1 + 2 * 3 < 4 ;", true);
        broken("leak ( 1 + side ) * 3 ;", true);
        broken("leak not 1 and not not 2 or size ;", true);
        broken("holds minutes < ( 4 or 5 ) ;", true);
    }

    /** Each byte behind 'hand': which are blanks, letters, digits, signs, and which are none. */
    private static void bytes() {
        for (int b = 0; b < 256; b++) {
            String text = "hand" + (char) b + "3;";
            if (b == 32 || b == 10) {
                taken(text);
            } else if (b == '0') {
                taken(text);
            } else if (b >= '1' && b <= '9') {
                refused(2, 4, text);
            } else if (b >= 'a' && b <= 'z') {
                refused(1, 0, text);
            } else {
                refused(1, 4, text);
            }
        }
        for (int b = 0; b < 256; b++) {
            String text = "leak 8" + (char) b + "2;";
            boolean joins = b == '+' || b == '-' || b == '*' || b == '/' || b == '<' || b == '=';
            if (joins || b >= '0' && b <= '9') {
                taken(text);
            } else if (b == ';') {
                refused(1, 7, text);
            } else {
                refused(1, b == 32 || b == 10 ? 7 : 6, text);
            }
        }
        for (int b = 0; b < 256; b++) {
            String text = (char) b + "hand 3;";
            boolean blank = b == 32 || b == 10;
            if (blank) {
                taken(text);
            } else {
                refused(1, 0, text);
            }
        }
    }

    private static void words() {
        taken("hole5outer10slow;");
        taken("hole 5outer 10slow ;");
        taken("tube13;hand3;mark12;");
        taken("cause thorn5;try3 4;rider1 2 3flat;leak1and2or 3;");
        refused(1, 0, "han d 3;");
        refused(1, 0, "ahand 3;");
        refused(1, 0, "handa 3;");
        refused(1, 7, "hole 5 outerslow 10;");
        refused(1, 7, "hole 5 oute 10;");
        refused(1, 7, "hole 5 outers 10;");
        refused(1, 16, "hole 5 outer 10 slo;");
        refused(1, 16, "hole 5 outer 10 slows;");
        refused(1, 6, "cause thorns 1;");
        refused(1, 6, "cause ker 1;");
        refused(1, 12, "rider 1 2 3 flats;");
        refused(1, 12, "rider 1 2 3 wel;");
        refused(1, 7, "leak 1 ands 2;");
        refused(1, 7, "leak 1 o 2;");
        refused(3, 5, "leak nots 1;");
        refused(3, 5, "leak no 1;");
        refused(3, 5, "leak sizes;");
        refused(3, 5, "leak siz;");
        refused(3, 6, "holds minutess;");
        refused(1, 7, "hand 1 2;");
        refused(1, 7, "miss 1 0;");
    }

    /** A TEXT of 700 bytes is the longest; a NUMBER of 4 digits is. */
    private static void lengths() {
        String blanks = " ".repeat(700);
        taken(blanks);
        taken(blanks.substring(7) + "hand 4;");
        Due.due("read to the last byte", 4, Due.tube(blanks.substring(7) + "hand 4;").count(1));
        refused(1, 700, blanks.substring(6) + "hand 4");
        refused(1, 699, blanks.substring(1) + "x");
        refused(6, 700, blanks.substring(NO_CAUSE.length()) + NO_CAUSE);
        refused(6, 700, NO_CAUSE + blanks.substring(NO_CAUSE.length()));
    }

    private static void within() {
        for (String line : new String[] {"leak ", "holds "}) {
            for (String first : new String[] {"1", "size", "not 1", "(1)", "0+2*3<4 and 5 or 6"}) {
                boolean deeper = first.equals("(1)");
                String five = line + "(((((" + first + ")))));";
                if (deeper) {
                    refused(2, line.length() + 6, five);
                } else {
                    taken(five);
                }
                refused(2, line.length() + 6, line + "((((((" + first + "))))));");
                taken(line + "((((" + first + "))));");
            }
            String six = line + "((((((";
            refused(2, six.length(), six + "9999))))));");
            refused(2, six.length(), six + "frog))))));");
            refused(2, six.length(), six + "and))))));");
            refused(2, six.length(), six + "(");
            refused(1, six.length(), six + "+1))))));");
            refused(1, six.length(), six + ";");
            refused(1, six.length(), six + "#");
            refused(1, six.length(), six);
            refused(1, six.length() + 1, six + " ");
            // Side by side is not within: a parenthesis that is closed counts no more.
            taken(line + "(((((1)))))+(((((2)))))*(1)+(((1))+((1)));");
            taken(line + "not (not (not (not (not 1))));");
            refused(2, line.length() + 10, line + "(1)+((((((1))))));");
            refused(2, line.length() + 10, line + "(1)+((((((((1))))))));");
        }
    }

    private static void nots() {
        String six = "not not not not not not ";
        taken("leak " + six + "1;");
        refused(2, 29, "leak " + six + "not 1;");
        refused(2, 29, "leak " + six + "not");
        refused(2, 29, "leak " + six + "not not frog;");
        refused(3, 29, "leak " + six + "frog;");
        refused(2, 30, "holds " + six + "not 1;");
        taken("leak " + six + "1 and " + six + "1 or " + six + "1;");
        taken("leak " + six + "(" + six + "1);");
        refused(2, 30 + 24, "leak " + six + "(" + six + "not 1);");
        refused(2, 11 + 24, "leak 1 and " + six + "not 1;");
    }

    private static void values() {
        String[] leak = {"size", "side", "pressure", "minute", "load"};
        String[] holds = {"size", "side", "minutes", "cold", "damp", "near"};
        String[] all = {"size", "side", "pressure", "minute", "load", "minutes", "cold", "damp", "near", "hole", "and", "or",
            "slow", "outer", "hand", "leak", "holds", "miss", "a", "z"};
        for (String word : all) {
            if (Arrays.asList(leak).contains(word)) {
                taken("leak " + word + ";");
                taken("leak 1+" + word + "*2;");
                taken("leak not(" + word + ");");
            } else {
                refused(3, 5, "leak " + word + ";");
                refused(3, 7, "leak 1+" + word + "*2;");
                refused(3, 9, "leak not(" + word + ");");
            }
            if (Arrays.asList(holds).contains(word)) {
                taken("holds " + word + ";");
                taken("holds 1<" + word + "/2;");
            } else {
                refused(3, 6, "holds " + word + ";");
                refused(3, 8, "holds 1<" + word + "/2;");
            }
        }
        for (String sign : new String[] {"+", "-", "*", "/", "<", "="}) {
            refused(3, 7, "leak 1" + sign + "not 1;");
            refused(1, 7, "leak 1" + sign + ";");
            refused(1, 7, "leak 1" + sign + sign + "1;");
            refused(1, 5, "leak " + sign + "1;");
        }
        refused(1, 8, "leak 1<2<3;");
        refused(1, 8, "leak 1=2=3;");
        refused(1, 8, "leak 1<2=3;");
        taken("leak (1<2)<3;");
        taken("leak not 1<2;");
        taken("leak 1<2 and 2<3 or 3=4;");
        refused(1, 7, "leak 1 size;");
        refused(1, 7, "leak 1 (2);");
        refused(1, 8, "leak (1)(2);");
        refused(1, 6, "leak 1);");
        refused(1, 7, "leak 1 not 2;");
        taken("leak 0;");
        taken("leak 9999;");
        taken("leak 0000;");
        refused(2, 5, "leak 00000;");
        refused(2, 7, "leak 1+10000;");
    }

    private static void toldTwice() {
        String[] lines = {"hand 3;", "miss 4;", "noise 5;", "pressure 6;", "mark 7;", "clung 8 9;", "leak 1;", "holds 2;"};
        for (int i = 0; i < lines.length; i++) {
            String first = lines[i];
            String word = first.substring(0, first.indexOf(' '));
            refused(5, first.length(), first + first);
            refused(5, first.length(), first + word);
            refused(5, first.length(), first + word + " frog;");
            refused(5, first.length() + 2, first + " \n" + word);
            for (int k = 0; k < lines.length; k++) {
                if (k != i) {
                    taken(first + lines[k]);
                    refused(5, first.length() + lines[k].length(), first + lines[k] + first);
                }
            }
        }
        String[] causes = {"thorn", "kerb", "spoke", "valve"};
        for (int i = 0; i < 4; i++) {
            String first = "cause " + causes[i] + " 1;";
            refused(5, first.length() + 6, first + first);
            refused(5, first.length() + 6, first + "cause " + causes[i]);
            refused(5, first.length() + 6, first + "cause " + causes[i] + " 100;");
            refused(1, first.length() + 5, first + "cause");
            for (int k = 0; k < 4; k++) {
                if (k != i) {
                    taken(first + "cause " + causes[k] + " 1;");
                }
            }
        }
        // What was told once is told anew by the next TEXT.
        BucketTube x = Due.tube("hand 3;miss 4;noise 5;pressure 6;mark 7;clung 8 9;leak 1;holds 2;cause thorn 1;");
        Due.due("the same anew", 0, Due.shed(x, "hand 3;miss 4;noise 5;pressure 6;mark 7;clung 8 9;leak 1;holds 2;cause thorn 1;"));
    }

    private static void placeThatHasAHole() {
        refused(4, 21, "hole 5 left 1;hole 5 left 1;");
        refused(4, 21, "hole 5 left 1;hole 5 left");
        refused(4, 21, "hole 5 left 1;hole 5 left 99;");
        refused(1, 21, "hole 5 left 1;hole 5 lefts 99;");
        taken("hole 5 left 1;hole 5 right 1;");
        taken("hole 5 left 1;hole 4 left 1;");
        taken("hole 5 left 1;hole 6 left 1;");
        refused(4, 35, "hole 5 left 1;hole 4 left 1;hole 5 left 1;");
        refused(4, 35, "hole 4 left 1;hole 5 left 1;hole 5 left 1;");
        refused(4, 36, "hole 4 left 1;hole 5 left 1;hole 05 left 1;");
        // Behind another TEXT its HOLES count no more.
        BucketTube x = Due.tube("hole 5 left 1;");
        Due.due("the same HOLE anew", 0, Due.shed(x, "hole 5 left 1;"));
    }

    private static void noCause() {
        String none = NO_CAUSE;
        refused(6, none.length(), none);
        refused(6, none.length() + 2, none + " \n");
        refused(6, none.length() + 7, none + "hand 3;");
        refused(1, none.length(), none + "frog;");
        refused(1, none.length(), none + "#");
        refused(2, none.length() + 5, none + "hand 0;");
        for (String cause : new String[] {"thorn", "kerb", "spoke", "valve"}) {
            taken(none.replace(cause + " 0", cause + " 1"));
            taken(none.replace("cause " + cause + " 0;", ""));
        }
    }

    private static void tubeAtTheBeginning() {
        taken("tube 12;");
        taken(" \n tube 12;");
        refused(1, 8, "tube 12;tube 12;");
        refused(1, 7, "hand 3;tube 12;");
        refused(1, 7, "hand 3;tube");
        refused(1, 0, ";tube 12;");
        refused(1, 5, "hand tube;");
        refused(1, 7, "hole 5 tube 1;");
    }

    private static void firstAlongTheText() {
        refused(2, 5, "hand 10;frog;");
        refused(1, 0, "frog;hand 10;");
        refused(5, 7, "hand 3;hand 10;miss 0;");
        refused(3, 5, "leak frog 12345;");
        refused(2, 5, "leak 12345 frog;");
        refused(2, 5, "tube 11;hole 99 top 0;");
        refused(2, 13, "tube 12;hole 12 top 0;");
        refused(1, 15, "tube 12;hole 1 top 0;");
        refused(2, 21, "tube 12;hole 1 outer 0;hole 1 outer 1;");
    }

    private static void leastOfOneToken() {
        // A word within six others: too much (2) ahead of no VALUE (3).
        refused(2, 11, "leak ((((((frog))))));");
        // A NUMBER of five digits where none can stand: 1 ahead of 2.
        refused(1, 0, "12345");
        refused(1, 7, "hole 5 12345 1;");
        refused(1, 6, "cause 12345 1;");
        refused(1, 12, "rider 1 2 3 12345;");
        refused(1, 7, "hand 3 12345;");
        // A word behind a PART can't stand there (1), VALUE (3) or not.
        refused(1, 7, "leak 1 frog;");
        refused(1, 7, "leak 1 size;");
    }

    private static void asNew(String what, BucketTube x) {
        BucketTube fresh = new BucketTube();
        for (int i = 0; i <= 18; i++) {
            Due.due(what + ": count " + i, fresh.count(i), x.count(i));
        }
        Due.due(what + ": no HOLES", Due.NSE, () -> x.hole(0, 0));
        Due.due(what + ": no TRIES", -1, x.dark(0));
        Due.due(what + ": no RIDERS", 960, x.tacks(0));
        for (int place = 0; place < 192; place++) {
            Due.due(what + ": WEIGHT", fresh.weight(place), x.weight(place));
        }
        Due.due(what + ": no PLACE more", Due.NSE, () -> x.weight(192));
    }

    /** All anew: nothing of an earlier TEXT stays, of one with a FAULT neither. */
    private static void allAnew() {
        String all = "tube 30;hand 4;miss 55;noise 85;pressure 72;mark 11;clung 40 70;hole 1 rim 2 slow;hole 2 left 3;try 1 2;"
                + "rider 1 2 3 well;leak 7;holds 8;cause thorn 6;cause kerb 7;cause spoke 8;cause valve 9;";
        BucketTube x = Due.tube(all);
        Due.due("anew", 0, Due.shed(x, ""));
        asNew("behind one", x);
        Due.due("anew", 0, Due.shed(x, ""));
        BucketTube y = Due.tube(all);
        Due.shed(y, all);
        Due.shed(y, all + "frog;");
        Due.shed(y, "");
        asNew("behind two and a FAULT", y);
        BucketTube z = Due.tube(all);
        Due.shed(z, all);
        Due.shed(z, " ");
        Due.shed(z, "\n");
        asNew("behind two and an empty one", z);
        // The EXPRS are gone, too.
        for (int i = 0; i < 3; i++) {
            Due.shed(x, i < 2 ? all : "hole 3 outer 2;");
        }
        Due.due("size*pressure again", 120, x.leak(false));
        Due.due("minutes*12 again", 36, x.holds(0, 3, 50, 50));
        Due.due("plain", 0, x.hole(0, 3));
        Due.due("one HOLE", 1, x.count(8));
        String slow = SIX_HOLES.replace(";", " slow;");
        for (String text : new String[] {slow, slow, SIX_HOLES, SIX_HOLES}) {
            Due.shed(x, text);
            for (int hole = 0; hole < 6; hole++) {
                Due.due("as SLOW as told last", text.equals(slow) ? 1 : 0, x.hole(hole, 3));
            }
        }
    }

    private static void gives(long want, String expr) {
        long got = Due.tube("hole 3 right 7;pressure 60;leak " + expr + ";").leak(true);
        Due.due("leak " + expr, want, got);
    }

    private static void priorities() {
        gives(14, "2+3*4");
        gives(20, "(2+3)*4");
        gives(5, "9-3-1");
        gives(7, "9-(3-1)");
        gives(2, "24/4/3");
        gives(18, "24/4*3");
        gives(2, "24/(4*3)");
        gives(1, "1+1<3");
        gives(1, "3=1+2");
        gives(2, "1+(1<3)");
        gives(1, "not 0");
        gives(0, "not 1");
        gives(0, "not 7");
        gives(1, "not (0-1)=0");
        gives(0, "not (0-1)");
        gives(1, "not 1=2");
        gives(1, "not not 9");
        gives(0, "not not 0");
        gives(0, "not 1 and 0");
        gives(1, "not 0 and 5");
        gives(0, "not (0 or 5)");
        gives(1, "1 or 0 and 0");
        gives(0, "(1 or 0) and 0");
        gives(1, "0 and 0 or 1");
        gives(1, "6 and 9");
        gives(1, "6 or 9");
        gives(1, "0 or 9");
        gives(1, "(0-3) and 1");
        gives(1, "(0-3) or 0");
        gives(0, "0 or 0");
        gives(7, "size");
        gives(1, "size=7 and side=2 and pressure=60 and minute=0 and load=1");
        gives(0, "2<2");
        gives(1, "2<3");
        gives(0, "3<2");
        gives(1, "2=2");
        gives(0, "2=3");
        gives(1, "0-1<0");
        gives(1, "1<2 and 2<3");
    }

    private static void arithmetic() {
        gives(0, "7/0");
        gives(5, "7/0+5");
        gives(0, "0/0");
        gives(0, "7/(1-1)");
        gives(3, "7/2");
        gives(10, "(0-7)/2+13");
        gives(10, "7/(0-2)+13");
        gives(16, "(0-7)/(0-2)+13");
        gives(10, "13-7/2");
        // 2147483647 and 1 more: 46340 by 46340 is 2147395600, 88047 more are the most, one more is the least.
        String root = "(4634*10)*(4634*10)";
        gives(1, "0<" + root + "+8804*10+7");
        gives(1, root + "+8804*10+8<0");
        // The least by 0 less 1 stays the least, and throws nothing.
        gives(1, "(" + root + "+8804*10+8)/(0-1)<0");
        gives(1, "0-(" + root + "+8804*10+8)<0");
        gives(1, "0-(" + root + "+8804*10+8)-1=" + root + "+8804*10+7");
        // 65536 by 65536 is 0.
        gives(1, "(4096*16)*(4096*16)=0");
        gives(9, "(4096*16)*(4096*16)+9");
    }
}
