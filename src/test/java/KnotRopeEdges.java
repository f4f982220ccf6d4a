import java.lang.reflect.Method;
import java.lang.reflect.Modifier;
import java.nio.charset.StandardCharsets;
import java.nio.file.Files;
import java.nio.file.Path;
import java.util.ArrayList;
import java.util.LinkedHashMap;
import java.util.List;
import java.util.Map;
import java.util.Random;

/**
 * The document's edges: each sentence of ../shared/DOC.md is quoted, and calls of its own ask for what it names:
 * too small, too large, empty, full, a wrap-around, a refused call. A sentence that nobody quotes fails too.
 */
public final class KnotRopeEdges {
    private static final String HEAD = "gorge places 2 wear 0 odds 0;";
    private static final String KNOT = "knot inches 1 weak 0;";
    private static final String ONE = HEAD + KNOT;
    private static final String TWO = ONE + KNOT;
    private static final String THREE = TWO + KNOT;
    private static final int MIN = Integer.MIN_VALUE;
    private static final int MAX = Integer.MAX_VALUE;

    /** As many of each as there may be, and the greatest numbers; its bytes are fewer than 1,400. */
    private static final String FULL = "gorge places 6 wear 99 odds 100;"
            + "knot inches 9 weak 50;knot inches 8 weak 40;knot inches 7 weak 30;knot inches 6 weak 20;knot inches 5 weak 10;knot inches 4 weak 0;"
            + "word 0 means 99;word 1 means 98;word 2 means 97;word 3 means 96;word 4 means 95;word 5 means 94;"
            + "word 5 4 means 93;word 5 4 3 means 92;word 5 4 3 2 means 91;word 0 0 0 0 means 0;"
            + "rope 0 to 1 bears 999 of 0 0 0 0 0 0 0 0 0 0 0 0;rope 1 to 2 bears 998 of 1 1 1 1 1 1 1 1 1 1 1 1;"
            + "rope 2 to 3 bears 997 of 2 2 2 2 2 2 2 2 2 2 2 2;rope 3 to 4 bears 996 of 3 3 3 3 3 3 3 3 3 3 3 3;"
            + "rope 4 to 5 bears 995 of 4 4 4 4 4 4 4 4 4 4 4 4;rope 5 to 0 bears 994 of 5 5 5 5 5 5 5 5 5 5 5 5;"
            + "person weighs 1 pace 9 at 0;person weighs 2 pace 8 at 1;person weighs 3 pace 7 at 2;"
            + "person weighs 4 pace 6 at 3;person weighs 5 pace 5 at 4;person weighs 999 pace 1 at 5;";

    private static int wrong = 0;
    private static String section = "";
    private static String sentence = "";
    private static int asked = 1;
    private static final Map<String, List<String>> quotes = new LinkedHashMap<>();

    private static void fail(String what) {
        wrong++;
        System.out.println(section + ", \"" + sentence + "\": " + what);
    }

    private static void part(String name) {
        section = name;
        quotes.put(name, new ArrayList<>());
    }

    private static void promise(int n) {
        part("Promise " + n);
    }

    private static void edge(String quote) {
        if (asked == 0) fail("nothing is asked");
        sentence = quote;
        asked = 0;
        quotes.get(section).add(quote);
    }

    private static void due(String call, long got, long want) {
        asked++;
        if (got != want) fail(call + " answered " + got + ", due is " + want);
    }

    private static void alike(String what, String got, String want) {
        asked++;
        if (!got.equals(want)) fail(what + " is " + got + ", due is " + want);
    }

    // ---- telling

    private static void feed(KnotRope x, String text) {
        for (int i = 0; i < text.length(); i += 20) {
            int[] n = new int[5];
            for (int j = 0; j < 20; j++) {
                n[j / 4] = n[j / 4] << 8 | (i + j < text.length() ? text.charAt(i + j) & 255 : 0);
            }
            x.feed(n[0], n[1], n[2], n[3], n[4]);
        }
    }

    private static int tell(KnotRope x, String text) {
        x.end(0);
        feed(x, text);
        x.end(text.length());
        return x.gorge();
    }

    private static KnotRope told(String text) {
        KnotRope x = new KnotRope();
        if (tell(x, text) <= 0) fail("not told: " + text);
        return x;
    }

    private static int signs(String text) {
        return (int) text.chars().filter(c -> c == ';').count();
    }

    private static void fine(String text) {
        due("gorge() of " + text, tell(new KnotRope(), text), signs(text));
    }

    /** The fault stands where the rest begins. */
    private static void faulty(String ahead, String rest, int fault) {
        KnotRope x = new KnotRope();
        due("gorge() of " + ahead + rest, tell(x, ahead + rest), -4);
        due("fault(0) of " + ahead + rest, x.fault(0), fault);
        due("fault(1) of " + ahead + rest, x.fault(1), ahead.length());
    }

    /** A number between: its least and its greatest are fine, one beside and those that wrap around to it are faults. */
    private static void bounds(String ahead, int low, int high, String rest) {
        fine(ahead + low + rest);
        fine(ahead + high + rest);
        fine(ahead + "0000000000000000000000" + high + rest);
        if (low > 0) faulty(ahead, low - 1 + rest, 2);
        faulty(ahead, high + 1 + rest, 2);
        if (high < 256) faulty(ahead, 256L + low + rest, 2);
        faulty(ahead, 65536L + low + rest, 2);
        faulty(ahead, 4294967296L + low + rest, 2);
        faulty(ahead, "1844674407370955161" + (6 + low) + rest, 2);
        faulty(ahead, "-" + low + rest, 1);
    }

    private static void slot(KnotRope x, int slot, int... kinds) {
        x.row(slot, 0, kinds.length);
        for (int i = 0; i < kinds.length; i++) x.write(slot, i, kinds[i]);
    }

    /** All of a gorge and of what was done in it; some 300 calls, so a test that looks often asks beyond 512 of them. */
    private static String look(KnotRope x) {
        StringBuilder sb = new StringBuilder();
        for (int what = 0; what <= 9; what++) sb.append(x.count(what)).append(' ');
        for (int k = 0; k < 6; k++) sb.append(x.knot(k, 0)).append(',').append(x.knot(k, 1)).append(' ');
        for (int w = 0; w < 10; w++) {
            sb.append(x.means(w)).append(':');
            for (int i = 0; i < 5; i++) sb.append(x.word(w, i)).append(',');
        }
        for (int r = 0; r < 6; r++) {
            for (int what = 0; what < 7; what++) sb.append(x.rope(r, what)).append(',');
            for (int i = 0; i < 25; i++) sb.append(x.at(r, i)).append(' ');
        }
        for (int p = 0; p < 6; p++) {
            for (int what = 0; what < 3; what++) sb.append(x.person(p, what)).append(',');
        }
        return sb.toString();
    }

    /** Used as often as the document lets it be, with all of it as large as may be. */
    private static void lastCalls() {
        part("What it is");
        edge("An object is used for at most 512 calls after it has been made; what later calls answer is free.");
        KnotRope x = new KnotRope();
        int calls = 1 + (FULL.length() + 19) / 20 + 2;
        tell(x, FULL);
        for (Act act : forty()) act.on(x);
        calls += 40;
        due("call " + ++calls, x.image(0), 0);
        for (; calls < 500; calls += 2) {
            due("anew()", x.anew(), 40);
            due("back(0)", x.back(0), 0);
        }
        for (; calls < 511; calls++) due("call " + (calls + 1), x.wet(0), -5);
        due("call 512", x.undo(), 39);
    }

    // ---- the terms

    private static void termOne() {
        part("I");
        edge("GORGE: {LINE ;}. LINE: gorge places N wear N odds N | knot inches N weak N | word K {K} means N | rope P to P bears N of K {K} | person weighs N pace N at P.");
        String whole = "gorge places 2 wear 3 odds 4 ; knot inches 5 weak 6 ; word 0 means 7 ; rope 0 to 1 bears 8 of 0 ; person weighs 9 pace 1 at 1 ;";
        fine(whole);
        String[] t = whole.split(" ");
        for (int i = 0; i < t.length; i++) {
            String ahead = i == 0 ? "" : String.join(" ", List.of(t).subList(0, i)) + " ";
            String behind = " " + String.join(" ", List.of(t).subList(i + 1, t.length));
            boolean free = i == 0 || t[i - 1].equals(";");
            if (free) due("lines of " + ahead, tell(new KnotRope(), ahead), signs(ahead));
            else faulty(ahead, "", 1);
            faulty(ahead, "#" + behind, 1);
            faulty(ahead, "zz" + behind, 1);
            if (!t[i].equals(";")) faulty(ahead, ";" + behind, 1);
            faulty(ahead, behind.trim(), t[i].equals("means") ? 2 : 1);
            for (int j = 0; j < t[i].length() && Character.isLetter(t[i].charAt(j)); j++) {
                faulty(ahead, t[i].substring(0, j) + (t[i].charAt(j) == 'z' ? 'a' : 'z') + t[i].substring(j + 1) + behind, 1);
                faulty(ahead, t[i].substring(0, j) + t[i].substring(j + 1) + behind, 1);
                faulty(ahead, t[i].substring(0, j) + 'q' + t[i].substring(j) + behind, 1);
            }
            boolean knot = i > 0 && (t[i - 1].equals("word") || t[i - 1].equals("of"));
            if (knot) fine(ahead + t[i] + " " + t[i] + behind);
            else faulty(ahead + t[i] + " ", t[i] + behind, 1);
        }

        edge("gorge is the first LINE and no other: places 2 .. 6, wear 0 .. 99, odds 0 .. 100.");
        faulty("", KNOT, 1);
        faulty("", "person weighs 1 pace 1 at 0;", 1);
        faulty(HEAD, HEAD, 1);
        faulty(ONE, HEAD, 1);
        bounds("gorge places ", 2, 6, " wear 0 odds 0;");
        bounds("gorge places 2 wear ", 0, 99, " odds 0;");
        bounds("gorge places 2 wear 0 odds ", 0, 100, ";");

        edge("knot: inches 1 .. 9, weak 0 .. 50.");
        bounds(HEAD + "knot inches ", 1, 9, " weak 0;");
        bounds(HEAD + "knot inches 1 weak ", 0, 50, ";");

        edge("word: one to four KNOTS (kinds told ahead), unlike those of each other WORD (asked at means), means 0 .. 99.");
        faulty(ONE + "word ", "means 0;", 1);
        for (int n = 1; n <= 4; n++) fine(ONE + "word" + " 0".repeat(n) + " means 0;");
        faulty(ONE + "word" + " 0".repeat(4) + " ", "0 means 0;", 3);
        bounds(ONE + "word ", 0, 0, " means 0;");
        bounds(ONE + "word 0 0 0 ", 0, 0, " means 0;");
        bounds(HEAD + KNOT.repeat(6) + "word ", 0, 5, " means 0;");
        faulty(HEAD + "word ", "0 means 0;" + KNOT, 2);
        faulty(ONE + "word ", "1 means 0;" + KNOT, 2);
        fine(ONE + KNOT + "word 1 means 0;");
        faulty(TWO + "word 0 1 means 0;word 0 1 ", "means 0;", 2);
        faulty(TWO + "word 0 1 means 0;word 1 1 means 0;word 0 1 ", "means 100;", 2);
        fine(TWO + "word 0 1 means 0;word 1 0 means 0;word 0 means 0;word 0 1 0 means 0;word 0 0 means 0;");
        String nine = TWO + "word 0 means 0;word 1 means 0;word 0 0 means 0;word 0 1 means 0;word 1 0 means 0;word 1 1 means 0;word 0 0 0 means 0;word 0 0 1 means 0;word 0 1 0 means 0;";
        faulty(nine + "word 0 ", "means 0;", 2);
        faulty(nine + "word 0 1 0 ", "means 0;", 2);
        fine(nine + "word 0 1 1 means 0;");
        faulty(TWO + "word 0 means 0;word 0 ", ";", 1);
        faulty(TWO + "word 0 means 0;word 0 ", "", 1);
        faulty(TWO + "word 0 means 0;word 0 ", "2 means 0;", 2);
        faulty(TWO + "word 0 0 0 0 means 0;word 0 0 0 0 ", "0 means 0;", 3);
        bounds(ONE + "word 0 means ", 0, 99, ";");

        edge("rope: two PLACES 0 .. places less 1, unlike ones; bears 1 .. 999; one to twelve KNOTS.");
        fine(ONE + "rope 0 to 1 bears 1 of 0;rope 1 to 0 bears 1 of 0;");
        faulty(ONE + "rope ", "2 to 0 bears 1 of 0;", 2);
        faulty(ONE + "rope 0 to ", "2 bears 1 of 0;", 2);
        faulty(ONE + "rope ", "4294967296 to 1 bears 1 of 0;", 2);
        faulty(ONE + "rope 0 to ", "4294967297 bears 1 of 0;", 2);
        String six = "gorge places 6 wear 0 odds 0;" + KNOT;
        bounds(six + "rope ", 0, 5, " to 1 bears 1 of 0;");
        fine(six + "rope 1 to 0 bears 1 of 0;rope 1 to 5 bears 1 of 0;");
        faulty(six + "rope 1 to ", "6 bears 1 of 0;", 2);
        for (int p = 0; p < 6; p++) faulty(six + "rope " + p + " to ", p + " bears 1 of 0;", 2);
        faulty(six + "rope 5 to ", "005 bears 1 of 0;", 2);
        bounds(ONE + "rope 0 to 1 bears ", 1, 999, " of 0;");
        faulty(ONE + "rope 0 to 1 bears 1 of ", ";", 1);
        for (int n = 1; n <= 12; n++) fine(ONE + "rope 0 to 1 bears 1 of" + " 0".repeat(n) + ";");
        faulty(ONE + "rope 0 to 1 bears 1 of" + " 0".repeat(12) + " ", "0;", 3);
        bounds(TWO + "rope 0 to 1 bears 1 of ", 0, 1, ";");
        bounds(TWO + "rope 0 to 1 bears 1 of" + " 0".repeat(11) + " ", 0, 1, ";");
        faulty(HEAD + "rope 0 to 1 bears 1 of ", "0;" + KNOT, 2);

        edge("person: weighs 1 .. 999, pace 1 .. 9, P a PLACE.");
        bounds(HEAD + "person weighs ", 1, 999, " pace 1 at 0;");
        bounds(HEAD + "person weighs 1 pace ", 1, 9, " at 0;");
        bounds(HEAD + "person weighs 1 pace 1 at ", 0, 1, ";");
        bounds(six + "person weighs 1 pace 1 at ", 0, 5, ";");

        edge("Kinds 0 .. 5, WORDS 0 .. 9, ROPES 0 .. 5, PERSONS 0 .. 5 are numbered as they stand.");
        KnotRope x = told(FULL);
        for (int k = 0; k < 6; k++) due("knot(" + k + ", 0)", x.knot(k, 0), 9 - k);
        for (int w = 0; w < 10; w++) due("means(" + w + ")", x.means(w), w < 9 ? 99 - w : 0);
        for (int r = 0; r < 6; r++) due("rope(" + r + ", 2)", x.rope(r, 2), 999 - r);
        for (int p = 0; p < 6; p++) due("person(" + p + ", 0)", x.person(p, 0), p < 5 ? p + 1 : 999);
        x = told(HEAD + "person weighs 7 pace 1 at 0;" + KNOT + "word 0 means 8;rope 0 to 1 bears 9 of 0;person weighs 6 pace 1 at 0;knot inches 5 weak 4;rope 1 to 0 bears 3 of 1;word 1 means 2;");
        due("means(1) when mixed", x.means(1), 2);
        due("rope(1, 2) when mixed", x.rope(1, 2), 3);
        due("person(1, 0) when mixed", x.person(1, 0), 6);
        due("knot(1, 0) when mixed", x.knot(1, 0), 5);
        tokensAndFaults();
    }

    private static void tokensAndFaults() {
        edge("TOKENS, blanks (32, 10) aside, the longest: words (a .. z), numbers (digits), the sign ; .");
        for (int b = 0; b < 256; b++) {
            String s = String.valueOf((char) b);
            boolean blank = b == 32 || b == 10;
            boolean letter = b >= 'a' && b <= 'z';
            boolean digit = b >= '0' && b <= '9';
            String wear = s + "wear 0 odds 0;";
            if (blank) {
                fine(HEAD + s);
                fine(HEAD + "knot" + s + "inches 1 weak 0;");
                fine("gorge places 2" + wear);
                fine(s + HEAD);
            } else {
                faulty(HEAD, s, 1);
                if (letter) faulty(HEAD, "knot" + s + "inches 1 weak 0;", 1);
                else faulty(HEAD + "knot", s + "inches 1 weak 0;", 1);
                if (digit && b != '0') faulty("gorge places ", "2" + wear, 2);
                if (!digit) faulty("gorge places 2", wear, 1);
                faulty("", s + HEAD, 1);
            }
        }
        fine("gorge places2wear0odds0;knot inches1weak0;word0 0means0;rope0to1bears1of0;person weighs1pace1at0;");
        fine(" \n gorge\nplaces\n\n2 wear\n 0 odds 0\n;\n");
        faulty("", "gorgeplaces 2 wear 0 odds 0;", 1);
        faulty("", "gor ge places 2 wear 0 odds 0;", 1);
        faulty("gorge places 2 wear 1 ", "2 odds 0;", 1);

        edge("FAULTS, the first by its place (a TOKEN's first byte; the end's), of one place the least:");
        faulty("gorge places ", "9 wear 999 # odds 0;", 2);
        faulty("gorge places ", "# wear 999 odds 0;", 1);
        faulty("gorge places ", "12345678", 2);
        faulty("gorge ", "placesandmore 2", 1);
        faulty("gorge places 2 wear 0 odds 0", "", 1);
        faulty("gorge places 2 wear 0 odds 0 \n\n ", "", 1);
        faulty("gorge", "", 1);
        faulty("", "g", 1);
        faulty(" ".repeat(1399), ";", 1);
        faulty("gorge places 2 wear 0 odds 0" + " ".repeat(1372), "", 1);
        faulty(ONE + "word 0 0 0 0 ", "1 means 0;", 2);
        faulty(ONE + "rope 0 to 1 bears 1 of" + " 0".repeat(12) + " ", "1;", 2);

        edge("1 a TOKEN that is none, or can't stand there (gorge behind the first LINE, another word ahead of it).");
        faulty(HEAD, "Knot", 1);
        faulty(HEAD, "gorge", 1);
        faulty(HEAD, "gorge places 9", 1);
        faulty("", "rope", 1);
        faulty("", "2", 1);
        faulty("", ";", 1);
        faulty(HEAD, ";", 1);
        faulty(HEAD, "3", 1);
        faulty(HEAD + "knot inches ", "weak 0;", 1);
        faulty(ONE + "word 0 0 0 0 ", "bears 0;", 1);

        edge("2 a number out of its bounds, not as said; a WORD that is there already.");
        faulty("gorge places ", "0", 2);
        faulty("gorge places ", "99999999999999999999999999999999999999999999", 2);
        faulty(ONE + "rope 0 to ", "0", 2);
        faulty(ONE + "word 0 means 1;word 0 ", "means", 2);

        edge("3 a 7th knot, 11th word, 7th rope, 7th person, at its word; a 5th KNOT of a word, 13th of a rope, at it.");
        fine(HEAD + KNOT.repeat(6));
        faulty(HEAD + KNOT.repeat(6), KNOT, 3);
        faulty(HEAD + KNOT.repeat(6), "knot", 3);
        String ten = TWO + "word 0 means 0;word 1 means 0;word 0 0 means 0;word 0 1 means 0;word 1 0 means 0;word 1 1 means 0;word 0 0 0 means 0;word 0 0 1 means 0;word 0 1 0 means 0;word 1 0 0 means 0;";
        fine(ten);
        faulty(ten, "word 1 1 1 means 0;", 3);
        faulty(ten, "word 0 means 0;", 3);
        String rope = "rope 0 to 1 bears 1 of 0;";
        fine(ONE + rope.repeat(6));
        faulty(ONE + rope.repeat(6), rope, 3);
        faulty(ONE + rope.repeat(6), "rope 9", 3);
        String person = "person weighs 1 pace 1 at 0;";
        fine(HEAD + person.repeat(6));
        faulty(HEAD + person.repeat(6), person, 3);
        faulty(ONE + "word 0 0 0 0 ", "0", 3);
        faulty(ONE + "rope 0 to 1 bears 1 of" + " 0".repeat(12) + " ", "0", 3);
        fine(FULL);
        faulty(FULL, "knot", 3);
        faulty(FULL, "word", 3);
        faulty(FULL, "rope", 3);
        faulty(FULL, "person", 3);
        faulty(FULL, "gorge", 1);

        edge("SLOTS 0 .. 3 have rows of numbers of 1, 2, 4 or 8 bytes (WIDTH 0 .. 3), at most 60, or nothing.");
        KnotRope x = told(ONE);
        for (int s = 0; s < 4; s++) due("nothing yet", x.write(s, 0, 0), -6);
        for (int s = 0; s < 4; s++) due("row(" + s + ", " + s + ", 60)", x.row(s, s, 60), 0);
        for (int s = 0; s < 4; s++) due("write(" + s + ", 59, ..)", x.write(s, 59, Long.MAX_VALUE), 0);
        due("row(4, 0, 60)", x.row(4, 0, 60), -2);
        due("row(0, 4, 60)", x.row(0, 4, 60), -2);
        due("row(0, 0, 61)", x.row(0, 0, 61), -2);
        int[] bytes = {1, 2, 4, 8};
        for (int w = 0; w < 4; w++) {
            x.row(0, w, 1);
            for (int bit = 0; bit < 64; bit++) {
                x.write(0, 0, 1L << bit);
                due("bit " + bit + " of WIDTH " + w, x.text(0), bit < 8 * bytes[w] ? -2 : 0);
            }
        }
    }

    private static void termsTwoToFive() {
        part("II");
        edge("TEXT: a row of KNOTS. A READING: it is parted into WORDS, one behind the other, without rest (of no KNOTS: one, of no WORDS).");
        KnotRope x = told(TWO + "word 0 1 means 5;rope 0 to 1 bears 1 of 0 1 0 1;rope 0 to 1 bears 1 of 0 1 0;rope 0 to 1 bears 1 of 0;rope 0 to 1 bears 1 of 1 0 1;");
        due("parted", x.reads(0, 0), 1);
        due("a rest behind", x.reads(1, 0), 0);
        due("a part of a word", x.reads(2, 0), 0);
        due("a rest ahead", x.reads(3, 0), 0);
        slot(x, 0);
        due("of no KNOTS", x.text(0), 1);
        KnotRope none = told(HEAD);
        slot(none, 0);
        due("of no KNOTS, without WORDS", none.text(0), 1);
        due("of a KNOT, without WORDS", told(ONE + "rope 0 to 1 bears 1 of 0;").reads(0, 0), 0);

        edge("Back: of its KNOTS from the last one on.");
        due("back of 1 0 1", x.reads(3, 1), 0);
        due("back of 0", x.reads(2, 1), 0);
        x = told(THREE + "word 0 means 1;word 1 2 means 10;rope 0 to 1 bears 1 of 2 1 0;rope 0 to 1 bears 1 of 2 1;");
        due("forward", x.reads(0, 0), 0);
        due("back, of an odd number", x.reads(0, 1), 1);
        due("back, its first word", x.says(0, 1, 0), 0);
        due("back, of an even number", x.reads(1, 1), 1);

        edge("SUM: what its WORDS mean, together.");
        due("sum", x.sum(0, 1, 0), 11);
        due("of none", told(TWO + "word 0 means 0;rope 0 to 1 bears 1 of 0 0;").sum(0, 0, 1), 0);

        edge("INCHES: those of its KNOTS and one more between each two beside each other; of a ROPE, when it is wet, less a tenth of them, cut.");
        x = told(HEAD + "knot inches 9 weak 0;knot inches 1 weak 0;rope 0 to 1 bears 1 of 0;rope 0 to 1 bears 1 of 1;rope 0 to 1 bears 1 of 0 0;rope 0 to 1 bears 1 of 1 1 1 1 1;rope 0 to 1 bears 1 of 1 0 1 1 1;rope 0 to 1 bears 1 of" + " 0".repeat(12) + ";");
        x.splice(5, 5);
        int[] dry = {9, 1, 19, 9, 17, 239};
        int[] wet = {9, 1, 18, 9, 16, 216};
        for (int r = 0; r < 6; r++) due("dry " + r, x.rope(r, 4), dry[r]);
        x.wet(1);
        for (int r = 0; r < 6; r++) due("wet " + r, x.rope(r, 4), wet[r]);
        x = told(HEAD + "knot inches 4 weak 0;knot inches 5 weak 0;knot inches 9 weak 0;rope 0 to 1 bears 1 of 0 1;rope 0 to 1 bears 1 of 1 1;rope 0 to 1 bears 1 of 2 0 0;");
        x.wet(1);
        due("10 inches", x.rope(0, 4), 9);
        due("11 inches", x.rope(1, 4), 10);
        due("19 inches", x.rope(2, 4), 18);
        x.tie(2, 1, 1);
        due("20 inches", x.rope(2, 4), 18);
        x.wet(0);
        due("dry again", x.rope(2, 4), 20);

        edge("STRENGTH of a ROPE: bears times (100 less the greatest weak of its KNOTS) by 100, cut, less wear for each time it was crossed.");
        x = told("gorge places 2 wear 99 odds 0;knot inches 1 weak 50;knot inches 1 weak 1;knot inches 1 weak 0;rope 0 to 1 bears 999 of 1 0 2;rope 0 to 1 bears 1 of 1;rope 0 to 1 bears 999 of 2;rope 0 to 1 bears 999 of 0;person weighs 1 pace 1 at 0;");
        due("the greatest weak, between", x.rope(0, 5), 499);
        due("cut to none", x.rope(1, 5), 0);
        due("not weak", x.rope(2, 5), 999);
        due("weakest", x.rope(3, 5), 499);
        due("a rope of no STRENGTH", x.cross(0, 1), -5);
        for (int i = 1; i <= 11; i++) {
            due("cross " + i, x.cross(0, 2), i % 2);
            due("worn " + i, x.rope(2, 5), 999 - 99 * i);
        }
        due("below 0", x.rope(2, 5), -90);
        due("it does not bear", x.cross(0, 2), -5);

        part("III");
        edge("ALL: TEXTS that are parts of other ones are left out (of like ones the least ROPE stays); the others are laid in an order, each over the one ahead by as many KNOTS as they OVERLAP.");
        String r = "rope 0 to 1 bears 1 of ";
        x = told(TWO + r + "0 1;" + r + "0 0 1 1;" + r + "1 1;" + r + "0 0 1 1;");
        due("like ones and parts", x.all(), 4);
        due("the least of like ones", x.order(0), 1);
        due("no other", x.order(1), -1);
        x = told(TWO + (r + "1;").repeat(6));
        due("six like ones", x.all(), 1);
        due("the least of six", x.order(0), 0);
        due("no other", x.order(1), -1);
        x = told(THREE + r + "0 1 2;" + r + "2 0;" + r + "1 2 2;");
        // 0 1 2 over 1 2 2 by two, that over 2 0 by one: 0 1 2 2 0
        due("over one another", x.all(), 5);
        due("order(0)", x.order(0), 0);
        due("order(1)", x.order(1), 2);
        due("order(2)", x.order(2), 1);

        part("IV");
        edge("A ROPE bears who weighs no more than its STRENGTH (a group: together).");
        String persons = "person weighs 50 pace 1 at 0;person weighs 51 pace 1 at 0;person weighs 49 pace 1 at 0;";
        x = told(ONE + "rope 0 to 1 bears 50 of 0;rope 0 to 1 bears 100 of 0;rope 0 to 1 bears 99 of 0;rope 0 to 1 bears 101 of 0;" + persons);
        due("as much", x.cross(0, 0), 1);
        due("one more", x.cross(1, 0), -5);
        due("one less", x.cross(2, 0), 1);
        due("two of 100 together", x.bears(1), 2);
        due("two of 99 together", x.bears(2), 2);
        due("a group of 99, one of 51", x.groups(2), 2);
        due("groups of 100 and 50", x.groups(1), 2);
        x = told(ONE + "rope 0 to 1 bears 98 of 0;rope 0 to 1 bears 150 of 0;rope 0 to 1 bears 149 of 0;" + persons);
        due("no two of 98 together", x.bears(0), 1);
        due("three groups", x.groups(0), 3);
        due("all of 150 together", x.bears(1), 3);
        due("one group", x.groups(1), 1);
        due("not all of 149", x.groups(2), 2);

        edge("To cross takes its INCHES times pace.");
        x = told(HEAD + "knot inches 9 weak 0;rope 0 to 1 bears 9 of" + " 0".repeat(12) + ";rope 0 to 1 bears 1 of 0;person weighs 2 pace 9 at 0;person weighs 1 pace 1 at 0;");
        due("119 times 9", x.way(0, 0, 1), 1071);
        due("9 times 1", x.way(1, 0, 1), 9);
        x.splice(0, 0);
        due("239 times 9", x.way(0, 0, 1), 2151);
        x.wet(1);
        due("216 times 9", x.way(0, 0, 1), 1944);

        edge("A group crosses as slowly as its slowest, one group behind the other, wear aside.");
        x = told("gorge places 2 wear 99 odds 0;" + KNOT + "rope 0 to 1 bears 5 of 0 0;rope 0 to 1 bears 15 of 0 0;person weighs 5 pace 2 at 0;person weighs 5 pace 9 at 1;person weighs 5 pace 4 at 0;");
        due("one behind the other", x.ferry(0), 45);
        due("all at once", x.ferry(1), 27);
        due("wear aside", x.groups(0), 3);

        edge("From the ROPE's first PLACE to the second it is READ forward, else back.");
        x = told("gorge places 2 wear 0 odds 0;" + KNOT + KNOT + "word 0 1 means 3;word 1 0 means 4;rope 1 to 0 bears 9 of 0 1;person weighs 5 pace 2 at 0;");
        due("from the first", x.learns(0, 1, 0, 3), 6);
        due("from the second", x.learns(0, 0, 1, 4), 6);
        due("from the first, not back", x.learns(0, 1, 0, 4), 18);
        due("from the second, not forward", x.learns(0, 0, 1, 3), 18);

        part("V");
        edge("DRAWS: x becomes (1103515245 x + 12345) modulo 2,147,483,648 (at first it is the seed); a draw: x / 65536, cut, modulo 100.");
        for (int seed : new int[] {0, 1, 2, 99, 65535, 65536, 123456789, 1073741824, 1999999999, 2000000000}) drawsOf(seed);

        edge("COPY: KNOT by KNOT a draw: below odds it is the next kind (the last one: kind 0).");
        String words = "word 0 means 1;word 1 means 10;word 2 means 40;";
        x = told("gorge places 2 wear 0 odds 100;" + KNOT.repeat(3) + words + r + "0;" + r + "1;" + r + "2;" + r + "0 1 2 0 1 2 0 1 2 0 1 2;");
        due("of kind 0", x.drawn(1, 0, 2), 10);
        due("of kind 1", x.drawn(1, 1, 2), 40);
        due("of the last one", x.drawn(1, 2, 2), 1);
        due("by odds of 100 all", x.drawn(1, 3, 0), 12);
        due("of all", x.drawn(1, 3, 2), 204);
        x = told("gorge places 2 wear 0 odds 0;" + KNOT.repeat(3) + words + r + "0 1 2 0 1 2 0 1 2 0 1 2;");
        for (int seed = 0; seed < 200; seed++) due("by odds of 0 none", x.drawn(seed, 0, 0), 0);
    }

    /** Each draw is told by two odds: at it the knot stays, one above it the knot is changed. */
    private static void drawsOf(int seed) {
        long x = seed;
        int[] draws = new int[24];
        for (int i = 0; i < 24; i++) {
            // the modulus and the divisor are powers of two, so bits are cut off and shifted out
            x = 1103515245L * x + 12345L & 0x7fffffffL;
            draws[i] = (int) ((x >> 16) % 100);
        }
        for (int n = 1; n <= 24; n++) {
            int d = draws[n - 1];
            due("draw " + n + " from " + seed + " at odds of it", changedAt(seed, n, d), 0);
            due("draw " + n + " from " + seed + " at odds above it", changedAt(seed, n, d + 1), 1);
        }
    }

    /** Whether knot n of a copy is changed: a rope of n knots against one that is a knot shorter. */
    private static int changedAt(int seed, int n, int odds) {
        String ahead = "gorge places 2 wear 0 odds " + odds + ";" + KNOT + KNOT;
        int shorter = n == 1 ? 0 : zeros(ahead, n - 1).drawn(seed, 0, 0);
        return zeros(ahead, n).drawn(seed, 0, 0) - shorter;
    }

    // ---- the promises

    private interface Call {
        int of(int a);
    }

    /** Numbers there are none of, where there are 0 .. n less 1: beside them, and such as wrap around to one. */
    private static void beside(String call, int n, int want, Call c) {
        for (int a : new int[] {-1, n, n + 1, 32, 64, 256, 65536, 1 << 30, MAX, MIN, MIN + 1, -32, -64}) {
            if (a < 0 || a >= n) due(call + " with " + a, c.of(a), want);
        }
    }

    private static void noGorge(KnotRope x) {
        for (int what = 0; what <= 9; what++) due("count(" + what + ")", x.count(what), 0);
        due("knot", x.knot(0, 0), -2);
        due("word", x.word(0, 0), -2);
        due("means", x.means(0), -2);
        due("rope", x.rope(0, 0), -1000);
        due("at", x.at(0, 0), -2);
        due("person", x.person(0, 0), -2);
        due("reads", x.reads(0, 0), -2);
        due("says", x.says(0, 0, 0), -2);
        due("sum", x.sum(0, 0, 0), -2);
        due("has", x.has(0, 0, 0), -2);
        due("shortest", x.shortest(1, 0), -2);
        due("writes", x.writes(1, 0, 0), -2);
        due("slips", x.slips(0), -2);
        due("spots", x.spots(0), -2);
        due("feel", x.feel(0), -2);
        due("leaves", x.leaves(0), -2);
        due("forged", x.forged(0), -2);
        due("forge", x.forge(0, 0), -2);
        due("overlap", x.overlap(0, 0), -2);
        due("all", x.all(), -2);
        due("order", x.order(0), -2);
        due("part", x.part(0, 0), -2);
        due("errors", x.errors(0, 0), -2);
        due("common", x.common(0, 0), -2);
        due("which", x.which(1), -2);
        due("feels", x.feels(1), -2);
        due("way", x.way(0, 0, 0), -2);
        due("by", x.by(0, 0, 0, 0), -2);
        due("learns", x.learns(0, 0, 0, 0), -2);
        due("keys", x.keys(0, 0, 0), -2);
        due("ferry", x.ferry(0), -2);
        due("groups", x.groups(0), -2);
        due("group", x.group(0), -2);
        due("lasts", x.lasts(0, 1), -2);
        due("bears", x.bears(0), -2);
        due("cross", x.cross(0, 0), -2);
        due("tie", x.tie(0, 0, 0), -2);
        due("cut", x.cut(0, 1), -2);
        due("splice", x.splice(0, 0), -2);
        due("wet", x.wet(1), -2);
        due("undo", x.undo(), -2);
        due("anew", x.anew(), -2);
        due("drawn", x.drawn(0, 0, 0), -2);
        due("winters", x.winters(0, 0, 1), -2);
        for (int slot = 0; slot < 4; slot++) {
            due("text", x.text(slot), -2);
            due("like", x.like(slot), -2);
            due("found", x.found(slot), -2);
            due("mend", x.mend(slot), -2);
            due("mended", x.mended(slot, 0), -2);
        }
    }

    private static void telling() {
        promise(1);
        edge("No GORGE.");
        KnotRope x = new KnotRope();
        noGorge(x);
        due("count(10)", x.count(10), 0);
        due("count(11)", x.count(11), 0);
        due("fault(0)", x.fault(0), 0);
        due("fault(1)", x.fault(1), -1);
        for (int k = 0; k < 3; k++) due("back(" + k + ")", x.back(k), -6);
        for (int s = 0; s < 4; s++) due("write(" + s + ", ..)", x.write(s, 0, 0), -6);

        promise(2);
        edge("Twenty bytes come behind the TAPE, four of each number, the highest first: how many it has;");
        due("the first", x.feed(0x676f7267, 0x6520706c, 0x61636573, 0x20322077, 0x65617220), 20);
        due("the second, behind it", x.feed(0x30206f64, 0x64732030, 0x3b202020, 0x20202020, 0x0a202020), 40);
        due("gorge()", x.gorge(), 1);
        due("of each number the lowest, too", x.feed(0x20202020, 0x20202020, 0x20202020, 0x20202020, 0x202020ff), 20);
        due("gorge()", x.gorge(), -4);
        due("its place", x.fault(1), 19);
        for (int i = 0; i < 5; i++) {
            for (int b = 0; b < 4; b++) {
                int[] n = {0x20202020, 0x20202020, 0x20202020, 0x20202020, 0x20202020};
                n[i] ^= 0x80 << 8 * (3 - b);
                x.feed(n[0], n[1], n[2], n[3], n[4]);
                x.gorge();
                due("byte " + b + " of number " + i, x.fault(1), 4 * i + b);
            }
        }
        due("numbers below 0", x.feed(-1, -1, -1, -1, MIN), 20);
        due("gorge()", x.gorge(), -4);
        due("its place", x.fault(1), 0);
        x.feed(0x20202020, 0, 0, 0, 0);
        x.end(3);
        due("behind what is left of it", x.feed(0x23202020, 0, 0, 0, 0), 23);
        x.gorge();
        due("its place", x.fault(1), 3);

        edge("NONE, and none come, if it would have more than 1,400.");
        for (int n = 1380; n <= 1400; n++) {
            x = new KnotRope();
            feed(x, HEAD + " ".repeat(1371));
            due("full", x.count(10), 1400);
            x.end(n);
            due("feed behind " + n, x.feed(0x20202020, 0x20202020, 0x20202020, 0x20202020, 0x20202020), n == 1380 ? 1400 : -1);
            due("it has", x.count(10), n == 1380 ? 1400 : n);
            due("gorge()", x.gorge(), 1);
        }
        feed(x, HEAD + " ".repeat(1371));
        for (int i = 0; i < 3; i++) due("again and again", x.feed(-1, -1, -1, -1, -1), -1);
        due("none came", x.gorge(), 1);

        promise(3);
        edge("The TAPE has its first n bytes alone: n;");
        feed(x, HEAD + "#".repeat(31));
        due("end(60), as many as there are", x.end(60), 60);
        due("end(29)", x.end(29), 29);
        due("gorge()", x.gorge(), 1);
        due("end(0) of none", x.end(0), 0);
        feed(x, HEAD);
        due("end(0)", x.end(0), 0);
        due("count(10)", x.count(10), 0);
        due("gorge()", x.gorge(), 0);
        feed(x, "gorge places 29" + " ".repeat(5));
        due("in a number", x.end(14), 14);
        feed(x, " wear 0 odds 0;     ");
        due("what was cut is gone", x.gorge(), 1);
        feed(x, "#".repeat(1400));
        due("end(1400)", x.end(1400), 1400);
        due("end(1)", x.end(1), 1);

        edge("NONE, and nothing happens, if it has not so many, or n is below 0.");
        x = new KnotRope();
        due("end(1) of none", x.end(1), -1);
        feed(x, HEAD + " ".repeat(11));
        for (int n : new int[] {41, 42, 1400, 1401, MAX, -1, -40, MIN}) {
            due("end(" + n + ")", x.end(n), -1);
            due("count(10)", x.count(10), 40);
        }
        due("gorge()", x.gorge(), 1);
        due("end(1) behind gorge()", x.end(1), -1);

        promise(4);
        edge("The TAPE (empty then) is the GORGE (in place of another), nothing done, dry: how many LINES (0: there is none then).");
        x = told(FULL);
        due("29 lines", x.count(9), 29);
        due("the TAPE is empty", x.count(10), 0);
        String as = look(x);
        x.wet(1);
        x.cross(0, 0);
        x.cut(1, 1);
        due("the same again", tell(x, FULL), 29);
        alike("nothing done, dry", look(x), as);
        due("undo()", x.undo(), -5);
        due("a smaller one", tell(x, ONE), 2);
        alike("all of it", look(x), look(told(ONE)));
        due("and the full one", tell(x, FULL), 29);
        alike("all of it", look(x), as);
        inPlaceOfOthers();
        due("of no bytes", x.gorge(), 0);
        noGorge(x);
        tell(x, FULL);
        due("of blanks", tell(x, " \n".repeat(700)), 0);
        noGorge(x);
        due("the TAPE is empty", x.count(10), 0);

        edge("-4: a FAULT (all stays).");
        x = told(FULL);
        x.row(0, 0, 3);
        x.image(1);
        x.wet(1);
        x.cross(0, 0);
        x.tie(0, 0, 5);
        x.splice(1, 1);
        as = look(x);
        for (String text : new String[] {"gorge", "knot", HEAD + "gorge", FULL + "knot", "gorge places 2 wear 0 odds 0", TWO + "word 0 means 0;word 1 1 1 1 means 3;rope 1 to 0 bears 1 of 1 1;person weighs 9 pace 9 at 1;#"}) {
            due("a fault", tell(x, text), -4);
            alike("all stays", look(x), as);
            due("the TAPE is empty then, too", x.count(10), 0);
            due("SLOTS", x.count(11), 1);
        }
        due("undo()", x.undo(), 3);
        due("anew()", x.anew(), 3);
        due("IMAGES", x.back(1), 0);
        alike("as it was told", look(x), look(told(FULL)));
        x = new KnotRope();
        due("a fault ahead of any GORGE", tell(x, "gorge"), -4);
        noGorge(x);

        promise(5);
        edge("Of the latest gorge(), what 0: its FAULT, 0 without, 1: its place (NONE without).");
        due("fault(0)", x.fault(0), 1);
        due("fault(1)", x.fault(1), 5);
        tell(x, "gorge places 7");
        due("fault(0) of the latest", x.fault(0), 2);
        due("fault(1) of the latest", x.fault(1), 13);
        tell(x, "#");
        due("fault(1) at the first byte", x.fault(1), 0);
        tell(x, " ".repeat(1399) + "#");
        due("fault(1) at the last byte", x.fault(1), 1399);
        tell(x, HEAD);
        due("fault(0) without", x.fault(0), 0);
        due("fault(1) without", x.fault(1), -1);
        tell(x, "#");
        due("gorge() of no bytes", x.gorge(), 0);
        due("fault(0) without", x.fault(0), 0);
        due("fault(1) without", x.fault(1), -1);
        tell(x, FULL + "knot");
        x.feed(0, 0, 0, 0, 0);
        x.image(0);
        x.back(0);
        due("fault(0) stays by other calls", x.fault(0), 3);
        due("fault(1) stays by other calls", x.fault(1), FULL.length());

        edge("NONE for another what, and ahead of any (what 1).");
        KnotRope y = x;
        beside("fault", 2, -1, y::fault);
        KnotRope fresh = new KnotRope();
        beside("fault of a new object", 2, -1, fresh::fault);
        due("ahead of any", fresh.fault(1), -1);
        due("what 0, ahead of any", fresh.fault(0), 0);
    }

    /** All that can be asked without changing anything, by numbers that there are and some beside them. */
    private static List<Act> questions() {
        List<Act> q = new ArrayList<>();
        for (int r = -1; r < 7; r++) {
            int a = r;
            for (int back = 0; back < 2; back++) {
                int b = back;
                q.add(x -> x.reads(a, b));
                q.add(x -> x.sum(a, b, 0));
                q.add(x -> x.sum(a, b, 1));
                for (int i = 0; i < 4; i++) {
                    int at = i;
                    q.add(x -> x.says(a, b, at));
                    q.add(x -> x.has(a, b, 6 * at));
                    q.add(x -> x.lasts(a, 1 + 90 * at));
                }
                q.add(x -> x.forge(a, b));
            }
            q.add(x -> x.slips(a));
            q.add(x -> x.spots(a));
            q.add(x -> x.feel(a));
            q.add(x -> x.leaves(a));
            q.add(x -> x.forged(a));
            q.add(x -> x.ferry(a));
            q.add(x -> x.groups(a));
            q.add(x -> x.group(a));
            q.add(x -> x.bears(a));
            q.add(x -> x.order(a));
            for (int o = 0; o < 6; o++) {
                int b = o;
                q.add(x -> x.overlap(a, b));
                q.add(x -> x.part(a, b));
                q.add(x -> x.errors(a, b));
                q.add(x -> x.common(a, b));
                q.add(x -> x.drawn(77 * b, a, b % 3));
                q.add(x -> x.winters(b, a, 20));
                for (int p = 0; p < 4; p++) {
                    int who = p;
                    q.add(x -> x.way(who, a, b));
                    q.add(x -> x.by(who, a, b, who));
                    q.add(x -> x.learns(who, a, b, 5 * who));
                    q.add(x -> x.keys(who, a, b));
                }
            }
        }
        q.add(KnotRope::all);
        for (int i = 0; i < 64; i++) {
            int set = i;
            q.add(x -> x.which(set));
            q.add(x -> x.feels(set));
            q.add(x -> x.shortest(set * 8, 50));
            q.add(x -> x.writes(set, 50, set % 5));
        }
        for (int s = 0; s < 4; s++) {
            int slot = s;
            q.add(x -> x.text(slot));
            q.add(x -> x.like(slot));
            q.add(x -> x.found(slot));
            q.add(x -> x.mend(slot));
            for (int i = 0; i < 4; i++) {
                int at = i;
                q.add(x -> x.mended(slot, at));
            }
        }
        return q;
    }

    /** A small gorge answers as it does in a new object, whatever was told, done and asked ahead, in whatever order. */
    private static void inPlaceOfOthers() {
        String r = "rope 1 to 0 bears 90 of ";
        // what the full gorge has behind the last word, rope and person of these fits their ropes
        String[] small = {HEAD, ONE, TWO + "word 0 means 3;" + r + "1 0;" + r + "1;" + r + "0 1;person weighs 80 pace 2 at 1;",
            TWO + "word 1 means 3;" + r + "0;" + r + "1 1;", THREE + "word 0 1 means 5;word 2 means 1;" + r + "2;" + r + "0 1 2;" + r + "0 0 0 0;"};
        for (String text : small) {
            List<Act> questions = questions();
            KnotRope used = new KnotRope();
            for (String ahead : new String[] {FULL, ROW, FULL, FULL}) {
                tell(used, ahead);
                for (Act act : forty()) act.on(used);
                for (Act q : questions) q.on(used);
            }
            tell(used, text);
            KnotRope fresh = told(text);
            for (KnotRope x : new KnotRope[] {used, fresh}) {
                slot(x, 0);
                slot(x, 1, 0, 1, 1);
                slot(x, 2, 5, 4, 3, 2);
            }
            int[] due = new int[questions.size()];
            for (int i = 0; i < due.length; i++) due[i] = questions.get(i).on(fresh);
            List<Integer> order = new ArrayList<>();
            for (int i = 0; i < due.length; i++) order.add(i);
            for (int turn = 0; turn < 3; turn++) {
                for (int i : order) due("question " + i + " of " + text, questions.get(i).on(used), due[i]);
                java.util.Collections.shuffle(order, new Random(turn));
            }
        }
    }

    private static void parts() {
        KnotRope full = told(FULL);
        KnotRope few = told(HEAD + "knot inches 1 weak 0;word 0 0 means 0;rope 1 to 0 bears 1 of 0 0 0;person weighs 1 pace 1 at 1;");
        KnotRope bare = told(HEAD);

        promise(6);
        edge("Of a kind of KNOT, what 0: inches, 1: weak.");
        due("the first's inches", full.knot(0, 0), 9);
        due("the first's weak", full.knot(0, 1), 50);
        due("the last's inches", full.knot(5, 0), 4);
        due("the last's weak", full.knot(5, 1), 0);
        due("the least inches", few.knot(0, 0), 1);
        edge("-2: there are none such.");
        beside("knot(.., 0)", 6, -2, k -> full.knot(k, 0));
        beside("knot(.., 0) of one", 1, -2, k -> few.knot(k, 0));
        beside("knot(.., 1) of none", 0, -2, k -> bare.knot(k, 1));
        beside("knot(0, ..)", 2, -2, what -> full.knot(0, what));
        beside("knot(5, ..)", 2, -2, what -> full.knot(5, what));

        promise(7);
        edge("KNOT i (from 0) of a WORD.");
        due("the first of one", full.word(0, 0), 0);
        due("the first of four", full.word(8, 0), 5);
        due("the last of four", full.word(8, 3), 2);
        due("of the last word", full.word(9, 3), 0);
        edge("NONE: there is none such; -2: there is no such WORD.");
        beside("word(0, ..)", 1, -1, i -> full.word(0, i));
        beside("word(8, ..)", 4, -1, i -> full.word(8, i));
        beside("word(6, ..)", 2, -1, i -> full.word(6, i));
        beside("word(.., 0)", 10, -2, w -> full.word(w, 0));
        beside("word(.., 9)", 10, -2, w -> full.word(w, 9));
        beside("word(.., 0) of one", 1, -2, w -> few.word(w, 0));
        beside("word(.., 0) of none", 0, -2, w -> bare.word(w, 0));

        promise(8);
        edge("What a WORD means.");
        due("the greatest", full.means(0), 99);
        due("the least, of the last", full.means(9), 0);
        edge("-2: there is none such.");
        beside("means", 10, -2, full::means);
        beside("means of one", 1, -2, few::means);
        beside("means of none", 0, -2, bare::means);

        promise(9);
        edge("Of a ROPE now, what 0, 1: its PLACES, 2: bears, 3: how many KNOTS, 4: INCHES, 5: STRENGTH, 6: how often it was crossed.");
        int[] first = {0, 1, 999, 12, 119, 499, 0};
        int[] last = {5, 0, 994, 12, 59, 994, 0};
        for (int what = 0; what < 7; what++) {
            due("rope(0, " + what + ")", full.rope(0, what), first[what]);
            due("rope(5, " + what + ")", full.rope(5, what), last[what]);
        }
        KnotRope now = told(FULL);
        now.cross(0, 0);
        now.cut(0, 1);
        now.tie(0, 0, 5);
        now.splice(5, 5);
        now.wet(1);
        int[] then = {0, 1, 999, 1, 4, 900, 1};
        for (int what = 0; what < 7; what++) due("rope(0, " + what + ") now", now.rope(0, what), then[what]);
        due("KNOTS now, the most", now.rope(5, 3), 24);
        due("INCHES now", now.rope(5, 4), 108);
        edge("-1,000: there are none such (STRENGTH may be below 0).");
        beside("rope(0, ..)", 7, -1000, what -> full.rope(0, what));
        beside("rope(5, ..)", 7, -1000, what -> full.rope(5, what));
        for (int what = -1; what < 8; what++) {
            int w = what;
            beside("rope(.., " + w + ")", 6, -1000, r -> full.rope(r, w));
            beside("rope(.., " + w + ") of one", 1, -1000, r -> few.rope(r, w));
            beside("rope(.., " + w + ") of none", 0, -1000, r -> bare.rope(r, w));
        }
        KnotRope below = told("gorge places 2 wear 99 odds 0;knot inches 1 weak 0;rope 0 to 1 bears 1 of 0;rope 0 to 1 bears 2 of 0;person weighs 1 pace 1 at 0;");
        below.cross(0, 0);
        below.cross(0, 1);
        due("STRENGTH below 0", below.rope(0, 5), -98);
        due("STRENGTH below 0", below.rope(1, 5), -97);

        promise(10);
        edge("KNOT i (from 0) of a ROPE now.");
        due("the first", full.at(0, 0), 0);
        due("the last of the last", full.at(5, 11), 5);
        due("tied", now.at(0, 0), 5);
        due("spliced", now.at(5, 23), 5);
        edge("NONE: there is none such; -2: there is no such ROPE.");
        beside("at(0, ..)", 12, -1, i -> full.at(0, i));
        beside("at(5, ..) spliced", 24, -1, i -> now.at(5, i));
        beside("at(0, ..) cut", 1, -1, i -> now.at(0, i));
        beside("at(.., 0)", 6, -2, r -> full.at(r, 0));
        beside("at(.., 99)", 6, -2, r -> full.at(r, 99));
        beside("at(.., 0) of one", 1, -2, r -> few.at(r, 0));
        beside("at(.., 0) of none", 0, -2, r -> bare.at(r, 0));

        promise(11);
        edge("Of a PERSON, what 0: weighs, 1: pace, 2: the PLACE where it is now.");
        due("the first's weight", full.person(0, 0), 1);
        due("the first's pace", full.person(0, 1), 9);
        due("the first's place", full.person(0, 2), 0);
        due("the last's weight", full.person(5, 0), 999);
        due("the last's pace", full.person(5, 1), 1);
        due("the last's place", full.person(5, 2), 5);
        due("the place now", now.person(0, 2), 1);
        edge("-2: there are none such.");
        beside("person(.., 0)", 6, -2, p -> full.person(p, 0));
        beside("person(.., 2) of one", 1, -2, p -> few.person(p, 2));
        beside("person(.., 1) of none", 0, -2, p -> bare.person(p, 1));
        beside("person(0, ..)", 3, -2, what -> full.person(0, what));
        beside("person(5, ..)", 3, -2, what -> full.person(5, what));
    }

    /** A gorge whose rope 0 has so many knots of kind 0; above twelve it is spliced from two. */
    private static KnotRope zeros(String ahead, int n) {
        String rope = "rope 0 to 1 bears 9 of";
        KnotRope x = told(ahead + rope + " 0".repeat(Math.min(n, 12)) + ";" + (n > 12 ? rope + " 0".repeat(n - 12) + ";" : ""));
        if (n > 12) x.splice(0, 1);
        if (x.rope(0, 3) != n) fail("not " + n + " knots");
        return x;
    }

    private static void readings() {
        KnotRope full = told(FULL);
        KnotRope few = told(TWO + "word 0 means 3;word 0 0 means 4;rope 0 to 1 bears 1 of 0;rope 0 to 1 bears 1 of 1;rope 0 to 1 bears 1 of 0 0 0 1;rope 0 to 1 bears 1 of 1 0;");
        KnotRope bare = told(HEAD);
        KnotRope most = zeros(ONE + "word 0 means 99;word 0 0 means 1;word 0 0 0 means 2;word 0 0 0 0 means 3;", 24);
        KnotRope long1 = zeros(ONE + "word 0 means 99;", 24);

        promise(12);
        edge("In how many ways a ROPE can be READ forward (back 0) or back (1).");
        due("one KNOT", few.reads(0, 0), 1);
        due("no way", few.reads(1, 0), 0);
        due("all but the last KNOT", few.reads(2, 0), 0);
        due("all but the first KNOT", few.reads(3, 0), 0);
        due("no way back", few.reads(2, 1), 0);
        due("the most ways", most.reads(0, 0), 3919944);
        due("the most ways back", most.reads(0, 1), 3919944);
        due("without WORDS", zeros(ONE, 12).reads(0, 0), 0);
        due("the last ROPE", full.reads(5, 0), 1);
        edge("-2: there are none such.");
        for (int back = -1; back < 3; back++) {
            int b = back;
            beside("reads(.., " + b + ")", 6, -2, r -> full.reads(r, b));
            beside("reads(.., " + b + ") of none", 0, -2, r -> bare.reads(r, b));
        }
        beside("reads(0, ..)", 2, -2, b -> full.reads(0, b));

        promise(13);
        edge("WORD i (from 0) of the first such (the least row of WORDS).");
        for (int i = 0; i < 24; i++) due("says(0, 0, " + i + ")", most.says(0, 0, i), 0);
        due("back, the last of the most", long1.says(0, 1, 23), 0);
        KnotRope least = told(TWO + "word 0 1 means 0;word 0 means 0;word 1 means 0;word 1 0 means 0;rope 0 to 1 bears 1 of 0 1 0 1;rope 0 to 1 bears 1 of 0 1 0;rope 0 to 1 bears 1 of 0;");
        due("the longer of less number", least.says(0, 0, 0), 0);
        due("and then", least.says(0, 0, 1), 0);
        due("0 1 0: first", least.says(1, 0, 0), 0);
        due("0 1 0: second", least.says(1, 0, 1), 1);
        due("back of 0 1 0 1: first", least.says(0, 1, 0), 2);
        due("back of 0 1 0 1: second", least.says(0, 1, 1), 0);
        due("back of 0 1 0 1: third", least.says(0, 1, 2), 1);
        KnotRope dead = told(TWO + "word 0 means 0;word 0 0 means 0;word 0 1 means 0;rope 0 to 1 bears 1 of 0 0 1;");
        due("the least that leaves no rest", dead.says(0, 0, 0), 0);
        due("and then", dead.says(0, 0, 1), 2);
        edge("NONE: there is none such; -2 likewise.");
        beside("says(0, 0, ..) of 24", 24, -1, i -> long1.says(0, 0, i));
        beside("says(0, 1, ..) of 24", 24, -1, i -> long1.says(0, 1, i));
        beside("says(0, 0, ..) of two", 2, -1, i -> least.says(0, 0, i));
        beside("says(2, 0, ..) of one", 1, -1, i -> least.says(2, 0, i));
        beside("says(1, 0, ..) of none", 0, -1, i -> few.says(1, 0, i));
        due("of no READING", few.says(2, 0, 0), -1);
        due("of no READING", few.says(2, 0, 1), -1);
        beside("says(.., 0, 0)", 6, -2, r -> full.says(r, 0, 0));
        beside("says(.., 0, -1)", 6, -2, r -> full.says(r, 0, -1));
        beside("says(0, .., 0)", 2, -2, b -> full.says(0, b, 0));
        beside("says(0, .., 99)", 2, -2, b -> full.says(0, b, 99));

        promise(14);
        edge("The least SUM (what 0), the greatest (1) of all READINGS.");
        due("the greatest there can be", long1.sum(0, 0, 1), 2376);
        due("the least, as it is the one", long1.sum(0, 0, 0), 2376);
        due("the least of many", most.sum(0, 0, 0), 12);
        due("the greatest of many", most.sum(0, 1, 1), 2376);
        due("of words that mean nothing", least.sum(0, 0, 1), 0);
        edge("NONE: there is no READING; -2 likewise, no such what.");
        for (int what = 0; what < 2; what++) {
            due("no READING", few.sum(1, 0, what), -1);
            due("no READING back", few.sum(2, 1, what), -1);
        }
        beside("sum(0, 0, ..)", 2, -2, what -> full.sum(0, 0, what));
        beside("sum(1, 0, ..) of no READING", 2, -2, what -> few.sum(1, 0, what));
        beside("sum(0, .., 0)", 2, -2, b -> full.sum(0, b, 0));
        beside("sum(.., 0, 1)", 6, -2, r -> full.sum(r, 0, 1));

        promise(15);
        edge("Whether it has a READING with a SUM (0 .. 2,400): 1, 0.");
        for (int v : new int[] {0, 1, 2, 31, 32, 33, 62, 63, 64, 65, 66, 98, 99}) {
            for (int n = 1; n <= 24; n++) {
                KnotRope x = zeros(ONE + "word 0 means " + v + ";", n);
                int sum = n * v;
                due("has " + sum, x.has(0, 0, sum), 1);
                due("has one more than " + sum, x.has(0, 0, sum + 1), 0);
                due("has 64 more than " + sum, x.has(0, 1, Math.min(sum + 64, 2400)), 0);
                if (sum > 0) due("has one less than " + sum, x.has(0, 1, sum - 1), 0);
                if (sum >= 64) due("has 64 less than " + sum, x.has(0, 0, sum - 64), 0);
            }
        }
        due("the greatest, 2,400", long1.has(0, 0, 2400), 0);
        due("2,376", long1.has(0, 1, 2376), 1);
        due("0 of no READING", few.has(1, 0, 0), 0);
        int[] edges = {0, 1, 2, 28, 29, 30, 34, 35, 36, 62, 63, 64, 65, 66, 98, 99};
        for (int v : edges) {
            for (int w : edges) {
                KnotRope x = told(TWO + "word 0 means " + v + ";word 1 means " + w + ";rope 0 to 1 bears 9 of 0 1;");
                for (int sum = Math.max(0, v + w - 2); sum < v + w + 3; sum++) due("has " + sum + " of " + v + " and " + w, x.has(0, 0, sum), sum == v + w ? 1 : 0);
                for (int far : new int[] {v, w, v + w - 64, v + w + 64}) {
                    if (far >= 0 && far != v + w) due("has " + far + " of " + v + " and " + w, x.has(0, 1, far), 0);
                }
            }
        }
        KnotRope both = told(ONE + "word 0 means 1;word 0 0 means 64;rope 0 to 1 bears 9 of 0 0 0;");
        for (int sum = 0; sum < 200; sum++) due("of 3, 65: " + sum, both.has(0, 0, sum), sum == 3 || sum == 65 ? 1 : 0);
        edge("-2 likewise.");
        beside("has(0, 0, ..)", 2401, -2, sum -> full.has(0, 0, sum));
        beside("has(1, 0, ..) of no READING", 2401, -2, sum -> few.has(1, 0, sum));
        beside("has(0, .., 0)", 2, -2, b -> full.has(0, b, 0));
        beside("has(.., 0, 0)", 6, -2, r -> full.has(r, 0, 0));
    }

    private static void shortestTexts() {
        KnotRope dear = told(HEAD + "knot inches 9 weak 50;word 0 0 0 0 means 1;");
        KnotRope even = told(ONE + "word 0 means 2;");
        KnotRope none = new KnotRope();

        promise(16);
        edge("SHORTEST: the fewest INCHES (dry) of a TEXT that has a READING with a SUM (1 .. 500) and of whose KNOTS none is weak above weak (0 .. 50).");
        due("SUM 1", dear.shortest(1, 50), 39);
        due("SUM 500", dear.shortest(500, 50), 19999);
        due("SUM 1 again", dear.shortest(1, 50), 39);
        due("one KNOT", even.shortest(2, 0), 1);
        due("250 KNOTS", even.shortest(500, 50), 499);
        even.wet(1);
        due("dry", even.shortest(500, 0), 499);
        KnotRope weak = told(HEAD + "knot inches 1 weak 0;knot inches 1 weak 25;knot inches 5 weak 0;word 0 1 means 6;word 2 means 6;word 2 0 means 7;");
        due("as weak", weak.shortest(6, 25), 3);
        due("weak above", weak.shortest(6, 24), 5);
        due("weak 0", weak.shortest(6, 0), 5);
        due("weak 50", weak.shortest(6, 50), 3);
        due("of two words", weak.shortest(12, 25), 7);
        due("of two words, less weak", weak.shortest(12, 24), 11);
        due("of unlike words", weak.shortest(13, 25), 11);
        edge("NONE: there is none; -2: there are none such, no GORGE.");
        due("weak above", dear.shortest(1, 49), -1);
        due("weak above, SUM 500", dear.shortest(500, 0), -1);
        due("an odd SUM", even.shortest(1, 50), -1);
        due("an odd SUM", even.shortest(499, 50), -1);
        due("words that mean nothing", told(ONE + "word 0 means 0;").shortest(1, 50), -1);
        due("a word that means more", told(ONE + "word 0 means 99;").shortest(98, 50), -1);
        due("without WORDS", told(HEAD).shortest(500, 50), -1);
        for (int sum : new int[] {0, -1, 501, 502, MAX, MIN}) due("SUM " + sum, even.shortest(sum, 50), -2);
        beside("shortest(2, ..)", 51, -2, w -> even.shortest(2, w));
        beside("shortest(1, ..) of none", 51, -2, w -> even.shortest(1, w));
        due("no GORGE", none.shortest(1, 0), -2);

        promise(17);
        edge("WORD i (from 0) of the first such (the least row of WORDS of all so short).");
        due("the last of 500", dear.writes(500, 50, 499), 0);
        due("the one of one", dear.writes(1, 50, 0), 0);
        KnotRope like = told(TWO + "word 0 means 2;word 1 means 1;word 0 1 means 3;");
        // 0 and 1, 1 and 0, and the word 0 1 are of two knots each
        due("SUM 3: the least row", like.writes(3, 50, 0), 0);
        due("SUM 3: its second", like.writes(3, 50, 1), 1);
        due("SUM 4: of all so short alone", like.writes(4, 50, 0), 0);
        due("SUM 4: its second", like.writes(4, 50, 1), 0);
        due("SUM 5: its third", like.writes(5, 50, 2), 1);
        KnotRope later = told(TWO + "word 0 0 0 means 4;word 1 means 2;");
        due("not the least word, but shorter", later.writes(4, 50, 0), 1);
        due("its second", later.writes(4, 50, 1), 1);
        edge("NONE: there is none such; -2 likewise.");
        beside("writes(500, 50, ..)", 500, -1, i -> dear.writes(500, 50, i));
        beside("writes(1, 50, ..)", 1, -1, i -> dear.writes(1, 50, i));
        beside("writes(3, 50, ..)", 2, -1, i -> like.writes(3, 50, i));
        beside("writes(1, 50, ..) of none", 0, -1, i -> even.writes(1, 50, i));
        due("none, behind a word that fits", even.writes(499, 50, 1), -1);
        for (int sum : new int[] {0, -1, 501, 502, MAX, MIN}) due("SUM " + sum, even.writes(sum, 50, 0), -2);
        beside("writes(2, .., 0)", 51, -2, w -> even.writes(2, w, 0));
        beside("writes(2, .., -1)", 51, -2, w -> even.writes(2, w, -1));
        due("no GORGE", none.writes(1, 0, 0), -2);
    }

    private static void slipped() {
        String six = HEAD + KNOT.repeat(6);
        String words = "word 0 means 50;word 1 means 0;word 2 means 99;word 3 means 51;word 4 means 49;word 5 means 50;";
        KnotRope all = zeros(six + words, 24);
        KnotRope one = told(ONE + "word 0 means 4;rope 0 to 1 bears 1 of 0 0;");
        // a third kind that is in no word stands at one place alone
        KnotRope last = zeros(THREE + "word 0 means 1;word 1 means 1;", 24);
        last.tie(0, 23, 2);
        KnotRope first = zeros(THREE + "word 0 means 1;word 1 means 1;", 24);
        first.tie(0, 0, 2);
        KnotRope two = told(THREE + "word 0 means 1;rope 0 to 1 bears 1 of 2 0 1;rope 0 to 1 bears 1 of 0 1 0;");
        KnotRope few = told(THREE + "word 0 means 1;word 0 1 means 1;word 0 2 means 8;rope 0 to 1 bears 1 of 0 0;rope 0 to 1 bears 1 of 1;rope 0 to 1 bears 1 of 0;rope 0 to 1 bears 1 of 0 1;");

        promise(18);
        edge("SLIPPED: how many TEXTS there are that differ from a ROPE's by one KNOT (another kind in its place) and can be READ forward.");
        due("the most", all.slips(0), 120);
        due("no other kind", one.slips(0), 0);
        due("at the last place", last.slips(0), 2);
        due("at the first place", first.slips(0), 2);
        due("by two KNOTS", two.slips(0), 0);
        due("by one", two.slips(1), 1);
        due("0 0: 0 1 and 0 2", few.slips(0), 2);
        due("of one KNOT that can't be READ", few.slips(1), 1);
        due("of one KNOT that can", few.slips(2), 0);
        due("0 1: 0 0 and 0 2", few.slips(3), 2);
        due("without WORDS", zeros(TWO, 3).slips(0), 0);
        edge("-2: there is no such ROPE.");
        beside("slips of one", 1, -2, one::slips);
        beside("slips of four", 4, -2, few::slips);

        promise(19);
        edge("At which of its KNOTS (bits), so.");
        due("all of 24", all.spots(0), 16777215);
        due("none", one.spots(0), 0);
        due("the last of 24", last.spots(0), 1 << 23);
        due("the first", first.spots(0), 1);
        due("by two KNOTS", two.spots(0), 0);
        due("between", two.spots(1), 2);
        edge("-2 likewise.");
        beside("spots of four", 4, -2, few::spots);

        promise(20);
        edge("FEEL: of these TEXTS and its own (if that can be READ) all are thought of: the KNOT (place, from 0) of which it is told what kind it is, that leaves fewest at worst, if fewer than all, the first of several.");
        due("the first of 24", all.feel(0), 0);
        due("the last of 24", last.feel(0), 23);
        due("the first, as the one", first.feel(0), 0);
        due("0 0: its second", few.feel(0), 1);
        due("its own and one more", told(TWO + "word 0 means 1;word 1 means 1;rope 0 to 1 bears 1 of 0;").feel(0), 0);
        KnotRope some = told(THREE + "word 0 means 1;word 0 1 means 1;word 0 2 means 1;word 1 means 1;rope 0 to 1 bears 1 of 0 0 0 0;");
        // 0 > 1 at each place, 0 > 2 at all but the first: four places, the last three leave fewest
        due("the first of several", some.feel(0), 1);
        edge("NONE: none; -2 likewise.");
        due("its own alone", one.feel(0), -1);
        due("one other alone", two.feel(1), -1);
        due("none thought of", two.feel(0), -1);
        due("one KNOT, one TEXT", few.feel(1), -1);
        due("without WORDS", zeros(TWO, 3).feel(0), -1);
        beside("feel of four", 4, -2, few::feel);

        promise(21);
        edge("How many it leaves at worst (as all without).");
        due("of 121", all.leaves(0), 116);
        due("of two, both other kinds", last.leaves(0), 1);
        due("of three, two of them other kinds", few.leaves(0), 1);
        due("of eight", some.leaves(0), 6);
        due("its own alone", one.leaves(0), 1);
        due("one other alone", two.leaves(1), 1);
        due("none thought of", two.leaves(0), 0);
        due("without WORDS", zeros(TWO, 3).leaves(0), 0);
        edge("-2 likewise.");
        beside("leaves of four", 4, -2, few::leaves);

        promise(22);
        edge("FORGED: the greatest difference of the least SUM (forward) that one KNOT makes so.");
        due("to less", all.forged(0), 50);
        due("to more", few.forged(0), 6);
        due("no difference", told(TWO + "word 0 means 5;word 1 means 5;rope 0 to 1 bears 1 of 0;").forged(0), 0);
        KnotRope far = told(TWO + "word 0 means 0;word 1 means 99;rope 0 to 1 bears 1 of 0;rope 0 to 1 bears 1 of 1;");
        due("99 more", far.forged(0), 99);
        due("99 less", far.forged(1), 99);
        KnotRope least = told(TWO + "word 0 means 9;word 0 0 means 1;word 1 means 3;rope 0 to 1 bears 1 of 0 0;");
        due("of the least SUM of both", least.forged(0), 11);
        due("the last of 24", forgedLast().forged(0), 98);
        due("READ whole, not from its second KNOT on", few.forged(3), 7);
        edge("NONE: there are no such TEXTS, it can not be READ itself; -2 likewise.");
        due("no such TEXTS", one.forged(0), -1);
        due("it can not be READ itself", last.forged(0), -1);
        due("it can not be READ itself, but from its second KNOT on", first.forged(0), -1);
        due("neither", two.forged(0), -1);
        due("without WORDS", zeros(TWO, 3).forged(0), -1);
        beside("forged of four", 4, -2, few::forged);

        promise(23);
        edge("At which place (what 0) by which kind (1): the first place, then the least kind.");
        due("the first of 24", all.forge(0, 0), 0);
        due("its kind", all.forge(0, 1), 1);
        due("at the last of 24", forgedLast().forge(0, 0), 23);
        due("by the last kind", forgedLast().forge(0, 1), 5);
        KnotRope same = told(TWO + "word 0 means 5;word 1 means 5;rope 0 to 1 bears 1 of 0 0;");
        due("no difference, at the first", same.forge(0, 0), 0);
        due("no difference, by kind 1", same.forge(0, 1), 1);
        KnotRope kinds = told(THREE + "word 0 means 5;word 1 means 9;word 2 means 1;rope 0 to 1 bears 1 of 0 0;rope 0 to 1 bears 1 of 1 2;");
        due("4 more and 4 less: the least kind", kinds.forge(0, 1), 1);
        due("8 less and 8 more: the first place", kinds.forge(1, 0), 0);
        due("by kind 2", kinds.forge(1, 1), 2);
        edge("NONE, -2 likewise, no such what.");
        for (int what = 0; what < 2; what++) {
            due("no such TEXTS", one.forge(0, what), -1);
            due("it can not be READ itself", last.forge(0, what), -1);
        }
        beside("forge(0, ..)", 2, -2, what -> all.forge(0, what));
        beside("forge(0, ..) of none", 2, -2, what -> one.forge(0, what));
        beside("forge(.., 0) of four", 4, -2, r -> few.forge(r, 0));
        beside("forge(.., 1) of four", 4, -2, r -> few.forge(r, 1));
    }

    /** Four words of six knots each way: the last knot of 24 alone can be another one, of the last kind. */
    private static KnotRope forgedLast() {
        KnotRope x = told(HEAD + KNOT.repeat(6) + "word 0 means 1;word 1 2 3 4 means 1;word 1 2 3 5 means 99;rope 0 to 1 bears 1 of 0 0 0 0 0 0 0 0 0 0;rope 0 to 1 bears 1 of 0 0 0 0 0 0 0 0 0 0 1 2;rope 0 to 1 bears 1 of 3 4;");
        x.splice(0, 1);
        x.splice(0, 2);
        return x;
    }

    private static void copyists() {
        String r = "rope 0 to 1 bears 1 of ";
        KnotRope x = told(TWO + r + "0;" + r + "0 0 0;" + r + "1 0 0 0;" + r + "0 0 0 1;" + r + "0 0 0;" + r + "1;");
        KnotRope a = zeros(TWO, 24);
        a.splice(1, 1);
        KnotRope bare = told(HEAD);

        promise(24);
        edge("OVERLAP: the most KNOTS that are the last ones of a ROPE and the first ones of another one (or of itself; fewer than it has then).");
        due("one KNOT, of itself", x.overlap(0, 0), 0);
        due("three, of itself", x.overlap(1, 1), 2);
        due("24, of itself", a.overlap(0, 0), 23);
        due("24, of a like one", a.overlap(0, 1), 24);
        due("of a like one, all", x.overlap(1, 4), 3);
        due("all of the other", x.overlap(1, 0), 1);
        due("all of it", x.overlap(0, 1), 1);
        due("three of four", x.overlap(2, 3), 3);
        due("one alone", x.overlap(3, 2), 1);
        due("none", x.overlap(0, 2), 0);
        due("none, of one KNOT", x.overlap(0, 5), 0);
        due("none, of itself", x.overlap(2, 2), 0);
        edge("-2: there are none such.");
        beside("overlap(.., 0)", 6, -2, i -> x.overlap(i, 0));
        beside("overlap(0, ..)", 6, -2, i -> x.overlap(0, i));
        beside("overlap(.., ..)", 6, -2, i -> x.overlap(i, i));
        due("of no ROPES", bare.overlap(0, 0), -2);

        promise(25);
        edge("ALL: how many KNOTS the shortest TEXT has that has TEXTS of all ROPES as parts (one behind the other).");
        // 1 0 0 0 over 0 0 0 1 by three
        due("with parts and like ones", x.all(), 5);
        due("of no ROPES", bare.all(), 0);
        due("of one ROPE", zeros(ONE, 12).all(), 12);
        due("of two like ones of 24", a.all(), 24);
        KnotRope most = told(FULL);
        for (int i = 0; i < 6; i++) most.splice(i, i);
        due("six of 24, none over another", most.all(), 144);
        KnotRope ring = told(HEAD + KNOT.repeat(6) + r + "0 1;" + r + "1 2;" + r + "2 3;" + r + "3 4;" + r + "4 5;" + r + "5 0;");
        due("six in a ring", ring.all(), 7);
        KnotRope then = told(TWO + r + "0 0;" + r + "1 1;");
        due("two", then.all(), 4);
        then.tie(1, 0, 0);
        then.tie(1, 1, 0);
        due("like ones now", then.all(), 2);
        then.splice(1, 1);
        due("the first is a part now", then.all(), 4);
        due("so it is left out", then.order(0), 1);
        due("and is no more", then.order(1), -1);
        edge("-2: there is no GORGE.");
        due("all()", new KnotRope().all(), -2);

        promise(26);
        edge("ROPE i (from 0) of the first order by which it is laid (III).");
        KnotRope alone = told(TWO + r + "0;" + r + "0 0 0;" + r + "1 0 0 0;" + r + "0 0 0 1;" + r + "0 0 0;" + r + "1;");
        due("asked first", alone.order(1), 3);
        due("its first", alone.order(0), 2);
        for (int i = 0; i < 6; i++) due("six of 24: " + i, most.order(i), i);
        for (int i = 0; i < 6; i++) due("six in a ring: " + i, ring.order(i), i);
        KnotRope turned = told(HEAD + KNOT.repeat(6) + r + "5 4;" + r + "4 3;" + r + "0 5;" + r + "3 2;" + r + "1 0;" + r + "2 1;");
        int[] order = {0, 1, 3, 5, 4, 2};
        for (int i = 0; i < 6; i++) due("a ring, turned: " + i, turned.order(i), order[i]);
        due("one ROPE", zeros(ONE, 12).order(0), 0);
        edge("NONE: there is none such; -2 likewise.");
        beside("order of six", 6, -1, most::order);
        beside("order of two", 2, -1, alone::order);
        beside("order of none", 0, -1, bare::order);
        beside("order without GORGE", 0, -2, new KnotRope()::order);

        promise(27);
        edge("The first place at which a ROPE has the TEXT of another one (or of itself) as a part.");
        due("itself", x.part(1, 1), 0);
        due("a like one", x.part(1, 4), 0);
        due("at the first", x.part(3, 1), 0);
        due("at the last", x.part(3, 5), 3);
        due("behind the first", x.part(2, 1), 1);
        due("the first of several", x.part(1, 0), 0);
        KnotRope deep = told(TWO + "rope 0 to 1 bears 1 of" + " 0".repeat(12) + ";" + r + "0 0 0 0 0 0 0 0 0 0 0 1;" + r + "1;" + r + "0 1;");
        deep.splice(0, 1);
        due("at place 23", deep.part(0, 2), 23);
        due("at place 22", deep.part(0, 3), 22);
        edge("NONE: none; -2: there are none such.");
        due("longer", x.part(1, 2), -1);
        due("longer, but alike", x.part(0, 1), -1);
        due("unlike", x.part(2, 3), -1);
        due("unlike, one KNOT", x.part(0, 5), -1);
        beside("part(.., 0)", 6, -2, i -> x.part(i, 0));
        beside("part(0, ..)", 6, -2, i -> x.part(0, i));

        promise(28);
        edge("ERRORS: the fewest KNOTS that are to be put in, left out, changed to make a ROPE's TEXT another one's.");
        String unlike = TWO + r + "0;" + r + "1 1 1 1 1;" + r + "1 1;";
        due("one changed, four put in", told(unlike).errors(0, 1), 5);
        due("one changed, four left out", told(unlike).errors(1, 0), 5);
        due("three put in", told(unlike).errors(2, 1), 3);
        due("none", x.errors(1, 4), 0);
        due("itself", x.errors(3, 3), 0);
        due("one put in", x.errors(1, 2), 1);
        due("one left out", x.errors(3, 1), 1);
        due("one changed", x.errors(0, 5), 1);
        due("one left out, one put in", x.errors(2, 3), 2);
        KnotRope far = told(FULL);
        for (int i = 0; i < 6; i++) far.splice(i, i);
        due("24 changed", far.errors(0, 5), 24);
        far.cut(5, 1);
        due("23 left out, one changed", far.errors(0, 5), 24);
        due("23 put in, one changed", far.errors(5, 0), 24);
        far.tie(5, 0, 0);
        due("23 left out", far.errors(0, 5), 23);
        due("23 put in", far.errors(5, 0), 23);
        edge("-2 likewise.");
        beside("errors(.., 0)", 6, -2, i -> x.errors(i, 0));
        beside("errors(0, ..)", 6, -2, i -> x.errors(0, i));

        promise(29);
        edge("The most KNOTS that two ROPES have in common, in one order (others between).");
        due("none", x.common(0, 5), 0);
        due("itself, one KNOT", x.common(0, 0), 1);
        due("24", a.common(0, 1), 24);
        due("24, itself", a.common(0, 0), 24);
        due("24 and one", far.common(0, 5), 1);
        due("one and 24", far.common(5, 0), 1);
        due("24 and 24, none", far.common(0, 1), 0);
        due("in one order", x.common(2, 3), 3);
        KnotRope between = told(THREE + r + "0 2 1 2 0;" + r + "0 1 0;" + r + "1 0 0;");
        due("others between", between.common(0, 1), 3);
        due("in one order alone", between.common(0, 2), 2);
        edge("-2 likewise.");
        beside("common(.., 0)", 6, -2, i -> x.common(i, 0));
        beside("common(0, ..)", 6, -2, i -> x.common(0, i));
    }

    private static void touched() {
        String r = "rope 0 to 1 bears 1 of ";
        KnotRope worst = told(TWO + r + "1 0 0 0 0;" + r + "0 1 0 0 0;" + r + "0 0 1 0 0;" + r + "0 0 0 1 0;" + r + "0 0 0 0 1;" + r + "0 0 0 0 0;");
        KnotRope best = told(HEAD + KNOT.repeat(6) + r + "5;" + r + "4;" + r + "3;" + r + "2;" + r + "1;" + r + "0;");
        KnotRope like = told(TWO + r + "0 1;" + r + "0;" + r + "0 1;");
        KnotRope deep = told(TWO + "rope 0 to 1 bears 1 of" + " 0".repeat(12) + ";" + "rope 0 to 1 bears 1 of" + " 0".repeat(12) + ";" + r + "0 0 0 0 0 0 0 0 0 0 0 1;" + r + "0 0 0 0 0 0 0 0 0 0 0;");
        deep.splice(0, 0);
        deep.splice(1, 2);
        KnotRope bare = told(HEAD);

        promise(30);
        edge("WHICH: how many KNOTS (places) one must feel at worst to tell which of a set of ROPES (bits, 1 and above) it is, next by what was felt (NONE: it ends ahead of that place).");
        due("each by itself", worst.which(63), 5);
        due("all by one KNOT", best.which(63), 1);
        for (int i = 0; i < 6; i++) due("one ROPE", worst.which(1 << i), 0);
        due("the last two", worst.which(48), 1);
        due("at the last of 24", deep.which(3), 1);
        deep.cut(1, 23);
        due("it ends ahead of the last of 24", deep.which(3), 1);
        due("it ends behind the first", like.which(3), 1);
        KnotRope next = told(TWO + r + "0 0 0;" + r + "0 1 0;" + r + "1 0 0;" + r + "1 0 1;");
        due("next by what was felt", next.which(15), 2);
        KnotRope ends = told(ONE + r + "0;" + r + "0 0;" + r + "0 0 0;" + r + "0 0 0 0;" + r + "0 0 0 0 0;" + r + "0 0 0 0 0 0;");
        due("six by their ends", ends.which(63), 3);
        due("four by their ends", ends.which(15), 2);
        edge("NONE: it can't be told; -2: there is no such set, no GORGE.");
        due("like ones", like.which(5), -1);
        due("like ones and another", like.which(7), -1);
        due("one of like ones", like.which(4), 0);
        due("six like ones", told(ONE + (r + "0;").repeat(6)).which(63), -1);
        for (int set : new int[] {0, -1, 64, 65, 127, 128, MAX, MIN, -64, 1 << 30}) due("set " + set, worst.which(set), -2);
        for (int set : new int[] {0, -1, 8, 9, 15, 16, 63, 64, MAX, MIN}) due("set " + set + " of three", like.which(set), -2);
        for (int set : new int[] {0, 1, 63, -1}) due("set " + set + " of none", bare.which(set), -2);
        due("no GORGE", new KnotRope().which(1), -2);

        promise(31);
        edge("The first place that is felt so, the least of several.");
        due("of six", told(TWO + r + "1 0 0 0 0;" + r + "0 1 0 0 0;" + r + "0 0 1 0 0;" + r + "0 0 0 1 0;" + r + "0 0 0 0 1;" + r + "0 0 0 0 0;").feels(63), 0);
        due("of the last two", worst.feels(48), 4);
        due("asked first", told(TWO + r + "0 0 1;" + r + "0 0 0;").feels(3), 2);
        due("of the first and third", worst.feels(5), 0);
        due("of the second and third", worst.feels(6), 1);
        due("by its end", like.feels(3), 1);
        due("by the end at 23", deep.feels(3), 23);
        deep.undo();
        due("by the KNOT at 23", deep.feels(3), 23);
        due("six by their ends, in the middle", ends.feels(63), 2);
        due("next by what was felt", next.feels(15), 0);
        edge("NONE: none is needed, it can't; -2 likewise.");
        for (int i = 0; i < 6; i++) due("none is needed", worst.feels(1 << i), -1);
        due("it can't", like.feels(5), -1);
        due("it can't, of three", like.feels(7), -1);
        for (int set : new int[] {0, -1, 64, 65, MAX, MIN}) due("set " + set, worst.feels(set), -2);
        for (int set : new int[] {0, -1, 8, 9, MAX, MIN}) due("set " + set + " of three", like.feels(set), -2);
        due("set of none", bare.feels(1), -2);
        due("no GORGE", new KnotRope().feels(1), -2);
    }

    /** Five ropes in a row and one beside the last; each takes 239 inches when it is spliced. */
    private static final String ROW = "gorge places 6 wear 1 odds 0;knot inches 9 weak 0;knot inches 9 weak 0;word 0 means 1;word 0 1 means 50;"
            + "rope 0 to 1 bears 100 of 0 0 0 0 0 0 0 0 0 0 0 0;rope 2 to 1 bears 100 of 0 0 0 0 0 0 0 0 0 0 0 0;"
            + "rope 2 to 3 bears 100 of 0 0 0 0 0 0 0 0 0 0 0 0;rope 4 to 3 bears 100 of 0 0 0 0 0 0 0 0 0 0 0 0;"
            + "rope 4 to 5 bears 100 of 0 0 0 0 0 0 0 0 0 0 0 1;rope 5 to 4 bears 99 of 0 0 0 0 0 0 0 0 0 0 0 1;"
            + "person weighs 100 pace 9 at 0;person weighs 99 pace 1 at 0;person weighs 101 pace 1 at 5;";

    private static void ways() {
        KnotRope x = told(ROW);
        KnotRope y = told(ROW);
        for (int r = 0; r < 4; r++) y.splice(r, r);
        KnotRope bare = told(HEAD + "person weighs 1 pace 1 at 0;");
        // from 0 to 2: by 1 or 3 and then 0, as long; by 2, longer; by 4, which bears the lighter alone
        KnotRope many = told("gorge places 4 wear 0 odds 0;" + KNOT + "rope 1 to 2 bears 9 of 0;rope 0 to 1 bears 9 of 0;rope 0 to 2 bears 9 of 0 0;rope 1 to 0 bears 9 of 0;rope 0 to 2 bears 8 of 0;person weighs 9 pace 2 at 3;person weighs 8 pace 1 at 3;");

        promise(32);
        edge("WAY: the least time (IV) in which a PERSON comes from a PLACE to another one by ROPES that bear it now.");
        due("119 by 9", x.way(0, 0, 1), 1071);
        due("five times", x.way(0, 0, 5), 5355);
        due("and back", x.way(0, 5, 0), 5355);
        due("the longest", y.way(0, 0, 5), 4 * 2151 + 1071);
        y.wet(1);
        due("when wet", y.way(0, 0, 5), 4 * 1944 + 972);
        due("by as strong ones", x.way(0, 4, 5), 1071);
        for (int p = 0; p < 6; p++) due("to where it is", x.way(2, p, p), 0);
        due("of the lighter by the shorter", many.way(1, 0, 2), 1);
        due("of the heavier by the longer", many.way(0, 0, 2), 4);
        KnotRope worn = told(ROW);
        worn.cross(1, 0);
        due("now, the lighter", worn.way(1, 0, 5), 595);
        KnotRope star = told("gorge places 6 wear 0 odds 0;" + KNOT + "rope 0 to 5 bears 9 of 0;rope 4 to 0 bears 9 of 0;rope 4 to 5 bears 9 of 0 0;person weighs 9 pace 1 at 4;");
        due("over PLACE 0", star.way(0, 4, 5), 2);
        KnotRope mid = told("gorge places 6 wear 0 odds 0;" + KNOT + "rope 0 to 5 bears 9 of 0;rope 1 to 5 bears 9 of 0;rope 0 to 1 bears 9 of 0 0;person weighs 9 pace 1 at 0;");
        due("over PLACE 5", mid.way(0, 0, 1), 2);
        edge("NONE: it can't; -2: there are none such.");
        due("now, the heavier", worn.way(0, 0, 5), -1);
        due("now, from behind it", worn.way(0, 1, 5), 4284);
        due("too heavy", x.way(2, 0, 1), -1);
        due("too heavy, back", x.way(2, 5, 4), -1);
        due("to nowhere", many.way(1, 0, 3), -1);
        due("from nowhere", many.way(1, 3, 0), -1);
        due("without ROPES", bare.way(0, 0, 1), -1);
        due("without ROPES, to where it is", bare.way(0, 1, 1), 0);
        beside("way(.., 0, 1)", 3, -2, p -> x.way(p, 0, 1));
        beside("way(0, .., 1)", 6, -2, p -> x.way(0, p, 1));
        beside("way(0, 1, ..)", 6, -2, p -> x.way(0, 1, p));
        beside("way(0, .., ..)", 2, -2, p -> bare.way(0, p, p));
        beside("way of no PERSON", 0, -2, p -> told(HEAD).way(p, 0, 0));

        promise(33);
        edge("ROPE i (from 0) of the first such way (the least row).");
        for (int i = 0; i < 5; i++) due("by(0, 0, 5, " + i + ")", x.by(0, 0, 5, i), i);
        for (int i = 0; i < 5; i++) due("by(0, 5, 0, " + i + ")", x.by(0, 5, 0, i), 4 - i);
        due("the first of like ones", x.by(1, 4, 5, 0), 4);
        due("of like times the least row", many.by(0, 0, 2, 0), 1);
        due("then", many.by(0, 0, 2, 1), 0);
        due("back", many.by(0, 2, 0, 0), 0);
        due("then", many.by(0, 2, 0, 1), 1);
        due("the lighter", many.by(1, 0, 2, 0), 4);
        due("the lighter, to 1", many.by(1, 0, 1, 0), 1);
        edge("NONE: there is none such; -2 likewise.");
        beside("by(0, 0, 5, ..)", 5, -1, i -> x.by(0, 0, 5, i));
        beside("by(0, 0, 1, ..)", 1, -1, i -> x.by(0, 0, 1, i));
        beside("by to where it is", 0, -1, i -> x.by(0, 3, 3, i));
        beside("by, too heavy", 0, -1, i -> x.by(2, 0, 5, i));
        beside("by, to nowhere", 0, -1, i -> many.by(1, 0, 3, i));
        beside("by(.., 0, 1, 0)", 3, -2, p -> x.by(p, 0, 1, 0));
        beside("by(0, .., 1, 0)", 6, -2, p -> x.by(0, p, 1, 0));
        beside("by(0, 1, .., 0)", 6, -2, p -> x.by(0, 1, p, 0));
        beside("by(0, 1, .., -1)", 6, -2, p -> x.by(0, 1, p, -1));

        promise(34);
        edge("LEARNS: the least time of a way on which one ROPE, as it is crossed, has a READING with a SUM (0 .. 2,400).");
        due("on it", x.learns(0, 0, 1, 12), 1071);
        due("on the last of five", x.learns(0, 0, 5, 60), 5355);
        due("not back on that", x.learns(0, 5, 0, 60), 5355 + 2142);
        due("of the lighter back by the other", x.learns(1, 5, 0, 60), 595);
        due("there and back", x.learns(0, 0, 0, 12), 2142);
        due("there and back, five times", x.learns(0, 0, 0, 60), 10710);
        due("beside the way", x.learns(0, 3, 4, 60), 1071 + 2142);
        KnotRope nil = told(TWO + "word 0 means 0;rope 0 to 1 bears 9 of 0;rope 0 to 1 bears 9 of 0 1;person weighs 1 pace 1 at 0;");
        due("SUM 0", nil.learns(0, 0, 1, 0), 1);
        KnotRope long1 = zeros(ONE + "person weighs 1 pace 1 at 0;word 0 means 99;", 24);
        due("the greatest SUM", long1.learns(0, 1, 0, 2376), 47);
        edge("NONE, -2 likewise, no such SUM.");
        due("no ROPE has it", x.learns(0, 0, 5, 13), -1);
        due("no ROPE has 0", x.learns(0, 0, 5, 0), -1);
        due("SUM 2,400", long1.learns(0, 1, 0, 2400), -1);
        due("SUM 0 on no ROPE at all", bare.learns(0, 0, 0, 0), -1);
        due("too heavy", x.learns(2, 5, 4, 60), -1);
        due("too heavy, to where it is", x.learns(2, 5, 5, 60), -1);
        due("to nowhere", many.learns(1, 0, 3, 0), -1);
        beside("learns(0, 0, 1, ..)", 2401, -2, sum -> x.learns(0, 0, 1, sum));
        beside("learns(2, 0, 1, ..), too heavy", 2401, -2, sum -> x.learns(2, 0, 1, sum));
        beside("learns(.., 0, 1, 12)", 3, -2, p -> x.learns(p, 0, 1, 12));
        beside("learns(0, .., 1, 12)", 6, -2, p -> x.learns(0, p, 1, 12));
        beside("learns(0, 1, .., 12)", 6, -2, p -> x.learns(0, 1, p, 12));

        promise(35);
        edge("ROPES on all ways, whatever their time, as bits (0, too, if there is none, or it is the one PLACE).");
        due("the heavier's", x.keys(0, 0, 5), 31);
        due("the lighter's, who has two at the end", x.keys(1, 0, 5), 15);
        due("of one ROPE", x.keys(0, 5, 4), 16);
        due("of two ROPES", x.keys(1, 5, 4), 0);
        due("whatever their time", many.keys(0, 0, 2), 0);
        due("the last ROPE", told(ONE + "rope 0 to 1 bears 1 of 0;".repeat(5) + "rope 0 to 1 bears 2 of 0;person weighs 2 pace 1 at 0;").keys(0, 0, 1), 32);
        due("none", many.keys(1, 0, 3), 0);
        due("none, too heavy", x.keys(2, 0, 5), 0);
        due("none without ROPES", bare.keys(0, 0, 1), 0);
        due("the one PLACE", x.keys(0, 5, 5), 0);
        due("the one PLACE, too heavy", x.keys(2, 0, 0), 0);
        due("now", worn.keys(0, 0, 5), 0);
        edge("-2 as way().");
        beside("keys(.., 0, 1)", 3, -2, p -> x.keys(p, 0, 1));
        beside("keys(0, .., 1)", 6, -2, p -> x.keys(0, p, 1));
        beside("keys(0, 1, ..)", 6, -2, p -> x.keys(0, 1, p));
        beside("keys(0, .., ..)", 2, -2, p -> bare.keys(0, p, p));
    }

    private static void ferries() {
        String rope = "rope 0 to 1 bears ";
        String six = "person weighs 1 pace 1 at 0;person weighs 2 pace 2 at 0;person weighs 3 pace 3 at 1;person weighs 4 pace 4 at 0;person weighs 5 pace 5 at 1;person weighs 6 pace 9 at 0;";
        KnotRope x = told(ONE + rope + "21 of 0 0 0;" + rope + "20 of 0;" + rope + "6 of 0;" + rope + "5 of 0;" + rope + "1 of 0;" + rope + "7 of 0;" + six);
        KnotRope none = told(ONE + rope + "9 of 0;");
        KnotRope fives = told(ONE + rope + "9 of 0;" + rope + "10 of 0;" + rope + "4 of 0;" + "person weighs 5 pace 9 at 0;".repeat(6));
        KnotRope bare = told(HEAD + six);

        promise(36);
        edge("FERRY: the least time in which all PERSONS cross a ROPE one way, in groups (IV).");
        due("all at once", x.ferry(0), 45);
        due("all but one", x.ferry(1), 10);
        // 6 and no more; 5, 1; 4, 2; 3
        due("in four groups", x.ferry(2), 9 + 5 + 4 + 3);
        due("in three groups", x.ferry(5), 9 + 5 + 4);
        due("each by itself", fives.ferry(0), 54);
        due("by twos", fives.ferry(1), 27);
        due("no PERSONS", none.ferry(0), 0);
        KnotRope wet = told(HEAD + "knot inches 9 weak 0;" + rope + "9 of 0 0;person weighs 9 pace 9 at 0;");
        due("dry", wet.ferry(0), 171);
        wet.wet(1);
        due("wet", wet.ferry(0), 162);
        edge("NONE: one is too heavy; -2: there is no such ROPE.");
        due("the last is", x.ferry(3), -1);
        due("all but the first are", x.ferry(4), -1);
        due("all are", fives.ferry(2), -1);
        KnotRope worn = told("gorge places 2 wear 1 odds 0;" + KNOT + rope + "5 of 0;person weighs 5 pace 1 at 0;person weighs 1 pace 1 at 0;");
        due("not yet", worn.ferry(0), 2);
        worn.cross(1, 0);
        due("one is now", worn.ferry(0), -1);
        beside("ferry", 6, -2, x::ferry);
        beside("ferry of none", 0, -2, bare::ferry);

        promise(37);
        edge("The fewest groups.");
        due("one", x.groups(0), 1);
        due("two", x.groups(1), 2);
        due("four", x.groups(2), 4);
        due("three", x.groups(5), 3);
        due("six", fives.groups(0), 6);
        due("three by twos", fives.groups(1), 3);
        due("no PERSONS", none.groups(0), 0);
        edge("NONE, -2 likewise.");
        due("one is too heavy", x.groups(3), -1);
        due("all are", fives.groups(2), -1);
        due("one is now", worn.groups(0), -1);
        beside("groups", 6, -2, x::groups);
        beside("groups of none", 0, -2, bare::groups);

        promise(38);
        edge("PERSONS that are in the group of PERSON 0 by the least time, as bits: the least set.");
        due("all", x.group(0), 63);
        due("all but 0: it pays to be alone", x.group(1), 1);
        // 5 by itself, 4 with 3 and 1, and 2 with 0, is as fast as 4 with 0
        due("with 2", x.group(2), 5);
        due("with 5", x.group(5), 33);
        due("alone", fives.group(0), 1);
        due("the least of those by twos", fives.group(1), 3);
        KnotRope least = told(ONE + rope + "9 of 0;person weighs 5 pace 4 at 0;person weighs 4 pace 1 at 1;person weighs 4 pace 1 at 0;person weighs 9 pace 1 at 0;");
        // 1 and 2 are a group of pace 1 and 0 is alone; or 0 takes 1 or 2 along: 4 and 1 and 1 all the same
        due("the least set is 0 alone", least.group(0), 1);
        due("one PERSON", wet.group(0), 1);
        edge("NONE: there are no PERSONS; -2 likewise; NONE, too, if ferry() is.");
        due("no PERSONS", none.group(0), -1);
        due("one is too heavy", x.group(3), -1);
        due("one is too heavy, not 0", x.group(4), -1);
        due("all are", fives.group(2), -1);
        due("one is now", worn.group(0), -1);
        beside("group", 6, -2, x::group);
        beside("group of none", 0, -2, bare::group);

        promise(39);
        edge("How often one who weighs so much (1 .. 999) can cross a ROPE from now on.");
        KnotRope often = told("gorge places 2 wear 1 odds 0;" + KNOT + rope + "999 of 0;person weighs 1 pace 1 at 0;");
        due("the most often", often.lasts(0, 1), 999);
        due("once", often.lasts(0, 999), 1);
        due("twice", often.lasts(0, 998), 2);
        often.cross(0, 0);
        due("from now on", often.lasts(0, 1), 998);
        due("not any more", often.lasts(0, 999), 0);
        KnotRope wears = told("gorge places 2 wear 99 odds 0;" + KNOT + rope + "999 of 0;person weighs 1 pace 1 at 0;");
        for (int w = 9; w <= 999; w += 99) {
            due("lasts(0, " + w + ")", wears.lasts(0, w), (999 - w) / 99 + 1);
            if (w < 999) due("lasts(0, one more than " + w + ")", wears.lasts(0, w + 1), (999 - w) / 99);
        }
        for (int i = 11; i > 0; i--) {
            due("and so often", wears.lasts(0, 1), i);
            wears.cross(0, 0);
        }
        due("when STRENGTH is below 0", wears.lasts(0, 1), 0);
        due("by no wear, but too heavy", x.lasts(3, 6), 0);
        edge("NONE: for ever; -2: there are none such.");
        due("by no wear", x.lasts(3, 5), -1);
        due("by no wear, the lightest", x.lasts(3, 1), -1);
        for (int w : new int[] {0, -1, 1000, 1001, MAX, MIN}) due("weighs " + w, x.lasts(0, w), -2);
        beside("lasts(.., 1)", 6, -2, r -> x.lasts(r, 1));
        beside("lasts(.., 999)", 6, -2, r -> x.lasts(r, 999));
        beside("lasts(.., 1) of none", 0, -2, r -> bare.lasts(r, 1));

        promise(40);
        edge("The greatest number of PERSONS a ROPE can bear at once now.");
        due("all six", x.bears(0), 6);
        due("five", x.bears(1), 5);
        due("three", x.bears(2), 3);
        due("two", x.bears(3), 2);
        due("one, as heavy", x.bears(4), 1);
        due("none", fives.bears(2), 0);
        due("one", fives.bears(0), 1);
        due("no PERSONS", none.bears(0), 0);
        due("now", worn.bears(0), 1);
        due("when STRENGTH is below 0", wears.bears(0), 0);
        edge("-2: there is no such ROPE.");
        beside("bears", 6, -2, x::bears);
        beside("bears of none", 0, -2, bare::bears);
    }

    /** A call that is refused: its answer, and all is as it was. */
    private static void refused(KnotRope x, String call, int want, Call c, int a) {
        String as = look(x);
        due(call, c.of(a), want);
        alike("all behind " + call, look(x), as);
    }

    private static void acts() {
        KnotRope x = told("gorge places 3 wear 10 odds 0;" + KNOT + "knot inches 2 weak 10;rope 0 to 1 bears 50 of 0 0 0;rope 2 to 1 bears 30 of 0 1 0;rope 0 to 2 bears 29 of 0;person weighs 30 pace 1 at 0;person weighs 1 pace 1 at 2;");
        KnotRope bare = told(HEAD);

        promise(41);
        edge("A PERSON crosses a ROPE (from the PLACE where it is): the PLACE then.");
        due("from the first", x.cross(0, 0), 1);
        due("it is there", x.person(0, 2), 1);
        due("from the second", x.cross(0, 0), 0);
        due("as heavy as it bears now", x.cross(0, 0), 1);
        due("from the first to the second", x.cross(1, 1), 1);
        due("crossed", x.rope(0, 6), 3);
        due("worn", x.rope(0, 5), 20);
        due("acts", x.count(8), 4);
        edge("-5: it is at none of its ends, it does not bear, there were 40 acts; -2: there are none such.");
        refused(x, "at none of its ends", -5, r -> x.cross(0, r), 2);
        refused(x, "it does not bear any more", -5, r -> x.cross(0, r), 0);
        refused(x, "it does not bear", -5, r -> x.cross(0, r), 1);
        beside("cross(.., 0)", 2, -2, p -> x.cross(p, 0));
        beside("cross(0, ..)", 3, -2, r -> x.cross(0, r));
        beside("cross(.., ..) of none", 0, -2, r -> bare.cross(r, r));
        due("acts", x.count(8), 4);
        full(x, "cross(1, 0)", y -> y.cross(1, 0));
        full(x, "cross(1, 2), at none of its ends", y -> y.cross(1, 2));

        promise(42);
        edge("A KNOT (place) of a ROPE is tied anew as a kind: the kind it was.");
        due("the first", x.tie(0, 0, 1), 0);
        due("the last", x.tie(0, 2, 1), 0);
        due("as it is", x.tie(0, 2, 1), 1);
        due("acts", x.count(8), 7);
        due("at(0, 0)", x.at(0, 0), 1);
        due("at(0, 1)", x.at(0, 1), 0);
        due("at(0, 2)", x.at(0, 2), 1);
        due("weaker", x.rope(0, 5), 15);
        edge("-5: there were 40 acts; -2: there are none such.");
        beside("tie(.., 0, 0)", 3, -2, r -> x.tie(r, 0, 0));
        beside("tie(0, .., 0)", 3, -2, i -> x.tie(0, i, 0));
        beside("tie(2, .., 0)", 1, -2, i -> x.tie(2, i, 0));
        beside("tie(0, 0, ..)", 2, -2, k -> x.tie(0, 0, k));
        beside("tie of none", 0, -2, r -> bare.tie(r, 0, 0));
        due("acts", x.count(8), 7);
        full(x, "tie(0, 0, 0)", y -> y.tie(0, 0, 0));

        promise(43);
        edge("A ROPE is cut: its first n KNOTS (1 .. all less 1) stay: how many are gone.");
        due("all less 1", x.cut(0, 2), 1);
        due("1", x.cut(0, 1), 1);
        due("1 of three", x.cut(1, 1), 2);
        due("they stay", x.at(0, 0), 1);
        due("KNOTS", x.rope(0, 3), 1);
        due("stronger", x.rope(1, 5), 20);
        edge("-5, -2 likewise.");
        for (int n : new int[] {-1, 0, 1, 2, MAX, MIN}) refused(x, "cut(0, " + n + ") of one KNOT", -2, k -> x.cut(0, k), n);
        x.splice(0, 1);
        for (int n : new int[] {-1, 0, 2, 3, MAX, MIN}) refused(x, "cut(0, " + n + ") of two", -2, k -> x.cut(0, k), n);
        beside("cut(.., 1)", 3, -2, r -> x.cut(r, 1));
        beside("cut of none", 0, -2, r -> bare.cut(r, 1));
        full(x, "cut(0, 1)", y -> y.cut(0, 1));

        promise(44);
        edge("To a ROPE another one's TEXT (or its own) is spliced, behind its own: how many KNOTS it has then.");
        x.anew();
        due("another one's", x.splice(0, 1), 6);
        due("the last of its own", x.at(0, 2), 0);
        due("the first behind", x.at(0, 3), 0);
        due("the second behind", x.at(0, 4), 1);
        due("the other stays", x.rope(1, 3), 3);
        due("its own", x.splice(0, 0), 12);
        due("its own, to 24", x.splice(0, 0), 24);
        due("the last", x.at(0, 22), 1);
        due("weaker", x.rope(0, 5), 45);
        edge("-5: it would have more than 24, there were 40 acts; -2: there are none such.");
        refused(x, "25", -5, o -> x.splice(0, o), 2);
        refused(x, "25, the other way", -5, o -> x.splice(2, o), 0);
        refused(x, "48", -5, o -> x.splice(0, o), 0);
        x.cut(0, 23);
        due("24 of 23 and 1", x.splice(0, 2), 24);
        x.undo();
        refused(x, "26 of 23 and 3", -5, o -> x.splice(0, o), 1);
        due("24 of 1 and 23", x.splice(2, 0), 24);
        beside("splice(.., 1)", 3, -2, r -> x.splice(r, 1));
        beside("splice(1, ..)", 3, -2, r -> x.splice(1, r));
        beside("splice of none", 0, -2, r -> bare.splice(r, r));
        full(x, "splice(1, 1)", y -> y.splice(1, 1));

        promise(45);
        edge("It is wet (1) or dry (0) from now on: what it was.");
        x.anew();
        due("wet", x.wet(1), 0);
        due("it is", x.count(7), 1);
        due("wet again", x.wet(1), 1);
        due("dry", x.wet(0), 1);
        due("it is", x.count(7), 0);
        due("dry again", x.wet(0), 0);
        due("acts, all of them", x.count(8), 4);
        due("without ROPES", bare.wet(1), 0);
        edge("-5: there were 40 acts; -2: there is none such, no GORGE.");
        beside("wet", 2, -2, x::wet);
        due("acts", x.count(8), 4);
        due("no GORGE", new KnotRope().wet(0), -2);
        due("no GORGE", new KnotRope().wet(1), -2);
        full(x, "wet(1)", y -> y.wet(1));
        full(x, "wet(0), as it is", y -> y.wet(0));

        edge("It is wet (1) or dry (0) from now on: what it was.");
        KnotRope y = told(FULL);
        for (int wet = 0; wet < 2; wet++) {
            y.wet(wet);
            for (int r = 0; r < 6; r++) {
                y.tie(r, 1, r);
                due("by tie() it stays", y.count(7), wet);
                y.cut(r, 6 - 3 * wet);
                due("by cut() it stays", y.count(7), wet);
                y.splice(r, (r + 1) % 6);
                due("by splice() it stays", y.count(7), wet);
                if (r < 2) y.cross(r, r);
                due("by cross() it stays", y.count(7), wet);
            }
            y.anew();
        }
        takenBack();
    }

    private interface Act {
        int on(KnotRope x);
    }

    /** Forty acts, and one more that is refused; then one is taken back. */
    private static void full(KnotRope like, String call, Act act) {
        like.image(2);
        int before = like.count(8);
        for (int n = before; n < 40; n++) due("act " + n, like.wet(n & 1) >= 0 ? 1 : 0, 1);
        String as = look(like);
        due(call + " behind 40 acts", act.on(like), -5);
        alike("all behind " + call, look(like), as);
        due("acts", like.count(8), 40);
        due("one taken back", like.undo(), 39);
        due("one more", like.wet(1) >= 0 ? 1 : 0, 1);
        due(call + " behind 40 acts again", act.on(like), -5);
        like.back(2);
        due("acts ahead of it", like.count(8), before);
    }

    /** Forty acts of all kinds, some of which lay over what others left. */
    private static List<Act> forty() {
        List<Act> acts = new ArrayList<>();
        for (int i = 0; i < 5; i++) {
            int k = i;
            acts.add(x -> x.wet(1 - k % 2));
            acts.add(x -> x.cross(k % 2, k % 2));
            acts.add(x -> x.tie(k, 11 - k, (k + 1) % 6));
            acts.add(x -> x.cut(k, 11));
            acts.add(x -> x.cut(k, 10 - k));
            acts.add(x -> x.splice(k, 5));
            acts.add(x -> x.tie(k, 9 - k, k));
            acts.add(x -> x.tie(k, 12, (k + 2) % 6));
        }
        return acts;
    }

    private static void takenBack() {
        promise(46);
        edge("The latest of these acts is taken back: how many there are.");
        KnotRope x = told(FULL);
        List<String> looks = new ArrayList<>();
        for (Act act : forty()) {
            looks.add(look(x));
            if (act.on(x) < 0) fail("act " + looks.size() + " is refused");
        }
        due("acts", x.count(8), 40);
        due("the 41st", x.wet(0), -5);
        for (int n = 39; n >= 0; n--) {
            due("undo()", x.undo(), n);
            alike("as it was ahead of act " + n, look(x), looks.get(n));
        }
        edge("-5: there is none; -2: there is no GORGE.");
        due("none any more", x.undo(), -5);
        due("none any more, again", x.undo(), -5);
        due("none yet", told(HEAD).undo(), -5);
        due("no GORGE", new KnotRope().undo(), -2);

        promise(47);
        edge("All are: how many there were.");
        for (Act act : forty()) act.on(x);
        due("forty", x.anew(), 40);
        alike("as it was told", look(x), looks.get(0));
        due("none", x.anew(), 0);
        x.cut(5, 1);
        due("one", x.anew(), 1);
        alike("as it was told", look(x), looks.get(0));
        due("none to take back", x.undo(), -5);
        for (int i = 0; i < 40; i++) due("forty again", x.wet(i & 1) >= 0 ? 1 : 0, 1);
        due("none yet", told(HEAD).anew(), 0);
        edge("-2 likewise.");
        due("no GORGE", new KnotRope().anew(), -2);
    }

    private static void copies() {
        String both = KNOT.repeat(2) + "word 0 means 1;word 1 means 10;";
        KnotRope x = zeros("gorge places 2 wear 0 odds 50;" + both, 24);
        KnotRope all = zeros("gorge places 2 wear 0 odds 100;" + KNOT.repeat(2) + "word 0 means 1;", 24);
        KnotRope one = told("gorge places 2 wear 0 odds 100;" + KNOT + "word 0 means 7;rope 0 to 1 bears 1 of 0 0;");
        KnotRope bare = told(HEAD);

        promise(48);
        edge("COPY drawn (V) of a ROPE from a seed (0 .. 2,000,000,000), what 0: how many KNOTS are changed, 1: 1 if it can be READ forward, else 0, 2: its least SUM then (NONE).");
        for (int seed : new int[] {0, 1, 77, 1999999999, 2000000000}) {
            int changed = changedBy(seed, 24, 50);
            due("changed from " + seed, x.drawn(seed, 0, 0), changed);
            due("READ from " + seed, x.drawn(seed, 0, 1), 1);
            due("its least SUM from " + seed, x.drawn(seed, 0, 2), 24 + 9 * changed);
        }
        due("all changed", all.drawn(0, 0, 0), 24);
        due("it can not be READ", all.drawn(0, 0, 1), 0);
        due("NONE", all.drawn(0, 0, 2), -1);
        due("the ROPE stays", all.reads(0, 0), 1);
        for (int i = 0; i < 24; i++) all.tie(0, i, 1);
        due("of the ROPE now", all.drawn(0, 0, 1), 1);
        due("its least SUM now", all.drawn(0, 0, 2), 24);
        due("the one kind is the next, so none is changed", one.drawn(0, 0, 0), 0);
        due("it can be READ", one.drawn(0, 0, 1), 1);
        due("its least SUM", one.drawn(0, 0, 2), 14);
        KnotRope least = told("gorge places 2 wear 0 odds 0;" + KNOT + "word 0 means 9;word 0 0 means 5;rope 0 to 1 bears 1 of 0 0 0;");
        due("the least of several", least.drawn(0, 0, 2), 14);
        KnotRope whole = told("gorge places 2 wear 0 odds 100;" + KNOT.repeat(2) + "word 1 1 means 8;word 0 means 3;rope 0 to 1 bears 1 of 0 0;rope 0 to 1 bears 1 of 0 1;");
        due("READ whole, not from its second KNOT on", whole.drawn(5, 0, 1), 1);
        due("its least SUM", whole.drawn(5, 0, 2), 8);
        due("READ from its second KNOT on, not whole", whole.drawn(5, 1, 1), 0);
        due("its least SUM", whole.drawn(5, 1, 2), -1);
        edge("-2: there are none such.");
        for (int seed : new int[] {-1, 2000000001, 2000000002, MAX, MIN}) {
            for (int what = 0; what < 3; what++) due("drawn(" + seed + ", 0, " + what + ")", x.drawn(seed, 0, what), -2);
        }
        beside("drawn(0, .., 0)", 2, -2, r -> x.drawn(0, r, 0));
        beside("drawn(0, .., 2)", 2, -2, r -> all.drawn(0, r, 2));
        beside("drawn(0, 0, ..)", 3, -2, what -> x.drawn(0, 0, what));
        beside("drawn of none", 0, -2, r -> bare.drawn(0, r, 0));

        promise(49);
        edge("Of n (1 .. 20) such from seeds, the seed and 1, .., in how many it can be READ forward, but is changed.");
        KnotRope rare = told("gorge places 2 wear 0 odds 30;" + both + "rope 0 to 1 bears 1 of 0;");
        for (int seed : new int[] {0, 1, 5, 1000, 1999999980, 1999999981, 1999999999, 2000000000}) {
            int count = 0;
            for (int n = 1; n <= 20; n++) {
                count += changedBy(seed + n - 1, 1, 30);
                due("winters(" + seed + ", 0, " + n + ")", rare.winters(seed, 0, n), count);
            }
        }
        due("changed, but not to be READ", all.winters(0, 1, 20), 0);
        due("to be READ whole alone", whole.winters(5, 0, 20), 20);
        due("to be READ from the second KNOT on alone", whole.winters(5, 1, 20), 0);
        due("to be READ, but not changed", told("gorge places 2 wear 0 odds 0;" + both + "rope 0 to 1 bears 1 of 0;").winters(0, 0, 20), 0);
        due("all", told("gorge places 2 wear 0 odds 100;" + both + "rope 0 to 1 bears 1 of 0;").winters(0, 0, 20), 20);
        due("of one kind, not changed", one.winters(0, 0, 20), 0);
        edge("-2 likewise, no such n.");
        for (int n : new int[] {0, -1, 21, 22, MAX, MIN}) due("winters(0, 0, " + n + ")", rare.winters(0, 0, n), -2);
        for (int seed : new int[] {-1, -20, 2000000001, MAX, MIN}) due("winters(" + seed + ", 0, 20)", rare.winters(seed, 0, 20), -2);
        beside("winters(0, .., 1)", 1, -2, r -> rare.winters(0, r, 1));
        beside("winters of none", 0, -2, r -> bare.winters(0, r, 20));
    }

    /** How many draws from a seed are below the odds. */
    private static int changedBy(int seed, int knots, int odds) {
        long x = seed;
        int changed = 0;
        for (int i = 0; i < knots; i++) {
            x = 1103515245L * x + 12345L & 0x7fffffffL;
            if ((x >> 16) % 100 < odds) changed++;
        }
        return changed;
    }

    private interface SlotCall {
        int of(KnotRope x, int slot);
    }

    /** What text(), like(), found(), mend() and mended() have in common: why a slot is no text. */
    private static void noText(String call, SlotCall c) {
        KnotRope x = told(HEAD + KNOT.repeat(6) + "word 0 means 0;");
        beside(call, 4, -2, s -> c.of(x, s));
        beside(call + " without GORGE", 0, -2, s -> c.of(new KnotRope(), s));
        for (int s = 0; s < 4; s++) due(call + " of nothing", c.of(x, s), -6);
        KnotRope none = new KnotRope();
        for (int s = 0; s < 4; s++) none.row(s, s, 3);
        for (int s = 0; s < 4; s++) due(call + " of a row, without GORGE", c.of(none, s), -2);
        for (int w = 0; w < 4; w++) {
            x.row(w, w, 24);
            due(call + " of 24", c.of(x, w) >= -1 ? 1 : 0, 1);
            x.row(w, w, 25);
            due(call + " of 25", c.of(x, w), -2);
            x.row(w, w, 60);
            due(call + " of 60", c.of(x, w), -2);
            x.write(w, 0, 6);
            due(call + " of 60 with no kind", c.of(x, w), -2);
            for (int at : new int[] {0, 11, 23}) {
                x.row(w, w, 24);
                x.write(w, at, 5);
                due(call + " with the last kind", c.of(x, w) >= -1 ? 1 : 0, 1);
                for (long v : new long[] {6, 7, 127, -1, -128}) {
                    x.write(w, at, v);
                    due(call + " with no kind " + v, c.of(x, w), -2);
                }
                if (w < 3) x.write(w, at, 1L << (8 << w));
                due(call + " with one cut to 0", c.of(x, w) >= -1 ? 1 : 0, w < 3 ? 1 : 0);
            }
        }
        x.row(0, 3, 1);
        for (long v : new long[] {1L << 32, 1L << 33, Long.MIN_VALUE, Long.MAX_VALUE, -1L << 32}) {
            x.write(0, 0, v);
            due(call + " of 8 bytes " + v, c.of(x, 0), -2);
        }
        KnotRope kindless = told(HEAD);
        kindless.row(0, 0, 1);
        due(call + " where there are no kinds", c.of(kindless, 0), -2);
        kindless.row(0, 0, 0);
        due(call + " of no numbers", c.of(kindless, 0) >= -1 ? 1 : 0, 1);
    }

    private static void texts() {
        String r = "rope 0 to 1 bears 1 of ";
        KnotRope x = told(TWO + "word 0 means 1;word 0 0 means 1;word 0 0 0 means 1;word 0 0 0 0 means 1;" + r + "0 1 0;" + r + "0 0;" + r + "1 1;" + r + "1;" + r + "0 1 0;" + r + "1 1 1 1 1 1;");
        KnotRope bare = told(ONE);

        promise(50);
        edge("TEXT of a SLOT's row of kinds of KNOTS (24 at most): in how many ways it can be READ forward.");
        slot(x, 0);
        due("of no KNOTS", x.text(0), 1);
        slot(x, 0, 0);
        due("of one", x.text(0), 1);
        x.row(3, 3, 24);
        due("of 24", x.text(3), 3919944);
        slot(x, 0, 1);
        due("in none", x.text(0), 0);
        slot(x, 0, 0, 0, 1);
        due("but the last", x.text(0), 0);
        slot(x, 0, 1, 0, 0);
        due("but the first", x.text(0), 0);
        edge("-2: there is no such SLOT, no GORGE, a number is no kind (asked last), more than 24; -6: it has nothing.");
        noText("text()", (y, s) -> y.text(s));

        promise(51);
        edge("The ROPE to whose TEXT it has the fewest ERRORS, the first of several.");
        slot(x, 0, 0, 1, 0);
        due("no ERRORS, the first of two", x.like(0), 0);
        slot(x, 0);
        due("of no KNOTS: the shortest", x.like(0), 3);
        KnotRope fresh = told(TWO + r + "0 0 0;" + r + "1;" + r + "0 0;");
        slot(fresh, 2);
        due("of no KNOTS, asked first", fresh.like(2), 1);
        slot(x, 0, 0);
        due("one error: the first of several", x.like(0), 1);
        slot(x, 0, 1, 1, 1, 1, 1);
        due("the last", x.like(0), 5);
        x.row(1, 0, 24);
        due("of 24", x.like(1), 0);
        slot(x, 0, 0, 0);
        due("whole", x.like(0), 1);
        x.cut(1, 1);
        due("now", x.like(0), 0);
        x.undo();
        edge("NONE: there are no ROPES; -2, -6 likewise.");
        slot(bare, 0, 0);
        due("no ROPES", bare.like(0), -1);
        slot(bare, 0);
        due("no ROPES, no KNOTS", bare.like(0), -1);
        noText("like()", (y, s) -> y.like(s));

        promise(52);
        edge("ROPES that have it as a part, as bits.");
        slot(x, 0, 0, 1, 0);
        due("two like ones", x.found(0), 17);
        slot(x, 0, 1, 1);
        due("whole, and within", x.found(0), 36);
        slot(x, 0, 1);
        due("within", x.found(0), 61);
        slot(x, 0, 1, 1, 1, 1, 1, 1);
        due("the last, whole", x.found(0), 32);
        slot(x, 0, 1, 1, 1, 1, 1, 1, 1);
        due("longer than all", x.found(0), 0);
        slot(x, 0);
        due("of no KNOTS: a part of all", x.found(0), 63);
        slot(bare, 0, 0);
        due("no ROPES", bare.found(0), 0);
        x.row(1, 0, 24);
        due("24, in none", x.found(1), 0);
        KnotRope long1 = zeros(ONE, 24);
        long1.row(1, 0, 24);
        due("24, whole", long1.found(1), 1);
        long1.cut(0, 23);
        due("24, in 23", long1.found(1), 0);
        edge("-2, -6 likewise.");
        noText("found()", (y, s) -> y.found(s));

        promise(53);
        edge("The fewest KNOTS to be changed (each another kind in its place) so that it can be READ forward.");
        slot(x, 0);
        due("of no KNOTS", x.mend(0), 0);
        slot(x, 0, 0, 0);
        due("none", x.mend(0), 0);
        slot(x, 0, 1, 0, 1);
        due("the first and the last", x.mend(0), 2);
        x.row(1, 0, 24);
        due("none of 24", x.mend(1), 0);
        for (int i = 0; i < 24; i++) {
            x.write(1, i, 1);
            due(i + 1 + " of 24", x.mend(1), i + 1);
        }
        edge("NONE: it can't be; -2, -6 likewise.");
        KnotRope pairs = told(THREE + "word 1 0 means 1;word 2 2 means 1;word 0 0 0 0 means 1;");
        for (int n = 0; n <= 24; n++) {
            pairs.row(0, 0, n);
            due(n + " KNOTS by words of two and four", pairs.mend(0) < 0 ? -1 : 0, n % 2 == 0 ? 0 : -1);
        }
        slot(bare, 0, 0);
        due("without WORDS", bare.mend(0), -1);
        slot(bare, 0);
        due("without WORDS, of no KNOTS", bare.mend(0), 0);
        noText("mend()", (y, s) -> y.mend(s));

        promise(54);
        edge("KNOT i (from 0) of the first such (the least row).");
        slot(x, 0, 1, 0, 1);
        for (int i = 0; i < 3; i++) due("mended(0, " + i + ")", x.mended(0, i), 0);
        for (int i = 0; i < 24; i++) due("of 24: " + i, x.mended(1, i), 0);
        slot(pairs, 0, 0, 2);
        // 1 0 is two away, 2 2 is one away
        due("the fewest, not the least", pairs.mended(0, 0), 2);
        slot(pairs, 0, 1, 2, 2, 0);
        // 1 0 2 2, 2 2 2 2 ..: 1 0 is one away and 2 2 one; the rest 2 0 likewise
        due("the least row, first", pairs.mended(0, 0), 1);
        due("the least row, second", pairs.mended(0, 1), 0);
        due("the least row, third", pairs.mended(0, 2), 1);
        due("the least row, last", pairs.mended(0, 3), 0);
        KnotRope all = told(THREE + "word 2 means 0;word 1 means 0;");
        all.row(0, 0, 24);
        for (int i = 0; i < 24; i++) due("the least of 24: " + i, all.mended(0, i), 1);
        KnotRope rows = told(THREE + "word 2 means 0;word 1 means 0;word 0 2 means 0;");
        slot(rows, 0, 0, 0);
        // 0 2 is one away, 1 1 two
        due("by the longer word", rows.mended(0, 0), 0);
        due("and its last", rows.mended(0, 1), 2);
        KnotRope second = told(THREE + "word 1 2 means 0;word 1 0 means 0;word 1 2 0 0 means 0;word 1 0 0 2 means 0;");
        slot(second, 0, 1, 1);
        due("the same first KNOT", second.mended(0, 0), 1);
        due("the least second one", second.mended(0, 1), 0);
        slot(second, 0, 1, 1, 0, 1);
        due("the least third one", second.mended(0, 2), 0);
        due("the least last one", second.mended(0, 3), 2);
        KnotRope ends = told(THREE + "word 2 means 0;word 1 means 0;");
        slot(ends, 0, 2, 0);
        due("what can stay", ends.mended(0, 0), 2);
        due("the least kind at the last", ends.mended(0, 1), 1);
        edge("NONE: there is none such; -2, -6 likewise.");
        slot(x, 0, 1, 0, 1);
        beside("mended(0, ..)", 3, -1, i -> x.mended(0, i));
        beside("mended(1, ..) of 24", 24, -1, i -> x.mended(1, i));
        slot(x, 2);
        beside("mended(2, ..) of no KNOTS", 0, -1, i -> x.mended(2, i));
        slot(bare, 0, 0);
        beside("mended that can't be", 0, -1, i -> bare.mended(0, i));
        slot(pairs, 1, 0, 0, 0);
        beside("mended of three by twos", 0, -1, i -> pairs.mended(1, i));
        noText("mended(.., 0)", (y, s) -> y.mended(s, 0));
        noText("mended(.., -1)", (y, s) -> y.mended(s, -1));
        noText("mended(.., 24)", (y, s) -> y.mended(s, 24));
    }

    private static void countsAndImages() {
        promise(55);
        edge("0 PLACES, 1 wear, 2 odds, 3 kinds of KNOTS, 4 WORDS, 5 ROPES, 6 PERSONS, 7 1 if it is wet, else 0, 8 acts, 9 LINES, 10 bytes of the TAPE, 11 SLOTS that have a row.");
        KnotRope x = told(FULL);
        feed(x, " ".repeat(1400));
        for (int s = 0; s < 4; s++) {
            due("SLOTS", x.count(11), s);
            x.row(s, 0, 60 * (s & 1));
            due("SLOTS, in place of another", x.row(s, 3, 0), 0);
        }
        for (int i = 0; i < 40; i++) x.wet(1);
        int[] most = {6, 99, 100, 6, 10, 6, 6, 1, 40, 29, 1400, 4};
        for (int what = 0; what < 12; what++) due("count(" + what + ")", x.count(what), most[what]);
        x = told(HEAD);
        int[] least = {2, 0, 0, 0, 0, 0, 0, 0, 0, 1, 0, 0};
        for (int what = 0; what < 12; what++) due("count(" + what + ") of the least", x.count(what), least[what]);
        edge("NONE for others.");
        beside("count", 12, -1, x::count);
        beside("count of a new object", 12, -1, new KnotRope()::count);
        beside("count of the most", 12, -1, told(FULL)::count);

        promise(56);
        edge("IMAGE k (0 .. 2) keeps the GORGE, and acts: 0.");
        KnotRope y = told(FULL);
        String asTold = look(y);
        for (Act act : forty()) act.on(y);
        String done = look(y);
        due("image(0)", y.image(0), 0);
        y.anew();
        due("image(1)", y.image(1), 0);
        tell(y, ONE + "rope 1 to 0 bears 7 of 0 0;");
        String other = look(y);
        due("image(2)", y.image(2), 0);
        tell(y, TWO + "word 1 1 means 4;word 0 1 means 6;rope 1 to 0 bears 3 of 1;person weighs 3 pace 3 at 1;");
        y.back(0);
        alike("the GORGE and its acts", look(y), done);
        y.back(2);
        alike("another one", look(y), other);
        y.back(1);
        alike("the GORGE without acts", look(y), asTold);
        due("in place of what it kept", y.image(2), 0);
        tell(y, "");
        y.back(2);
        alike("that is gone", look(y), asTold);
        edge("-2: no such k.");
        beside("image", 3, -2, y::image);
        beside("image of a new object", 3, -2, new KnotRope()::image);

        promise(57);
        edge("It is as IMAGE k has it: 0.");
        due("back(0)", y.back(0), 0);
        List<String> looks = new ArrayList<>();
        KnotRope z = told(FULL);
        for (Act act : forty()) {
            looks.add(look(z));
            act.on(z);
        }
        for (int n = 39; n >= 0; n--) {
            due("undo() of the acts it has", y.undo(), n);
            alike("as it was ahead of act " + n, look(y), looks.get(n));
        }
        due("back(0) again", y.back(0), 0);
        alike("the IMAGE stays", look(y), done);
        due("forty acts", y.wet(0), -5);
        due("anew()", y.anew(), 40);
        alike("as it was told", look(y), asTold);
        feed(y, " ".repeat(20));
        y.row(1, 0, 2);
        tell(y, "#");
        feed(y, " ".repeat(20));
        due("back(1)", y.back(1), 0);
        due("the TAPE stays", y.count(10), 20);
        due("SLOTS stay", y.count(11), 1);
        due("fault(0) stays", y.fault(0), 1);
        due("fault(1) stays", y.fault(1), 0);
        KnotRope none = new KnotRope();
        due("image of no GORGE", none.image(0), 0);
        tell(none, FULL);
        due("back to no GORGE", none.back(0), 0);
        noGorge(none);
        edge("-2: no such k; -6: it has nothing.");
        beside("back", 3, -2, y::back);
        beside("back of a new object", 3, -2, new KnotRope()::back);
        KnotRope w = told(FULL);
        w.wet(1);
        String as = look(w);
        for (int k = 0; k < 3; k++) due("nothing yet", w.back(k), -6);
        w.image(1);
        due("nothing beside it", w.back(0), -6);
        due("nothing beside it", w.back(2), -6);
        alike("all stays", look(w), as);
    }

    /** Six kinds, each a word: so a text can be read as it stands, and mended() tells each of its numbers. */
    private static final String EACH = HEAD + KNOT.repeat(6) + "word 0 means 0;word 1 means 0;word 2 means 0;word 3 means 0;word 4 means 0;word 5 means 0;";

    /** The first n numbers of a row, all of them kinds, by pieces in slot 3. */
    private static String numbers(KnotRope x, int slot, int width, int n) {
        StringBuilder sb = new StringBuilder();
        for (int from = 0; from < n; from += 20) {
            int m = Math.min(20, n - from);
            x.row(3, width, m);
            if (x.paste(slot, from, 3, 0, m) != 0) return "not so many";
            for (int i = 0; i < m; i++) sb.append(x.mended(3, i));
        }
        return sb.toString();
    }

    private static void slots() {
        KnotRope x = told(EACH);
        promise(58);
        edge("A SLOT (0 .. 3) has a row of n numbers of a WIDTH, all 0 (in place of another one): 0.");
        for (int w = 0; w < 4; w++) {
            due("60", x.row(0, w, 60), 0);
            alike("all 0", numbers(x, 0, w, 60), "0".repeat(60));
            for (int i = 0; i < 60; i++) due("write", x.write(0, i, 5), 0);
            alike("all 5", numbers(x, 0, w, 60), "5".repeat(60));
            due("in place of another one", x.row(0, w, 60), 0);
            alike("all 0 again", numbers(x, 0, w, 60), "0".repeat(60));
            for (int i = 0; i < 60; i++) x.write(0, i, 5);
            due("of one", x.row(0, w, 1), 0);
            alike("0", numbers(x, 0, w, 1), "0");
            due("no second", x.write(0, 1, 0), -7);
            due("of 60 again", x.row(0, w, 60), 0);
            alike("all 0 again", numbers(x, 0, w, 60), "0".repeat(60));
            due("of none", x.row(0, w, 0), 0);
            due("no number", x.write(0, 0, 0), -7);
            due("it has a row", x.text(0), 1);
        }
        KnotRope y = told(EACH);
        for (int s = 0; s < 4; s++) {
            y.row(s, 0, 60);
            for (int i = 0; i < 60; i++) y.write(s, i, s + 1);
        }
        y.row(1, 0, 60);
        alike("the SLOT ahead stays", numbers(y, 0, 0, 60), "1".repeat(60));
        alike("all 0", numbers(y, 1, 0, 60), "0".repeat(60));
        alike("the SLOT behind stays", numbers(y, 2, 0, 60), "3".repeat(60));
        edge("-2: there is no such SLOT or WIDTH (0 .. 3), or n is above 60; -3, and the SLOT stays: n is below 0.");
        for (int n : new int[] {0, 60, 61, -1}) {
            int m = n;
            beside("row(.., 0, " + n + ")", 4, -2, s -> x.row(s, 0, m));
            beside("row(0, .., " + n + ")", 4, -2, w -> x.row(0, w, m));
        }
        slot(x, 0, 3, 4, 5);
        for (int n : new int[] {61, 62, 64, 256, 65536, MAX}) due("row(0, 1, " + n + ")", x.row(0, 1, n), -2);
        due("no such WIDTH", x.row(0, 4, 1), -2);
        alike("the SLOT stays", numbers(x, 0, 0, 3), "345");
        for (int n : new int[] {-1, -60, MIN}) due("row(0, 1, " + n + ")", x.row(0, 1, n), -3);
        alike("the SLOT stays", numbers(x, 0, 0, 3), "345");
        KnotRope z = told(EACH);
        due("row(2, 0, -1)", z.row(2, 0, -1), -3);
        due("it has nothing still", z.text(2), -6);
        due("row(2, 0, 61)", z.row(2, 0, 61), -2);
        due("it has nothing still", z.text(2), -6);
        due("SLOTS", z.count(11), 0);

        promise(59);
        edge("Number i of the SLOT's row is v, cut to its WIDTH: 0.");
        for (int w = 0; w < 4; w++) {
            x.row(2, w, 60);
            long over = w < 3 ? 1L << (8 << w) : 0;
            due("the first", x.write(2, 0, over + 1), 0);
            due("the last", x.write(2, 59, over * 77 + 2), 0);
            due("one between, below 0", x.write(2, 30, 3 - over), 0);
            due("anew", x.write(2, 30, 4 + over), 0);
            alike("cut", numbers(x, 2, w, 60), "1" + "0".repeat(29) + "4" + "0".repeat(28) + "2");
            due("the greatest", x.write(2, 0, Long.MAX_VALUE), 0);
            due("the least", x.write(2, 1, w < 3 ? Long.MIN_VALUE : 0), 0);
            x.row(1, w, 1);
            x.paste(2, 1, 1, 0, 1);
            due("the least is cut to 0", x.mended(1, 0), 0);
            x.paste(2, 0, 1, 0, 1);
            due("the greatest is no kind", x.mended(1, 0), -2);
        }
        edge("-2: there is no such SLOT; -6: it has nothing; -7: there is no such number.");
        KnotRope v = told(EACH);
        for (int i : new int[] {-1, 0, 60}) {
            beside("write(.., " + i + ", 0)", 4, -2, s -> v.write(s, i, 0));
            for (int s = 0; s < 4; s++) due("nothing", v.write(s, i, 0), -6);
        }
        slot(v, 0, 1, 2, 3);
        v.row(1, 0, 60);
        v.row(2, 0, 0);
        beside("write(0, .., 5)", 3, -7, i -> v.write(0, i, 5));
        beside("write(1, .., 5)", 60, -7, i -> v.write(1, i, 5));
        beside("write(2, .., 5) of no numbers", 0, -7, i -> v.write(2, i, 5));
        alike("all stays", numbers(v, 0, 0, 3), "123");
        alike("all stays", numbers(v, 1, 0, 60), "0".repeat(60));

        promise(60);
        edge("So many numbers of a SLOT's row, from one on, are put to another one's (or its own), from one on, as they were: 0.");
        KnotRope p = told(EACH);
        slot(p, 0, 0, 1, 2, 3, 4, 5);
        slot(p, 1, 5, 5, 5);
        due("all that fit", p.paste(0, 3, 1, 0, 3), 0);
        alike("another one's", numbers(p, 1, 0, 3), "345");
        alike("it stays itself", numbers(p, 0, 0, 6), "012345");
        due("the last to the first", p.paste(0, 5, 1, 0, 1), 0);
        due("the first to the last", p.paste(0, 0, 1, 2, 1), 0);
        alike("another one's", numbers(p, 1, 0, 3), "540");
        due("its own, on", p.paste(0, 0, 0, 1, 5), 0);
        alike("as they were", numbers(p, 0, 0, 6), "001234");
        slot(p, 0, 0, 1, 2, 3, 4, 5);
        due("its own, back", p.paste(0, 1, 0, 0, 5), 0);
        alike("as they were", numbers(p, 0, 0, 6), "123455");
        due("its own, in its place", p.paste(0, 0, 0, 0, 6), 0);
        alike("as they were", numbers(p, 0, 0, 6), "123455");
        due("none of them", p.paste(0, 0, 1, 0, 0), 0);
        due("none, at both ends", p.paste(0, 6, 1, 3, 0), 0);
        alike("all stays", numbers(p, 1, 0, 3), "540");
        p.row(2, 0, 0);
        due("none of no numbers", p.paste(2, 0, 0, 0, 0), 0);
        due("none to no numbers", p.paste(0, 0, 2, 0, 0), 0);
        for (int w = 0; w < 4; w++) {
            p.row(0, w, 60);
            p.row(1, w, 60);
            for (int i = 0; i < 60; i++) p.write(0, i, i % 6);
            due("60", p.paste(0, 0, 1, 0, 60), 0);
            alike("all", numbers(p, 1, w, 60), "012345".repeat(10));
        }
        p.row(0, 3, 1);
        p.row(1, 3, 1);
        p.write(0, 0, Long.MIN_VALUE);
        p.paste(0, 0, 1, 0, 1);
        due("whole, of 8 bytes", p.text(1), -2);
        edge("-2: there is no such SLOT; -6: one has nothing; -8: they are not of one WIDTH; -7, and nothing happens: some are beyond their rows, or a place or n is below 0.");
        KnotRope q = told(EACH);
        slot(q, 0, 0, 1, 2, 3);
        slot(q, 1, 5, 5, 5);
        for (int n : new int[] {0, 1, -1, 99}) {
            beside("paste(.., 0, 0, 0, " + n + ")", 4, -2, s -> q.paste(s, 0, 0, 0, n));
            beside("paste(0, 0, .., 0, " + n + ")", 4, -2, s -> q.paste(0, 0, s, 0, n));
            beside("paste(2, 0, .., 0, " + n + ")", 4, -2, s -> q.paste(2, 0, s, 0, n));
            beside("paste(.., 0, 2, 0, " + n + ")", 4, -2, s -> q.paste(s, 0, 2, 0, n));
            due("the first has nothing", q.paste(2, 0, 0, 0, n), -6);
            due("the second has nothing", q.paste(0, 0, 2, 0, n), -6);
            due("both have nothing", q.paste(2, 0, 3, 0, n), -6);
            due("it has nothing itself", q.paste(2, 0, 2, 0, n), -6);
        }
        for (int w = 1; w < 4; w++) {
            q.row(2, w, 4);
            for (int n : new int[] {0, 1, -1, 99}) {
                due("not of one WIDTH", q.paste(0, 0, 2, 0, n), -8);
                due("not of one WIDTH", q.paste(2, 0, 0, 0, n), -8);
                due("not of one WIDTH, places below 0", q.paste(2, -1, 0, -1, n), -8);
            }
        }
        int[][] beyond = {{0, 0, 5}, {1, 0, 4}, {4, 0, 1}, {5, 0, 0}, {5, 0, 1}, {0, 1, 3}, {0, 3, 1}, {0, 4, 1}, {0, 4, 0}, {0, 0, 4}, {-1, 0, 1}, {0, -1, 1}, {-1, 0, 0}, {0, -1, 0},
            {0, 0, -1}, {4, 3, -1}, {1, 1, MIN}, {MAX, 0, 1}, {0, MAX, 1}, {0, 0, MAX}, {MAX, MAX, MAX}, {1, 0, MAX}, {0, 1, MAX}, {MIN, 0, 1}, {0, MIN, 1}, {MIN, MIN, MIN}, {MIN, 0, MAX}, {MAX, 0, MIN}};
        for (int[] b : beyond) due("paste(0, " + b[0] + ", 1, " + b[1] + ", " + b[2] + ")", q.paste(0, b[0], 1, b[1], b[2]), -7);
        alike("nothing happens", numbers(q, 0, 0, 4), "0123");
        alike("nothing happens", numbers(q, 1, 0, 3), "555");
        due("beyond its own", q.paste(0, 0, 0, 1, 4), -7);
        due("beyond its own", q.paste(0, 1, 0, 0, 4), -7);
        alike("nothing happens", numbers(q, 0, 0, 4), "0123");
    }

    // ---- all of the face

    /** Any arguments in any state. */
    private static void wild() throws Exception {
        section = "Rule 7 of LANGUAGE.md";
        sentence = "No call may ever throw or fail to end, for any arguments in any state";
        Random random = new Random(11);
        int[] some = {MIN, MIN + 1, -65536, -64, -2, -1, 0, 0, 1, 1, 2, 3, 4, 5, 6, 7, 11, 12, 20, 23, 24, 25, 31, 32, 33, 50, 59, 60, 61, 63, 64, 500, 999, 1400, 2400, 2000000000, MAX - 1, MAX};
        for (int round = 0; round < 60; round++) {
            KnotRope x = round % 4 == 0 ? new KnotRope() : told(round % 4 == 1 ? HEAD : round % 4 == 2 ? FULL : ROW);
            for (int s = 0; s < 4 && round % 3 == 0; s++) x.row(s, s, 6 * s);
            for (int i = 0; i < 400; i++) {
                Method[] face = KnotRope.class.getDeclaredMethods();
                Method m = face[random.nextInt(face.length)];
                if (!Modifier.isPublic(m.getModifiers())) continue;
                Object[] args = new Object[m.getParameterCount()];
                for (int a = 0; a < args.length; a++) {
                    int v = some[random.nextInt(some.length)];
                    args[a] = m.getParameterTypes()[a] == long.class ? (Object) (long) v : (Object) v;
                }
                try {
                    m.invoke(x, args);
                } catch (java.lang.reflect.InvocationTargetException e) {
                    fail(m.getName() + java.util.Arrays.toString(args) + " threw " + e.getCause());
                }
            }
        }
    }

    // ---- the document itself

    private static String plain(String text) {
        return text.replaceAll("```(text)?", " ").replaceAll("\\s+", " ").trim();
    }

    /** The document's terms and promises by their names. */
    private static Map<String, String> document(String doc) {
        Map<String, String> parts = new LinkedHashMap<>();
        String face = doc.substring(doc.indexOf("An object is used"), doc.indexOf("## The public face"));
        parts.put("What it is", face);
        String terms = doc.substring(doc.indexOf("## Terms") + 8, doc.indexOf("## Promise 1:"));
        String name = "";
        for (String line : terms.split("\n")) {
            java.util.regex.Matcher m = java.util.regex.Pattern.compile("^(I|II|III|IV|V)\\. (.*)$").matcher(line);
            if (m.matches()) {
                name = m.group(1);
                parts.put(name, m.group(2));
            } else if (!name.isEmpty()) {
                parts.put(name, parts.get(name) + "\n" + line);
            }
        }
        String promises = doc.substring(doc.indexOf("## Promise 1:"), doc.indexOf("## Not promised"));
        for (String p : promises.split("## (?=Promise \\d)")) {
            if (p.isBlank()) continue;
            parts.put(p.substring(0, p.indexOf(':')), p.substring(p.indexOf("`: ") + 3));
        }
        return parts;
    }

    /** Each quote stands in the document, and all of the document is quoted. */
    private static void quoted(Map<String, String> parts) {
        for (Map.Entry<String, String> e : parts.entrySet()) {
            section = e.getKey();
            String text = plain(e.getValue());
            boolean[] seen = new boolean[text.length()];
            for (String quote : quotes.getOrDefault(section, List.of())) {
                sentence = quote;
                int at = text.indexOf(quote);
                if (at < 0) fail("it does not stand in the document: " + text);
                for (int i = at; at >= 0 && i < at + quote.length(); i++) seen[i] = true;
            }
            StringBuilder rest = new StringBuilder();
            for (int i = 0; i < seen.length; i++) if (!seen[i]) rest.append(text.charAt(i));
            sentence = rest.toString().trim();
            if (!sentence.isEmpty()) fail("it is not quoted");
        }
    }

    public static void main(String[] args) throws Exception {
        lastCalls();
        termOne();
        termsTwoToFive();
        telling();
        parts();
        readings();
        shortestTexts();
        slipped();
        copyists();
        touched();
        ways();
        ferries();
        acts();
        copies();
        texts();
        countsAndImages();
        slots();
        if (asked == 0) fail("nothing is asked");
        wild();
        Path doc = Path.of("../shared/DOC.md");
        if (Files.exists(doc)) quoted(document(Files.readString(doc, StandardCharsets.ISO_8859_1)));
        System.out.println(wrong == 0 ? "all edges hold" : wrong + " edges do not hold");
        if (wrong != 0) System.exit(1);
    }
}
