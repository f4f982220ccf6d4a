/** Each promise of the document by itself: ordinary calls, the edges that it names, wrong calls. */
public final class KnotRopePromises {
    private static int wrong = 0;
    private static String promise = "";

    private static void due(String call, long got, long want) {
        if (got != want) {
            wrong++;
            System.out.println("promise " + promise + ": " + call + " answered " + got + ", due is " + want);
        }
    }

    private static final String HEAD = "gorge places 2 wear 0 odds 0;";
    private static final String KNOT = "knot inches 1 weak 0;";

    /** Most promises are asked of this one; the numbers behind them are reckoned by hand. */
    private static final String GORGE =
            "gorge places 3 wear 10 odds 50;\n"
            + "knot inches 2 weak 0; knot inches 3 weak 10; knot inches 1 weak 20;\n"
            + "word 0 means 5; word 1 0 means 7; word 0 1 means 2; word 2 means 1;\n"
            + "rope 0 to 1 bears 100 of 0 1 0;\n"
            + "rope 1 to 2 bears 80 of 2 1 2;\n"
            + "rope 0 to 2 bears 50 of 1 0 2 0;\n"
            + "person weighs 60 pace 2 at 0; person weighs 30 pace 5 at 1; person weighs 45 pace 1 at 0;\n";

    private static void feed(KnotRope x, String text) {
        for (int i = 0; i < text.length(); i += 20) {
            int[] n = new int[5];
            for (int j = 0; j < 20; j++) {
                n[j / 4] = n[j / 4] << 8 | (i + j < text.length() ? text.charAt(i + j) & 255 : 0);
            }
            x.feed(n[0], n[1], n[2], n[3], n[4]);
        }
    }

    private static int tell(KnotRope x, String text) {
        x.end(0);
        feed(x, text);
        x.end(text.length());
        return x.gorge();
    }

    private static KnotRope told(String text) {
        KnotRope x = new KnotRope();
        due("gorge() is told", tell(x, text) > 0 ? 1 : 0, 1);
        return x;
    }

    private static void slot(KnotRope x, int slot, int... kinds) {
        x.row(slot, 0, kinds.length);
        for (int i = 0; i < kinds.length; i++) {
            x.write(slot, i, kinds[i]);
        }
    }

    private static String times(String s, int n) {
        return s.repeat(n);
    }

    private static void newObject() {
        promise = "1";
        KnotRope x = new KnotRope();
        for (int what = 0; what <= 11; what++) due("count(" + what + ")", x.count(what), 0);
        due("rope(0, 0)", x.rope(0, 0), -1000);
        due("all()", x.all(), -2);
        due("undo()", x.undo(), -2);
        due("back(0)", x.back(0), -6);
        due("NONE", KnotRope.NONE, -1);
    }

    private static void tape() {
        promise = "2";
        KnotRope x = new KnotRope();
        due("feed", x.feed(0x676f7267, 0x65200a20, 1, 2, 3), 20);
        for (int i = 2; i <= 70; i++) due("feed " + i, x.feed(0, 0, 0, 0, 0), 20 * i);
        due("feed beyond", x.feed(0, 0, 0, 0, 0), -1);
        due("count(10)", x.count(10), 1400);
        due("end(1381)", x.end(1381), 1381);
        due("feed to 1401", x.feed(0, 0, 0, 0, 0), -1);
        due("end(1380)", x.end(1380), 1380);
        due("feed to 1400", x.feed(0, 0, 0, 0, 0), 1400);

        promise = "3";
        due("end(1401)", x.end(1401), -1);
        due("end(-1)", x.end(-1), -1);
        due("count(10)", x.count(10), 1400);
        due("end(7)", x.end(7), 7);
        due("end(8)", x.end(8), -1);
        due("end(7)", x.end(7), 7);
        // "gorge \n" and no more: bytes come highest first
        due("gorge()", x.gorge(), -4);
        due("fault(1)", x.fault(1), 7);
        due("end(0)", x.end(0), 0);
    }

    private static void gorge() {
        promise = "4";
        KnotRope x = new KnotRope();
        // the example of README.md
        x.feed(0x676f7267, 0x6520706c, 0x61636573, 0x20322077, 0x65617220);
        x.feed(0x30206f64, 0x64732030, 0x3b000000, 0, 0);
        x.end(29);
        due("the example", x.gorge(), 1);
        due("its places", x.count(0), 2);
        due("gorge() of nothing", x.gorge(), 0);
        due("gorge() of blanks", tell(x, "  \n "), 0);
        due("gorge()", tell(x, GORGE), 14);
        due("count(9)", x.count(9), 14);
        due("count(10)", x.count(10), 0);
        due("wet(1)", x.wet(1), 0);
        due("cross(0, 0)", x.cross(0, 0), 1);
        due("a fault", tell(x, "gorge"), -4);
        due("acts stay", x.count(8), 2);
        due("wet stays", x.count(7), 1);
        due("place stays", x.person(0, 2), 1);
        due("the tape is empty behind a fault too", x.count(10), 0);
        due("again", tell(x, GORGE), 14);
        due("nothing done", x.count(8), 0);
        due("dry", x.count(7), 0);
        due("place", x.person(0, 2), 0);
        due("crossed", x.rope(0, 6), 0);
        due("smaller", tell(x, HEAD), 1);
        due("ropes", x.count(5), 0);
        due("rope(0, 0)", x.rope(0, 0), -1000);
        due("none", tell(x, ""), 0);
        due("all()", x.all(), -2);
        for (int what = 0; what <= 10; what++) due("count(" + what + ") of none", x.count(what), 0);
        due("tokens without blanks", tell(x, "gorge places2wear3odds4;knot inches9weak50;"), 2);
        due("count(1)", x.count(1), 3);
        due("zeros ahead", tell(x, "gorge places 0000000000000000000000006 wear 000 odds 0100 ;"), 1);
        due("count(0)", x.count(0), 6);
        due("all there may be", tell(x, HEAD + times(KNOT, 6)
                + "word 0 means 0;word 1 means 0;word 2 means 0;word 3 means 0;word 4 means 0;word 5 means 99;word 0 0 means 0;word 0 1 means 0;word 0 0 0 0 means 0;word 0 0 0 means 0;"
                + times("rope 1 to 0 bears 999 of 0 0 0 0 0 0 0 0 0 0 0 5;", 6) + times("person weighs 999 pace 9 at 1;", 6)), 29);
    }

    private static void faulty(String text, int fault, int place) {
        KnotRope x = new KnotRope();
        due("gorge() of " + text, tell(x, text), -4);
        due("fault(0) of " + text, x.fault(0), fault);
        due("fault(1) of " + text, x.fault(1), place);
        due("count(9)", x.count(9), 0);
    }

    private static void faults() {
        promise = "5";
        KnotRope x = new KnotRope();
        due("fault(0)", x.fault(0), 0);
        due("fault(1)", x.fault(1), -1);
        due("fault(2)", x.fault(2), -1);
        tell(x, "gorge places 7");
        due("fault(0)", x.fault(0), 2);
        due("fault(1)", x.fault(1), 13);
        due("fault(-1)", x.fault(-1), -1);
        due("fault(2)", x.fault(2), -1);
        tell(x, HEAD);
        due("fault(0)", x.fault(0), 0);
        due("fault(1)", x.fault(1), -1);

        // what was cut off the tape is no part of its last token
        feed(x, "gorge places 22");
        x.end(14);
        due("a number cut", x.gorge(), -4);
        due("fault(1)", x.fault(1), 14);
        feed(x, "gorge places 2 wear");
        x.end(17);
        due("a word cut", x.gorge(), -4);
        due("fault(1)", x.fault(1), 15);
        faulty(times("a", 1400), 1, 0);
        faulty(times(" ", 1399) + "1", 1, 1399);
        faulty("gorge places" + times(" ", 1387) + "2", 1, 1400);
        due("a full tape", tell(x, HEAD + times(" ", 1371)), 1);

        String one = HEAD + KNOT;
        faulty("gorge places 2", 1, 14);
        faulty("gorge places 2  \n", 1, 17);
        faulty("gorge places 1", 2, 13);
        faulty("gorge places 99999999999999999999999999999999", 2, 13);
        faulty("gorge places 4294967298 wear 0 odds 0;", 2, 13);
        faulty("gorge places 2 wear 100", 2, 20);
        faulty("gorge places 2 wear 1 odds 101", 2, 27);
        faulty("gorge places 2 wear 1 wear", 1, 22);
        faulty("gorge places -2", 1, 13);
        faulty("knot", 1, 0);
        faulty(" \n knot", 1, 3);
        faulty(";", 1, 0);
        faulty("gorges", 1, 0);
        faulty(HEAD + "gorge", 1, 29);
        faulty(HEAD + ";", 1, 29);
        faulty(HEAD + "7", 1, 29);
        faulty(HEAD + "Knot", 1, 29);
        faulty(HEAD + "knots", 1, 29);
        faulty(HEAD + "knotz", 1, 29);
        faulty(HEAD + "aknot", 1, 29);
        faulty(HEAD + "knot{", 1, 33);
        faulty(HEAD + "knot`", 1, 33);
        faulty(HEAD + "knot inches 9:", 1, 42);
        faulty(HEAD + "knot inches /9", 1, 41);
        faulty(HEAD + "\tknot", 1, 29);
        faulty(HEAD + (char) 233, 1, 29);
        faulty(HEAD + (char) 0, 1, 29);
        faulty(HEAD + "knot inches 0", 2, 41);
        faulty(HEAD + "knot inches 10", 2, 41);
        faulty(HEAD + "knot inches 1 weak 51", 2, 48);
        faulty(HEAD + "knot inches 1 weak 0", 1, 49);
        faulty(HEAD + "knot inches 1 weak 0 0", 1, 50);
        faulty(HEAD + "word 0", 2, 34);
        faulty(one + "word 1", 2, 55);
        faulty(one + "word means", 1, 55);
        faulty(one + "word ;", 1, 55);
        faulty(one + "word 0 0 0 0 0", 3, 63);
        faulty(one + "word 0 0 0 0 1", 2, 63);
        faulty(one + "word 0 0 0 1 0", 2, 61);
        faulty(one + "word 0 ;", 1, 57);
        faulty(one + "word 0 means 100", 2, 63);
        faulty(one + "word 0 means 1;word 0 means 100", 2, 72);
        faulty(one + "word 0 means 1;word 0 0 means 1;word 0 0 means 1", 2, 91);
        faulty(one + "word 0 means 1;word 0 ;", 1, 72);
        faulty(one + "rope 2", 2, 55);
        faulty(one + "rope 0 to 0", 2, 60);
        faulty(one + "rope 0 to 2", 2, 60);
        faulty(one + "rope 0 0", 1, 57);
        faulty(one + "rope 0 to 1 bears 0", 2, 68);
        faulty(one + "rope 0 to 1 bears 1000", 2, 68);
        faulty(one + "rope 0 to 1 bears 1 of 1", 2, 73);
        faulty(one + "rope 0 to 1 bears 1 of ;", 1, 73);
        faulty(one + "rope 0 to 1 bears 1 of" + times(" 0", 13), 3, 97);
        faulty(one + "rope 0 to 1 bears 1 of" + times(" 0", 12) + " 1", 2, 97);
        faulty(one + "rope 0 to 1 bears 1 of" + times(" 0", 12) + " to", 1, 97);
        faulty(HEAD + "rope 0 to 1 bears 1 of 0", 2, 52);
        faulty(HEAD + "person weighs 0", 2, 43);
        faulty(HEAD + "person weighs 1000", 2, 43);
        faulty(HEAD + "person weighs 1 pace 10", 2, 50);
        faulty(HEAD + "person weighs 1 pace 0", 2, 50);
        faulty(HEAD + "person weighs 1 pace 1 at 2", 2, 55);
        faulty(HEAD + times(KNOT, 6) + "knot", 3, 155);
        faulty(HEAD + times(KNOT, 6) + "word 0 means 1;word 1 means 1;word 2 means 1;word 3 means 1;word 4 means 1;word 5 means 1;"
                + "word 0 0 means 1;word 0 1 means 1;word 0 2 means 1;word 0 3 means 1;word", 3, 313);
        faulty(one + times("rope 0 to 1 bears 1 of 0;", 6) + "rope", 3, 200);
        faulty(HEAD + times("person weighs 1 pace 1 at 0;", 6) + "person", 3, 197);
    }

    private static void told() {
        KnotRope x = told(GORGE);
        promise = "6";
        due("knot(0, 0)", x.knot(0, 0), 2);
        due("knot(1, 0)", x.knot(1, 0), 3);
        due("knot(2, 1)", x.knot(2, 1), 20);
        due("knot(3, 0)", x.knot(3, 0), -2);
        due("knot(-1, 0)", x.knot(-1, 0), -2);
        due("knot(0, 2)", x.knot(0, 2), -2);
        due("knot(0, -1)", x.knot(0, -1), -2);

        promise = "7";
        due("word(1, 0)", x.word(1, 0), 1);
        due("word(1, 1)", x.word(1, 1), 0);
        due("word(1, 2)", x.word(1, 2), -1);
        due("word(1, -1)", x.word(1, -1), -1);
        due("word(4, 0)", x.word(4, 0), -2);
        due("word(-1, 9)", x.word(-1, 9), -2);

        promise = "8";
        due("means(1)", x.means(1), 7);
        due("means(3)", x.means(3), 1);
        due("means(4)", x.means(4), -2);
        due("means(-1)", x.means(-1), -2);

        promise = "9";
        int[] want = {0, 2, 50, 4, 11, 40, 0};
        for (int what = 0; what < 7; what++) due("rope(2, " + what + ")", x.rope(2, what), want[what]);
        due("rope(2, 7)", x.rope(2, 7), -1000);
        due("rope(2, -1)", x.rope(2, -1), -1000);
        due("rope(3, 0)", x.rope(3, 0), -1000);
        due("rope(-1, 0)", x.rope(-1, 0), -1000);
        x.wet(1);
        due("rope(2, 4) wet", x.rope(2, 4), 10);
        due("rope(0, 4) wet", x.rope(0, 4), 9);
        due("rope(2, 5) wet", x.rope(2, 5), 40);
        due("tie(0, 0, 2)", x.tie(0, 0, 2), 0);
        due("rope(0, 5)", x.rope(0, 5), 80);
        KnotRope y = told("gorge places 2 wear 99 odds 0;knot inches 9 weak 33;rope 0 to 1 bears 2 of" + times(" 0", 12) + ";person weighs 1 pace 1 at 1;");
        due("inches", y.rope(0, 4), 119);
        due("cut strength", y.rope(0, 5), 1);
        y.wet(1);
        due("wet inches: the tenth is cut", y.rope(0, 4), 108);
        due("cross", y.cross(0, 0), 0);
        due("strength below 0", y.rope(0, 5), -98);
        due("crossed", y.rope(0, 6), 1);

        promise = "10";
        due("at(2, 2)", x.at(2, 2), 2);
        due("at(0, 0) tied", x.at(0, 0), 2);
        due("at(2, 4)", x.at(2, 4), -1);
        due("at(2, -1)", x.at(2, -1), -1);
        due("at(3, 0)", x.at(3, 0), -2);
        due("at(-1, 0)", x.at(-1, 0), -2);

        promise = "11";
        due("person(1, 0)", x.person(1, 0), 30);
        due("person(1, 1)", x.person(1, 1), 5);
        due("person(1, 2)", x.person(1, 2), 1);
        due("person(1, 3)", x.person(1, 3), -2);
        due("person(3, 0)", x.person(3, 0), -2);
        due("person(-1, 0)", x.person(-1, 0), -2);
    }

    private static void readings() {
        KnotRope x = told(GORGE);
        promise = "12";
        due("reads(0, 0)", x.reads(0, 0), 2);
        due("reads(0, 1)", x.reads(0, 1), 2);
        due("reads(1, 0)", x.reads(1, 0), 0);
        due("reads(2, 0)", x.reads(2, 0), 1);
        due("reads(2, 1)", x.reads(2, 1), 1);
        due("reads(0, 2)", x.reads(0, 2), -2);
        due("reads(0, -1)", x.reads(0, -1), -2);
        due("reads(3, 0)", x.reads(3, 0), -2);
        KnotRope y = told(HEAD + KNOT + "word 0 means 99;word 0 0 means 1;word 0 0 0 means 2;word 0 0 0 0 means 3;rope 0 to 1 bears 1 of" + times(" 0", 12) + ";");
        due("splice", y.splice(0, 0), 24);
        due("reads of 24", y.reads(0, 0), 3919944);

        promise = "13";
        due("says(0, 0, 0)", x.says(0, 0, 0), 0);
        due("says(0, 0, 1)", x.says(0, 0, 1), 1);
        due("says(0, 0, 2)", x.says(0, 0, 2), -1);
        due("says(0, 0, -1)", x.says(0, 0, -1), -1);
        due("says(1, 0, 0)", x.says(1, 0, 0), -1);
        due("says(2, 0, 0)", x.says(2, 0, 0), 1);
        due("says(2, 0, 1)", x.says(2, 0, 1), 3);
        due("says(2, 0, 2)", x.says(2, 0, 2), 0);
        due("says(2, 1, 0)", x.says(2, 1, 0), 0);
        due("says(2, 1, 2)", x.says(2, 1, 2), 2);
        due("says(3, 0, 0)", x.says(3, 0, 0), -2);
        due("says(0, 2, 0)", x.says(0, 2, 0), -2);
        // the least word that fits leaves a rest that can't be read
        KnotRope z = told(HEAD + KNOT + KNOT + "word 0 means 1;word 0 1 means 1;rope 0 to 1 bears 1 of 0 1;");
        due("says of a dead end", z.says(0, 0, 0), 1);
        due("says behind it", z.says(0, 0, 1), -1);

        promise = "14";
        due("sum(0, 0, 0)", x.sum(0, 0, 0), 7);
        due("sum(0, 0, 1)", x.sum(0, 0, 1), 12);
        due("sum(2, 0, 0)", x.sum(2, 0, 0), 13);
        due("sum(2, 1, 1)", x.sum(2, 1, 1), 8);
        due("sum(1, 0, 0)", x.sum(1, 0, 0), -1);
        due("sum(0, 0, 2)", x.sum(0, 0, 2), -2);
        due("sum(0, 0, -1)", x.sum(0, 0, -1), -2);
        due("sum(3, 0, 0)", x.sum(3, 0, 0), -2);
        due("sum(1, 2, 0)", x.sum(1, 2, 0), -2);
        due("sum of 24, least", y.sum(0, 0, 0), 12);
        due("sum of 24, greatest", y.sum(0, 0, 1), 2376);

        promise = "15";
        due("has(0, 0, 7)", x.has(0, 0, 7), 1);
        due("has(0, 0, 12)", x.has(0, 0, 12), 1);
        due("has(0, 0, 8)", x.has(0, 0, 8), 0);
        due("has(1, 0, 0)", x.has(1, 0, 0), 0);
        due("has(2, 1, 8)", x.has(2, 1, 8), 1);
        due("has(2, 0, 8)", x.has(2, 0, 8), 0);
        due("has(0, 0, 2400)", x.has(0, 0, 2400), 0);
        due("has(0, 0, 2401)", x.has(0, 0, 2401), -2);
        due("has(0, 0, -1)", x.has(0, 0, -1), -2);
        due("has(0, 2, 7)", x.has(0, 2, 7), -2);
        due("has(3, 0, 7)", x.has(3, 0, 7), -2);
        due("has 2376", y.has(0, 0, 2376), 1);
        due("has 2375", y.has(0, 0, 2375), 0);
        due("has 22 * 99 + 1", y.has(0, 0, 2179), 1);
        due("has 12", y.has(0, 0, 12), 1);
        due("has 11", y.has(0, 0, 11), 0);
    }

    private static void shortest() {
        KnotRope x = told(GORGE);
        promise = "16";
        due("shortest(12, 50)", x.shortest(12, 50), 9);
        due("shortest(12, 10)", x.shortest(12, 10), 9);
        due("shortest(12, 9)", x.shortest(12, 9), -1);
        due("shortest(10, 0)", x.shortest(10, 0), 5);
        due("shortest(500, 0)", x.shortest(500, 0), 299);
        due("shortest(1, 20)", x.shortest(1, 20), 1);
        due("shortest(1, 19)", x.shortest(1, 19), -1);
        x.wet(1);
        due("shortest(500, 0) when wet", x.shortest(500, 0), 299);
        due("shortest(0, 0)", x.shortest(0, 0), -2);
        due("shortest(501, 0)", x.shortest(501, 0), -2);
        due("shortest(5, 51)", x.shortest(5, 51), -2);
        due("shortest(5, -1)", x.shortest(5, -1), -2);
        due("shortest without words", told(HEAD).shortest(1, 0), -1);
        due("shortest without gorge", new KnotRope().shortest(1, 0), -2);

        promise = "17";
        int[] want = {0, 0, 3, 3, -1};
        for (int i = 0; i < 5; i++) due("writes(12, 50, " + i + ")", x.writes(12, 50, i), want[i]);
        due("writes(12, 10, 0)", x.writes(12, 10, 0), 0);
        due("writes(12, 10, 1)", x.writes(12, 10, 1), 1);
        due("writes(12, 10, 2)", x.writes(12, 10, 2), -1);
        due("writes(12, 9, 0)", x.writes(12, 9, 0), -1);
        due("writes(500, 0, 99)", x.writes(500, 0, 99), 0);
        due("writes(500, 0, 100)", x.writes(500, 0, 100), -1);
        due("writes(5, 0, -1)", x.writes(5, 0, -1), -1);
        due("writes(0, 0, 0)", x.writes(0, 0, 0), -2);
        due("writes(501, 0, 0)", x.writes(501, 0, 0), -2);
        due("writes(5, 51, 0)", x.writes(5, 51, 0), -2);
        due("writes without gorge", new KnotRope().writes(1, 0, 0), -2);
        KnotRope y = told(HEAD + KNOT + "word 0 means 0;word 0 0 means 1;");
        due("a word of no meaning is in none", y.writes(2, 0, 0), 1);
        due("shortest", y.shortest(2, 0), 7);
    }

    private static void slipped() {
        KnotRope x = told(GORGE);
        promise = "18";
        due("slips(0)", x.slips(0), 4);
        due("slips(1)", x.slips(1), 4);
        due("slips(3)", x.slips(3), -2);
        due("slips(-1)", x.slips(-1), -2);
        KnotRope one = told(HEAD + KNOT + "word 0 means 4;rope 0 to 1 bears 1 of 0 0;rope 1 to 0 bears 1 of 0;");
        due("slips of one kind", one.slips(0), 0);
        KnotRope two = told(HEAD + KNOT + KNOT + "word 0 means 4;rope 0 to 1 bears 1 of 1 1 0;rope 1 to 0 bears 1 of 0 1 0;");
        due("slips, two away", two.slips(0), 0);
        due("slips, one away", two.slips(1), 1);

        promise = "19";
        due("spots(0)", x.spots(0), 7);
        due("spots(1)", x.spots(1), 7);
        due("spots two away", two.spots(0), 0);
        due("spots one away", two.spots(1), 2);
        due("spots(3)", x.spots(3), -2);
        due("spots(-1)", x.spots(-1), -2);

        promise = "20";
        due("feel(0)", x.feel(0), 1);
        due("feel(1)", x.feel(1), 1);
        due("feel of one kind", one.feel(0), -1);
        due("feel of none", two.feel(0), -1);
        due("feel of one text", two.feel(1), -1);
        due("feel(3)", x.feel(3), -2);
        due("feel(-1)", x.feel(-1), -2);

        promise = "21";
        due("leaves(0)", x.leaves(0), 3);
        due("leaves(1)", x.leaves(1), 2);
        due("leaves of one kind", one.leaves(0), 1);
        due("leaves of none", two.leaves(0), 0);
        due("leaves of one text", two.leaves(1), 1);
        due("leaves(3)", x.leaves(3), -2);

        promise = "22";
        due("forged(0)", x.forged(0), 8);
        due("forged(1)", x.forged(1), -1);
        due("forged of one kind", one.forged(0), -1);
        due("forged(3)", x.forged(3), -2);
        KnotRope less = told(HEAD + KNOT + KNOT + KNOT + "word 0 means 9;word 1 means 2;word 2 means 9;rope 0 to 1 bears 1 of 0 0;rope 0 to 1 bears 1 of 0 1;");
        due("forged to less", less.forged(0), 7);
        due("forged to no difference and more", less.forged(1), 7);

        promise = "23";
        due("forge(0, 0)", x.forge(0, 0), 1);
        due("forge(0, 1)", x.forge(0, 1), 0);
        due("forge(1, 0)", x.forge(1, 0), -1);
        due("forge(1, 1)", x.forge(1, 1), -1);
        due("forge(0, 2)", x.forge(0, 2), -2);
        due("forge(0, -1)", x.forge(0, -1), -2);
        due("forge(3, 0)", x.forge(3, 0), -2);
        due("forge first place", less.forge(0, 0), 0);
        due("forge its kind", less.forge(0, 1), 1);
        due("forge first of places", less.forge(1, 0), 0);
        KnotRope least = told(HEAD + KNOT + KNOT + KNOT + "word 0 means 9;word 1 means 2;word 2 means 2;rope 0 to 1 bears 1 of 0;rope 0 to 1 bears 1 of 1;");
        due("forge least kind", least.forge(0, 1), 1);
        due("forge by 7, not by 0", least.forge(1, 1), 0);
    }

    private static void copyists() {
        KnotRope x = told(GORGE);
        String two = HEAD + KNOT + KNOT;
        KnotRope y = told(two + "rope 0 to 1 bears 1 of 0 0 1;rope 0 to 1 bears 1 of 0 0 1;rope 0 to 1 bears 1 of 0 1;rope 0 to 1 bears 1 of 1 1 0 0;rope 0 to 1 bears 1 of 0 0 0;");
        promise = "24";
        due("overlap(0, 2)", x.overlap(0, 2), 2);
        due("overlap(2, 0)", x.overlap(2, 0), 1);
        due("overlap(0, 1)", x.overlap(0, 1), 0);
        due("overlap(0, 0)", x.overlap(0, 0), 1);
        due("overlap of like ones", y.overlap(0, 1), 3);
        due("overlap of itself", y.overlap(4, 4), 2);
        due("overlap with an end", y.overlap(0, 2), 2);
        due("overlap(3, 0)", x.overlap(3, 0), -2);
        due("overlap(0, 3)", x.overlap(0, 3), -2);
        due("overlap(-1, 0)", x.overlap(-1, 0), -2);

        promise = "25";
        due("all()", x.all(), 8);
        // 1 1 0 0 over 0 0 0 by two, over 0 0 1 by two: 1 1 0 0 0 1
        due("all() with parts", y.all(), 6);
        due("all() of none", told(HEAD).all(), 0);
        due("all() without gorge", new KnotRope().all(), -2);

        promise = "26";
        due("order(0)", x.order(0), 0);
        due("order(1)", x.order(1), 2);
        due("order(2)", x.order(2), 1);
        due("order(3)", x.order(3), -1);
        due("order(-1)", x.order(-1), -1);
        int[] order = {3, 4, 0, -1};
        for (int i = 0; i < 4; i++) due("order(" + i + ") with parts", y.order(i), order[i]);
        due("order(0) of none", told(HEAD).order(0), -1);
        due("order(0) without gorge", new KnotRope().order(0), -2);

        promise = "27";
        due("part(0, 2)", y.part(0, 2), 1);
        due("part(0, 1)", y.part(0, 1), 0);
        due("part(2, 0)", y.part(2, 0), -1);
        due("part(4, 4)", y.part(4, 4), 0);
        due("part(0, 5)", y.part(0, 5), -2);
        due("part(-1, 0)", y.part(-1, 0), -2);

        promise = "28";
        due("errors(0, 2)", x.errors(0, 2), 2);
        due("errors(2, 0)", x.errors(2, 0), 2);
        due("errors(0, 1)", x.errors(0, 1), 2);
        due("errors(0, 0)", x.errors(0, 0), 0);
        due("errors, one left out", y.errors(0, 2), 1);
        due("errors, both ends", y.errors(3, 0), 3);
        due("errors(0, 3)", x.errors(0, 3), -2);
        due("errors(-1, 0)", x.errors(-1, 0), -2);

        promise = "29";
        due("common(0, 2)", x.common(0, 2), 2);
        due("common(0, 1)", x.common(0, 1), 1);
        due("common(1, 1)", x.common(1, 1), 3);
        due("common with others between", y.common(3, 4), 2);
        due("common(0, 3)", x.common(0, 3), -2);
        due("common(-1, 0)", x.common(-1, 0), -2);
    }

    private static void touched() {
        KnotRope x = told(GORGE);
        KnotRope y = told(HEAD + KNOT + KNOT + "rope 0 to 1 bears 1 of 0 0;rope 0 to 1 bears 1 of 0 1;rope 0 to 1 bears 1 of 0 0 0;rope 0 to 1 bears 1 of 0 1;");
        promise = "30";
        due("which(7)", x.which(7), 1);
        due("which(1)", x.which(1), 0);
        due("which by the next", y.which(7), 2);
        due("which by the end", y.which(5), 1);
        due("which of like ones", y.which(10), -1);
        due("which with like ones", y.which(15), -1);
        due("which(0)", x.which(0), -2);
        due("which(8)", x.which(8), -2);
        due("which(-1)", x.which(-1), -2);
        due("which without ropes", told(HEAD).which(1), -2);
        due("which without gorge", new KnotRope().which(1), -2);
        // six are told by three: which place is next depends on what was felt
        KnotRope z = told(HEAD + KNOT + KNOT + "rope 0 to 1 bears 1 of 0 0 0 0;rope 0 to 1 bears 1 of 0 0 0 1;rope 0 to 1 bears 1 of 1 0 0 0;rope 0 to 1 bears 1 of 1 1 0 0;");
        due("which of four", z.which(15), 2);

        promise = "31";
        due("feels(7)", x.feels(7), 0);
        due("feels(1)", x.feels(1), -1);
        due("feels, the first place", y.feels(7), 1);
        due("feels by the end", y.feels(5), 2);
        due("feels of like ones", y.feels(10), -1);
        due("feels of four", z.feels(15), 0);
        due("feels(0)", x.feels(0), -2);
        due("feels(8)", x.feels(8), -2);
        due("feels without gorge", new KnotRope().feels(1), -2);
    }

    private static void ways() {
        KnotRope x = told(GORGE);
        promise = "32";
        due("way(0, 0, 2)", x.way(0, 0, 2), 32);
        due("way(1, 0, 2)", x.way(1, 0, 2), 55);
        due("way(1, 2, 0)", x.way(1, 2, 0), 55);
        due("way(0, 1, 1)", x.way(0, 1, 1), 0);
        due("way(3, 0, 1)", x.way(3, 0, 1), -2);
        due("way(0, 3, 1)", x.way(0, 3, 1), -2);
        due("way(0, 0, 3)", x.way(0, 0, 3), -2);
        due("way(0, -1, 0)", x.way(0, -1, 0), -2);
        KnotRope two = told("gorge places 4 wear 50 odds 0;" + KNOT + "rope 1 to 0 bears 100 of 0;rope 0 to 1 bears 100 of 0;rope 1 to 2 bears 100 of 0;rope 0 to 2 bears 100 of 0 0;person weighs 60 pace 3 at 0;person weighs 101 pace 1 at 0;");
        due("way to nowhere", two.way(0, 0, 3), -1);
        due("way too heavy", two.way(1, 0, 1), -1);
        due("way too heavy, but there", two.way(1, 3, 3), 0);

        promise = "33";
        due("by(0, 0, 2, 0)", x.by(0, 0, 2, 0), 0);
        due("by(0, 0, 2, 1)", x.by(0, 0, 2, 1), 1);
        due("by(0, 0, 2, 2)", x.by(0, 0, 2, 2), -1);
        due("by(0, 2, 0, 0)", x.by(0, 2, 0, 0), 1);
        due("by(1, 0, 2, 0)", x.by(1, 0, 2, 0), 2);
        due("by(0, 1, 1, 0)", x.by(0, 1, 1, 0), -1);
        due("by(0, 0, 2, -1)", x.by(0, 0, 2, -1), -1);
        due("by(3, 0, 2, 0)", x.by(3, 0, 2, 0), -2);
        due("by(0, 0, 3, 0)", x.by(0, 0, 3, 0), -2);
        due("by, the least row", two.by(0, 0, 1, 0), 0);
        due("by to nowhere", two.by(0, 0, 3, 0), -1);

        promise = "34";
        due("learns(0, 0, 2, 7)", x.learns(0, 0, 2, 7), 32);
        due("learns(0, 0, 2, 13)", x.learns(0, 0, 2, 13), -1);
        due("learns(1, 0, 2, 13)", x.learns(1, 0, 2, 13), 55);
        due("learns(1, 2, 0, 8)", x.learns(1, 2, 0, 8), 55);
        due("learns(1, 2, 0, 13)", x.learns(1, 2, 0, 13), 165);
        due("learns(1, 0, 0, 8)", x.learns(1, 0, 0, 8), 110);
        due("learns(0, 1, 1, 12)", x.learns(0, 1, 1, 12), 36);
        due("learns(0, 0, 2, 2400)", x.learns(0, 0, 2, 2400), -1);
        due("learns(0, 0, 2, 2401)", x.learns(0, 0, 2, 2401), -2);
        due("learns(0, 0, 2, -1)", x.learns(0, 0, 2, -1), -2);
        due("learns(3, 0, 2, 7)", x.learns(3, 0, 2, 7), -2);
        due("learns(0, 3, 2, 7)", x.learns(0, 3, 2, 7), -2);

        promise = "35";
        due("keys(0, 0, 2)", x.keys(0, 0, 2), 3);
        due("keys(1, 0, 2)", x.keys(1, 0, 2), 0);
        due("keys(0, 1, 1)", x.keys(0, 1, 1), 0);
        due("keys to nowhere", two.keys(0, 0, 3), 0);
        due("keys(3, 0, 2)", x.keys(3, 0, 2), -2);
        due("keys(0, 0, 3)", x.keys(0, 0, 3), -2);
        due("keys(0, -1, 0)", x.keys(0, -1, 0), -2);
    }

    private static void ferries() {
        KnotRope x = told(GORGE);
        KnotRope y = told(HEAD + KNOT + "rope 0 to 1 bears 11 of 0 0 0;person weighs 5 pace 9 at 0;person weighs 5 pace 9 at 1;person weighs 6 pace 1 at 0;person weighs 6 pace 1 at 0;");
        KnotRope none = told(HEAD + KNOT + "rope 0 to 1 bears 1 of 0;");
        promise = "36";
        due("ferry(0)", x.ferry(0), 54);
        due("ferry(1)", x.ferry(1), 56);
        due("ferry(2)", x.ferry(2), -1);
        due("ferry(3)", x.ferry(3), -2);
        due("ferry by more groups", y.ferry(0), 55);
        due("ferry of none", none.ferry(0), 0);

        promise = "37";
        due("groups(0)", x.groups(0), 2);
        due("groups(1)", x.groups(1), 3);
        due("groups(2)", x.groups(2), -1);
        due("groups(3)", x.groups(3), -2);
        due("groups, not by the least time", y.groups(0), 2);
        due("groups of none", none.groups(0), 0);

        promise = "38";
        due("group(0)", x.group(0), 3);
        due("group(1)", x.group(1), 1);
        due("group(2)", x.group(2), -1);
        due("group(3)", x.group(3), -2);
        due("group by the least time", y.group(0), 3);
        due("group of none", none.group(0), -1);
        KnotRope least = told(HEAD + KNOT + "rope 0 to 1 bears 9 of 0;person weighs 5 pace 4 at 0;person weighs 4 pace 1 at 1;person weighs 4 pace 1 at 0;");
        due("ferry", least.ferry(0), 5);
        due("the least set", least.group(0), 1);

        promise = "39";
        due("lasts(0, 60)", x.lasts(0, 60), 4);
        due("lasts(0, 61)", x.lasts(0, 61), 3);
        due("lasts(0, 90)", x.lasts(0, 90), 1);
        due("lasts(0, 91)", x.lasts(0, 91), 0);
        due("lasts(0, 1)", x.lasts(0, 1), 9);
        due("lasts for ever", y.lasts(0, 11), -1);
        due("lasts never", y.lasts(0, 12), 0);
        due("lasts(0, 0)", x.lasts(0, 0), -2);
        due("lasts(0, 1000)", x.lasts(0, 1000), -2);
        due("lasts(0, 999)", x.lasts(0, 999), 0);
        due("lasts(3, 1)", x.lasts(3, 1), -2);

        promise = "40";
        due("bears(0)", x.bears(0), 2);
        due("bears(1)", x.bears(1), 1);
        due("bears(3)", x.bears(3), -2);
        due("bears of y", y.bears(0), 2);
        due("bears of none", none.bears(0), 0);
        due("bears(-1)", x.bears(-1), -2);
    }

    private static void acts() {
        KnotRope x = told(GORGE);
        promise = "41";
        due("cross(0, 1)", x.cross(0, 1), -5);
        due("cross(0, 2), too heavy", x.cross(0, 2), -5);
        due("cross(0, 0)", x.cross(0, 0), 1);
        due("person(0, 2)", x.person(0, 2), 1);
        due("rope(0, 6)", x.rope(0, 6), 1);
        due("rope(0, 5)", x.rope(0, 5), 80);
        due("cross(0, 1)", x.cross(0, 1), 2);
        due("cross(0, 1) worn", x.cross(0, 1), -5);
        due("cross(1, 0)", x.cross(1, 0), 0);
        due("cross(3, 0)", x.cross(3, 0), -2);
        due("cross(0, 3)", x.cross(0, 3), -2);
        due("cross(-1, 0)", x.cross(-1, 0), -2);
        due("count(8)", x.count(8), 3);
        due("way, worn", x.way(0, 2, 0), -1);

        promise = "42";
        due("tie(1, 1, 0)", x.tie(1, 1, 0), 1);
        due("reads(1, 0)", x.reads(1, 0), 1);
        due("tie(1, 1, 0)", x.tie(1, 1, 0), 0);
        due("count(8)", x.count(8), 5);
        due("tie(1, 3, 0)", x.tie(1, 3, 0), -2);
        due("tie(1, -1, 0)", x.tie(1, -1, 0), -2);
        due("tie(1, 0, 3)", x.tie(1, 0, 3), -2);
        due("tie(1, 0, -1)", x.tie(1, 0, -1), -2);
        due("tie(3, 0, 0)", x.tie(3, 0, 0), -2);

        promise = "43";
        due("cut(2, 4)", x.cut(2, 4), -2);
        due("cut(2, 0)", x.cut(2, 0), -2);
        due("cut(3, 1)", x.cut(3, 1), -2);
        due("cut(2, 3)", x.cut(2, 3), 1);
        due("rope(2, 3)", x.rope(2, 3), 3);
        due("cut(2, 1)", x.cut(2, 1), 2);
        due("cut(2, 1)", x.cut(2, 1), -2);
        due("at(2, 1)", x.at(2, 1), -1);

        promise = "44";
        due("splice(2, 0)", x.splice(2, 0), 4);
        due("at(2, 1)", x.at(2, 1), 0);
        due("at(2, 2)", x.at(2, 2), 1);
        due("splice(2, 2)", x.splice(2, 2), 8);
        due("at(2, 6)", x.at(2, 6), 1);
        due("splice(2, 2)", x.splice(2, 2), 16);
        due("splice(2, 2)", x.splice(2, 2), -5);
        due("splice(0, 2)", x.splice(0, 2), 19);
        due("splice(3, 0)", x.splice(3, 0), -2);
        due("splice(0, 3)", x.splice(0, 3), -2);
        due("splice(-1, 0)", x.splice(-1, 0), -2);

        promise = "45";
        due("wet(1)", x.wet(1), 0);
        due("wet(1)", x.wet(1), 1);
        due("wet(0)", x.wet(0), 1);
        due("wet(2)", x.wet(2), -2);
        due("wet(-1)", x.wet(-1), -2);
        due("wet without gorge", new KnotRope().wet(0), -2);
        due("count(8)", x.count(8), 14);

        promise = "46";
        due("undo()", x.undo(), 13);
        due("count(7)", x.count(7), 1);
        due("undo()", x.undo(), 12);
        due("undo()", x.undo(), 11);
        due("count(7)", x.count(7), 0);
        due("undo()", x.undo(), 10);
        due("rope(0, 3)", x.rope(0, 3), 3);
        due("undo()", x.undo(), 9);
        due("undo()", x.undo(), 8);
        due("undo()", x.undo(), 7);
        due("rope(2, 3)", x.rope(2, 3), 1);
        due("undo()", x.undo(), 6);
        due("rope(2, 3)", x.rope(2, 3), 3);
        due("at(2, 2), which a splice lay over", x.at(2, 2), 2);
        due("undo()", x.undo(), 5);
        due("at(2, 3)", x.at(2, 3), 0);
        due("undo()", x.undo(), 4);
        due("at(1, 1)", x.at(1, 1), 0);
        due("undo()", x.undo(), 3);
        due("at(1, 1)", x.at(1, 1), 1);
        due("undo()", x.undo(), 2);
        due("person(1, 2)", x.person(1, 2), 1);
        due("rope(0, 6)", x.rope(0, 6), 1);
        due("undo()", x.undo(), 1);
        due("undo()", x.undo(), 0);
        due("person(0, 2)", x.person(0, 2), 0);
        due("undo()", x.undo(), -5);
        due("undo without gorge", new KnotRope().undo(), -2);

        promise = "47";
        x.wet(1);
        x.cross(0, 0);
        x.tie(0, 0, 2);
        due("anew()", x.anew(), 3);
        due("count(7)", x.count(7), 0);
        due("count(8)", x.count(8), 0);
        due("at(0, 0)", x.at(0, 0), 0);
        due("person(0, 2)", x.person(0, 2), 0);
        due("anew()", x.anew(), 0);
        due("undo()", x.undo(), -5);
        due("anew without gorge", new KnotRope().anew(), -2);

        fortyActs(x);
    }

    private static void fortyActs(KnotRope x) {
        for (int i = 0; i < 40; i++) due("wet " + i, x.wet(1), i == 0 ? 0 : 1);
        promise = "41";
        due("cross behind 40", x.cross(0, 0), -5);
        due("cross none", x.cross(9, 0), -2);
        promise = "42";
        due("tie behind 40", x.tie(0, 0, 0), -5);
        due("tie none", x.tie(0, 9, 0), -2);
        promise = "43";
        due("cut behind 40", x.cut(0, 1), -5);
        due("cut none", x.cut(0, 3), -2);
        promise = "44";
        due("splice behind 40", x.splice(0, 0), -5);
        due("splice none", x.splice(0, 9), -2);
        promise = "45";
        due("wet behind 40", x.wet(1), -5);
        due("wet none", x.wet(2), -2);
        promise = "46";
        due("undo behind 40", x.undo(), 39);
        due("one more", x.cross(0, 0), 1);
        due("no more", x.cross(0, 0), -5);
        promise = "47";
        due("anew behind 40", x.anew(), 40);
    }

    private static void copies() {
        KnotRope x = told(GORGE);
        promise = "48";
        // the draws from seed 1: 38, 58, 13, 15
        due("drawn(1, 0, 0)", x.drawn(1, 0, 0), 2);
        due("drawn(1, 0, 1)", x.drawn(1, 0, 1), 0);
        due("drawn(1, 0, 2)", x.drawn(1, 0, 2), -1);
        due("drawn(1, 2, 0)", x.drawn(1, 2, 0), 3);
        due("drawn(1, 2, 1)", x.drawn(1, 2, 1), 1);
        due("drawn(1, 2, 2)", x.drawn(1, 2, 2), 8);
        due("the rope stays", x.at(2, 0), 1);
        due("drawn(1, 2, 3)", x.drawn(1, 2, 3), -2);
        due("drawn(1, 2, -1)", x.drawn(1, 2, -1), -2);
        due("drawn(-1, 2, 0)", x.drawn(-1, 2, 0), -2);
        due("drawn(2000000001, 2, 0)", x.drawn(2000000001, 2, 0), -2);
        due("drawn(1, 3, 0)", x.drawn(1, 3, 0), -2);
        KnotRope at38 = told("gorge places 2 wear 0 odds 38;" + KNOT + KNOT + "word 0 means 1;rope 0 to 1 bears 1 of 0;");
        KnotRope at39 = told("gorge places 2 wear 0 odds 39;" + KNOT + KNOT + "word 0 means 1;word 1 means 6;rope 0 to 1 bears 1 of 0;rope 0 to 1 bears 1 of 1;");
        due("38 is not below 38", at38.drawn(1, 0, 0), 0);
        due("38 is below 39", at39.drawn(1, 0, 0), 1);
        due("the next kind", at39.drawn(1, 0, 2), 6);
        due("of the last one kind 0", at39.drawn(1, 1, 2), 1);
        KnotRope one = told("gorge places 2 wear 0 odds 100;" + KNOT + "word 0 means 1;rope 0 to 1 bears 1 of 0 0;");
        due("one kind alone is not changed", one.drawn(1, 0, 0), 0);
        due("and can be read", one.drawn(1, 0, 1), 1);

        promise = "49";
        due("winters(1, 2, 1)", x.winters(1, 2, 1), 1);
        due("winters(1, 0, 1)", x.winters(1, 0, 1), 0);
        for (int seed : new int[] {0, 7, 400000000, 1999999981}) {
            int count = 0;
            for (int i = 0; i < 20; i++) {
                if (x.drawn(seed + i, 2, 0) > 0 && x.drawn(seed + i, 2, 1) == 1) count++;
            }
            due("winters from " + seed, x.winters(seed, 2, 20), count);
        }
        due("winters unchanged", at38.winters(1, 0, 1), 0);
        due("winters of one kind", one.winters(1, 0, 20), 0);
        due("winters(2000000000, 2, 20)", x.winters(2000000000, 2, 20) >= 0 ? 1 : 0, 1);
        due("winters(1, 2, 0)", x.winters(1, 2, 0), -2);
        due("winters(1, 2, 21)", x.winters(1, 2, 21), -2);
        due("winters(-1, 2, 1)", x.winters(-1, 2, 1), -2);
        due("winters(2000000001, 2, 1)", x.winters(2000000001, 2, 1), -2);
        due("winters(1, 3, 1)", x.winters(1, 3, 1), -2);
    }

    private static void texts() {
        KnotRope x = told(GORGE);
        slot(x, 0, 0, 1, 0);
        slot(x, 1);
        slot(x, 2, 1, 1);
        promise = "50";
        due("text(0)", x.text(0), 2);
        due("text of nothing", x.text(1), 1);
        due("text(2)", x.text(2), 0);
        due("text(3)", x.text(3), -6);
        due("text(4)", x.text(4), -2);
        due("text(-1)", x.text(-1), -2);
        x.row(3, 1, 24);
        due("text of 24", x.text(3), 1);
        x.write(3, 23, 3);
        due("no kind", x.text(3), -2);
        x.write(3, 23, -1);
        due("no kind below 0", x.text(3), -2);
        x.write(3, 23, 65536);
        due("a kind when cut", x.text(3), 1);
        x.row(3, 3, 1);
        x.write(3, 0, 1L << 32);
        due("no kind of 8 bytes", x.text(3), -2);
        x.row(3, 2, 1);
        x.write(3, 0, 1L << 32);
        due("a kind of 4 bytes", x.text(3), 1);
        x.row(3, 0, 25);
        due("text of 25", x.text(3), -2);
        due("text without gorge", new KnotRope().text(0), -2);

        promise = "51";
        due("like(0)", x.like(0), 0);
        due("like(2)", x.like(2), 0);
        due("like of nothing", x.like(1), 0);
        slot(x, 2, 1, 2, 0);
        due("like the third", x.like(2), 2);
        due("like(3)", x.like(3), -2);
        due("like(4)", x.like(4), -2);
        due("like without gorge", new KnotRope().like(0), -2);
        KnotRope none = told(HEAD + KNOT);
        slot(none, 0, 0);
        due("like without ropes", none.like(0), -1);
        due("like without row", none.like(1), -6);

        promise = "52";
        slot(x, 2, 1, 0);
        due("found(2)", x.found(2), 5);
        due("found(0)", x.found(0), 1);
        due("found of nothing", x.found(1), 7);
        slot(x, 2, 1, 1);
        due("found nowhere", x.found(2), 0);
        due("found(3)", x.found(3), -2);
        due("found(4)", x.found(4), -2);
        due("found without ropes", none.found(0), 0);
        due("found without row", none.found(1), -6);
        due("found without gorge", new KnotRope().found(0), -2);

        promise = "53";
        due("mend(0)", x.mend(0), 0);
        due("mend(1)", x.mend(1), 0);
        due("mend(2)", x.mend(2), 1);
        due("mend(3)", x.mend(3), -2);
        due("mend(4)", x.mend(4), -2);
        due("mend without words", none.mend(0), -1);
        due("mend without row", none.mend(1), -6);
        due("mend without gorge", new KnotRope().mend(0), -2);
        KnotRope pairs = told(HEAD + KNOT + KNOT + "word 0 0 means 1;word 1 1 means 1;");
        slot(pairs, 0, 0, 0, 0);
        slot(pairs, 1, 1, 0, 0, 1);
        due("mend of three by pairs", pairs.mend(0), -1);
        due("mend of four by pairs", pairs.mend(1), 2);

        promise = "54";
        due("mended(2, 0)", x.mended(2, 0), 0);
        due("mended(2, 1)", x.mended(2, 1), 1);
        due("mended(2, 2)", x.mended(2, 2), -1);
        due("mended(2, -1)", x.mended(2, -1), -1);
        due("mended(1, 0)", x.mended(1, 0), -1);
        due("mended(0, 1)", x.mended(0, 1), 1);
        due("mended(3, 0)", x.mended(3, 0), -2);
        due("mended(4, 0)", x.mended(4, 0), -2);
        due("mended by no pairs", pairs.mended(0, 0), -1);
        for (int i = 0; i < 4; i++) due("mended by pairs " + i, pairs.mended(1, i), 0);
        due("mended without row", none.mended(1, 0), -6);
        due("mended without gorge", new KnotRope().mended(0, 0), -2);
        x.row(3, 0, 24);
        x.write(3, 0, 1);
        x.write(3, 1, 1);
        x.write(3, 23, 1);
        due("mend of 24", x.mend(3), 1);
        due("mended(3, 0)", x.mended(3, 0), 0);
        due("mended(3, 1)", x.mended(3, 1), 1);
        due("mended(3, 23)", x.mended(3, 23), 1);
        due("mended(3, 24)", x.mended(3, 24), -1);
        due("like of 24", x.like(3), 2);
        due("text of 24", x.text(3), 0);
        // the least row of knots is not the one of the least words
        KnotRope rows = told(HEAD + times(KNOT, 3) + "word 1 means 0;word 0 1 means 0;");
        slot(rows, 0, 2, 1);
        due("mend", rows.mend(0), 1);
        due("mended, least knots", rows.mended(0, 0), 0);
    }

    private static void countsAndImages() {
        KnotRope x = told(GORGE);
        promise = "55";
        x.wet(1);
        x.feed(0, 0, 0, 0, 0);
        x.row(0, 0, 0);
        x.row(2, 3, 60);
        int[] want = {3, 10, 50, 3, 4, 3, 3, 1, 1, 14, 20, 2, -1};
        for (int what = 0; what < 13; what++) due("count(" + what + ")", x.count(what), want[what]);
        due("count(-1)", x.count(-1), -1);

        promise = "56";
        due("image(0)", x.image(0), 0);
        due("image(3)", x.image(3), -2);
        due("image(-1)", x.image(-1), -2);
        due("image(2)", x.image(2), 0);

        promise = "57";
        due("back(3)", x.back(3), -2);
        due("back(-1)", x.back(-1), -2);
        due("back(1)", x.back(1), -6);
        x.cross(0, 0);
        x.tie(0, 0, 2);
        x.wet(0);
        due("back(0)", x.back(0), 0);
        due("count(7)", x.count(7), 1);
        due("count(8)", x.count(8), 1);
        due("at(0, 0)", x.at(0, 0), 0);
        due("person(0, 2)", x.person(0, 2), 0);
        due("rope(0, 6)", x.rope(0, 6), 0);
        due("the tape stays", x.count(10), 20);
        due("slots stay", x.count(11), 2);
        due("undo()", x.undo(), 0);
        due("count(7)", x.count(7), 0);
        due("another", tell(x, HEAD + KNOT + "word 0 means 3;"), 3);
        due("image(1)", x.image(1), 0);
        due("back(2)", x.back(2), 0);
        due("count(9)", x.count(9), 14);
        due("count(7)", x.count(7), 1);
        due("reads(2, 0)", x.reads(2, 0), 1);
        x.tie(2, 0, 2);
        due("back(0), untouched by that", x.back(0), 0);
        due("at(2, 0)", x.at(2, 0), 1);
        due("back(1)", x.back(1), 0);
        due("count(5)", x.count(5), 0);
        due("means(0)", x.means(0), 3);
        due("none", tell(x, ""), 0);
        due("image of none", x.image(1), 0);
        due("back(0)", x.back(0), 0);
        due("back to none", x.back(1), 0);
        due("all()", x.all(), -2);
    }

    private static void slots() {
        KnotRope x = told(HEAD + KNOT + KNOT + "word 0 1 means 1;word 1 1 0 means 1;");
        promise = "58";
        due("row(0, 0, 60)", x.row(0, 0, 60), 0);
        due("row(0, 0, 61)", x.row(0, 0, 61), -2);
        due("row(4, 0, 1)", x.row(4, 0, 1), -2);
        due("row(-1, 0, 1)", x.row(-1, 0, 1), -2);
        due("row(0, 4, 1)", x.row(0, 4, 1), -2);
        due("row(0, -1, 1)", x.row(0, -1, 1), -2);
        due("row(4, 0, -1)", x.row(4, 0, -1), -2);
        due("row(0, 0, 2)", x.row(0, 0, 2), 0);
        x.write(0, 1, 1);
        due("row(0, 0, -1)", x.row(0, 0, -1), -3);
        due("the slot stays", x.text(0), 1);
        due("row(1, 0, -1)", x.row(1, 0, -1), -3);
        due("it has nothing still", x.text(1), -6);
        due("row(0, 3, 2), all 0 again", x.row(0, 3, 2), 0);
        due("text(0)", x.text(0), 0);

        promise = "59";
        due("write(0, 1, 1)", x.write(0, 1, 1), 0);
        due("text(0)", x.text(0), 1);
        due("write(0, 2, 1)", x.write(0, 2, 1), -7);
        due("write(0, -1, 1)", x.write(0, -1, 1), -7);
        due("write(1, 0, 1)", x.write(1, 0, 1), -6);
        due("write(4, 0, 1)", x.write(4, 0, 1), -2);
        due("write(-1, 0, 1)", x.write(-1, 0, 1), -2);
        for (int width = 0; width < 4; width++) {
            x.row(0, width, 2);
            long high = width == 3 ? 0 : 1L << (8 << width);
            x.write(0, 0, high);
            x.write(0, 1, high + 1);
            due("cut to width " + width, x.text(0), 1);
            x.write(0, 1, (1L << ((8 << width) - 1)) + 1);
            due("not cut below width " + width, x.text(0), -2);
        }

        promise = "60";
        slot(x, 0, 0, 1, 1, 0);
        slot(x, 1, 0, 0, 0);
        due("paste(0, 1, 1, 0, 3)", x.paste(0, 1, 1, 0, 3), 0);
        due("text(1)", x.text(1), 1);
        due("paste to itself, as they were", x.paste(0, 0, 0, 1, 3), 0);
        slot(x, 2, 0, 0, 1, 1);
        due("mend as 0 0 1 1", x.mend(0), x.mend(2));
        slot(x, 0, 0, 1, 0, 1, 1);
        due("paste on", x.paste(0, 0, 0, 2, 3), 0);
        due("0 1 0 1 0", x.text(0), 0);
        due("cut it", x.paste(0, 1, 0, 0, 4), 0);
        due("1 0 1 0 0", x.text(0), 0);
        slot(x, 0, 1, 0, 1, 0, 1);
        due("paste back", x.paste(0, 1, 0, 0, 4), 0);
        due("0 1 0 1 1", x.text(0), 0);
        slot(x, 0, 0, 1, 0, 1);
        due("paste of none at the end", x.paste(0, 4, 1, 3, 0), 0);
        due("0 1 0 1", x.text(0), 1);
        due("paste(0, 1, 1, 0, 4)", x.paste(0, 1, 1, 0, 4), -7);
        due("paste(0, 0, 1, 1, 3)", x.paste(0, 0, 1, 1, 3), -7);
        due("paste(0, -1, 1, 0, 1)", x.paste(0, -1, 1, 0, 1), -7);
        due("paste(0, 0, 1, -1, 1)", x.paste(0, 0, 1, -1, 1), -7);
        due("paste(0, 0, 1, 0, -1)", x.paste(0, 0, 1, 0, -1), -7);
        due("paste around", x.paste(0, Integer.MAX_VALUE, 1, 0, Integer.MAX_VALUE), -7);
        due("nothing happened", x.text(0), 1);
        due("nothing happened", x.text(1), 1);
        due("paste(3, 0, 0, 0, 1)", x.paste(3, 0, 0, 0, 1), -6);
        due("paste(0, 0, 3, 0, 1)", x.paste(0, 0, 3, 0, 1), -6);
        due("paste(4, 0, 0, 0, 1)", x.paste(4, 0, 0, 0, 1), -2);
        due("paste(0, 0, -1, 0, 1)", x.paste(0, 0, -1, 0, 1), -2);
        due("paste(3, 0, 4, 0, 1)", x.paste(3, 0, 4, 0, 1), -2);
        x.row(3, 1, 4);
        due("paste(0, 0, 3, 0, 1)", x.paste(0, 0, 3, 0, 1), -8);
        due("paste(0, 9, 3, 0, 1)", x.paste(0, 9, 3, 0, 1), -8);
    }

    public static void main(String[] args) {
        newObject();
        tape();
        gorge();
        faults();
        told();
        readings();
        shortest();
        slipped();
        copyists();
        touched();
        ways();
        ferries();
        acts();
        copies();
        texts();
        countsAndImages();
        slots();
        System.out.println(wrong == 0 ? "all promises hold" : wrong + " answers are not as due");
        if (wrong != 0) System.exit(1);
    }
}
