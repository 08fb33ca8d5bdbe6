/** Boundary cases of THE TAPE and its TEXTS: promises 30 to 32. */
final class TapeBounds extends Bound {
    static void run() {
        bytes();
        feedRefused();
        wiped();
        oneOrMore();
        oneToTwoFigures();
        numbersOfEach();
        noBlanks();
        firstFault();
        endsTooEarly();
        everyFault();
        actRefused();
        wholeTextFirst();
        outOfRange();
        noDiscsToCut();
        emptyBehind();
        faultThenActs();
        longestTexts();
    }

    private static void bytes() {
        sentence("THE TAPE holds 0 .. 80 bytes 32 .. 126.", 30, 44);
        WhirlShafts x = bare();
        due(x.count(7), 0);
        due(x.feed(31), BAD);
        due(x.feed(127), BAD);
        due(x.count(7), 0);
        for (int i = 1; i <= 80; i++) {
            due(x.feed(i == 1 ? 32 : i == 2 ? 126 : 'x'), i);
            due(x.count(7), i);
        }
        due(x.feed('x'), FULL);
        due(x.count(7), 80);
        for (int letter = 32; letter <= 126; letter++) due(bare().feed(letter), 1);
    }

    private static void feedRefused() {
        sentence("A byte comes behind THE TAPE's: how many it has. BAD; FULL: it has 80.", 30);
        int[] wrongBytes = {31, 127, 0, -1, 128, 255, 256 + 'x', MIN, MAX};
        for (int letter : wrongBytes) {
            bad(Bound::rich, x -> x.feed(letter));
            bad(Bound::crowded, x -> x.feed(letter));
        }
        refused(Bound::crowded, FULL, x -> x.feed(32));
        refused(Bound::crowded, FULL, x -> x.feed('1'));
        refused(Bound::crowded, FULL, x -> x.feed(126));
        due(rich().feed(126), 5);
        WhirlShafts x = crowded();
        due(x.wipe(), 80);
        due(x.feed('x'), 1);                  // there is room again
        WhirlShafts y = crowded();
        due(y.read(), 27);
        due(y.feed('x'), 1);
    }

    private static void wiped() {
        sentence("THE TAPE is empty: how many it had.", 31);
        due(bare().wipe(), 0);
        unchanged(Bound::bare, WhirlShafts::wipe);
        WhirlShafts x = crowded();
        due(x.wipe(), 80);
        due(x.count(7), 0);
        due(x.wipe(), 0);
        due(x.read(), -100);                  // nothing of it is read
        WhirlShafts y = rich();
        due(y.wipe(), 4);
        due(read(y, "n7"), 1);                // what comes stands first
        due(y.count(1), 7);
        due(y.count(2), AFT);
    }

    private static void oneOrMore() {
        sentence("A TEXT: ACTS, one or more, parted by ;", 32);
        due(bare().read(), -100);             // none is too few
        due(read(bare(), ";"), -100);
        due(read(bare(), "n1"), 1);
        due(read(bare(), "n1;"), -103);
        due(read(bare(), ";n1"), -100);
        due(read(bare(), "n1;w1"), 2);
        due(read(bare(), "n1;;w1"), -103);
        due(read(bare(), "n1,w1"), -102);
        due(read(bare(), "n1w1"), -102);
        due(read(bare(), "n1;w1;n2"), 3);
    }

    private static void oneToTwoFigures() {
        sentence("a letter, then numbers of 1 to 2 figures with a comma between", 32);
        due(read(bare(), "n"), -101);         // no figure
        due(read(bare(), "n;"), -101);
        due(read(bare(), "n7"), 1);
        due(read(bare(), "n07"), 1);
        due(read(bare(), "n007"), -103);
        due(read(bare(), "n00"), 1);
        due(read(bare(), "d0,5,0"), 1);
        due(read(bare(), "d00,05,00"), 1);
        due(read(bare(), "d,5,0"), -101);
        due(read(bare(), "d0,,0"), -103);
        due(read(bare(), "d0,5,"), -105);
        due(read(bare(), "d0;5,0"), -102);
        due(read(bare(), "d0,5;0"), -104);
        due(read(bare(), "d0,5,0,"), -106);
        due(read(bare(), "d000,5,0"), -103);
        due(read(bare(), "d0,005,0"), -105);
        due(read(bare(), "d0,5,000"), -107);
        WhirlShafts x = bare();
        due(read(x, "d4,99,0;d01,09,99;b1,99;n09"), 4);
        due(x.of(MASS, 0), 99);
        due(x.of(MASS, 1), 9);
        due(x.of(6, 1), RIM);
        due(x.of(STIFF, 0), 99);
        due(x.of(BEARING, 1), 99);
        due(x.count(1), 9);
    }

    private static void numbersOfEach() {
        sentence("d KIND, MASS, STIFF (a DISC more); i DISC, MASS; k SHAFT, STIFF; b DISC, BEARING; g SHAFT, RATIO; n SPIN; w WAY; "
            + "x (the last DISC goes; no number).", 32);
        String letters = "dikbgnwx";
        int[] wanted = {3, 2, 2, 2, 2, 1, 1, 0};
        for (int i = 0; i < letters.length(); i++) {
            for (int numbers = 0; numbers <= 4; numbers++) {
                StringBuilder text = new StringBuilder().append(letters.charAt(i));
                for (int n = 0; n < numbers; n++) text.append(n == 0 ? "" : ",").append("1");
                WhirlShafts x = like(3, 5, 9);
                int fault = numbers < wanted[i] ? -100 - text.length() : wanted[i] == 0 ? -101 : -100 - 2 * wanted[i];
                due(read(x, text.toString()), numbers == wanted[i] ? 1 : fault);
            }
        }
        for (int letter = 32; letter <= 126; letter++) {
            int first = letter;
            WhirlShafts x = like(3, 5, 9);
            x.feed(first);
            int at = letters.indexOf(letter);
            due(x.read(), at < 0 ? -100 : wanted[at] == 0 ? 1 : -101);
        }
        WhirlShafts x = bare();
        due(read(x, "d0,10,0;d1,20,30;d2,40,50;i0,11;k1,51;b2,12;g0,2;n3;w2;x;x"), 11);
        due(x.count(0), 1);
        due(x.of(MASS, 0), 11);
        due(x.count(1), 3);
        due(x.count(2), 2);
    }

    private static void noBlanks() {
        sentence("No blanks.", 32);
        String[] texts = {" x", "x ", "x ;x", "x; x", "n 1", "n1 ", "i1 ,2", "i1, 2", "i1,2 "};
        int[] at = {0, 1, 1, 2, 1, 2, 2, 3, 4};
        for (int i = 0; i < texts.length; i++) {
            WhirlShafts x = like(3, 5, 9);
            due(read(x, texts[i]), -100 - at[i]);
            due(x.count(0), 3);
        }
    }

    private static void firstFault() {
        sentence("FAULT: the first byte with which no such text goes on (a third figure, too), or the length, if it ends too "
            + "early: -100 less it.", 32);
        String[] texts = {"?", "X", "D0,5,0", "x?", "x1", "x,", "xx", "n?", "n-1", "n1?", "n12?", "n123", "i1?", "i1,?", "i1,2?",
            "i1,23?", "i123", "i1,234", "i12;", "d1,2;", "d1,2,3?", "n1;?", "n1;n", "n1;n1;n123;?", "x;x;y", "n1:", "n1.5"};
        int[] at = {0, 0, 0, 1, 1, 1, 1, 1, 1, 2, 3, 3, 2, 3, 4,
            5, 3, 5, 3, 4, 6, 3, 4, 9, 4, 2, 2};
        for (int i = 0; i < texts.length; i++) {
            String text = texts[i];
            WhirlShafts x = rich();
            x.wipe();
            due(read(x, text), -100 - at[i]);
            refused(TapeBounds::wipedRich, -100 - at[i], y -> read(y, text));
        }
    }

    /** rich() with an empty TAPE: behind a FAULT it is empty again. */
    private static WhirlShafts wipedRich() {
        WhirlShafts x = rich();
        x.wipe();
        return x;
    }

    private static void endsTooEarly() {
        sentence("or the length, if it ends too early: -100 less it.", 32);
        String whole = "d0,5,0;d1,22,33;i1,7;k0,44;b1,8;g0,6;n9;w2;x";
        int[] goodEnds = {6, 14, 15, 20, 25, 26, 31, 36, 39, 42, 44};
        for (int length = 0; length <= whole.length(); length++) {
            boolean ends = false;
            for (int good : goodEnds) ends |= good == length;
            WhirlShafts x = bare();
            int acts = length == 0 ? 0 : whole.substring(0, length).split(";", -1).length;
            due(read(x, whole.substring(0, length)), ends ? acts : -100 - length);
            due(x.count(7), 0);
        }
    }

    /** Each byte of a text in turn becomes each byte that there is: read as the document's grammar says, by the model. */
    private static void everyFault() {
        sentence("FAULT: the first byte with which no such text goes on", 32);
        String whole = "d1,22,3;i0,4;n5;x";
        for (int at = 0; at < whole.length(); at++) {
            for (int letter = 32; letter <= 126; letter++) {
                String text = whole.substring(0, at) + (char) letter + whole.substring(at + 1);
                WhirlShafts x = bare();
                Model m = new Model(true);
                for (int i = 0; i < text.length(); i++) m.feed(text.charAt(i));
                due(read(x, text), m.read());
                due(x.count(0), m.count(0));
                due(x.count(1), m.count(1));
                due(x.of(MASS, 0), m.of(MASS, 0));
            }
        }
    }

    private static void actRefused() {
        sentence("An ACT refused (as the call would be): -200 less the number of ACTS ahead of it: those ahead are done, those "
            + "behind are not.", 32);
        String[] refusals = {"d5,1,1", "d0,0,1", "d0,1,0", "i3,5", "i0,0", "k2,5", "k0,0", "b3,5", "g2,1", "g0,0", "g0,7", "n10",
            "w3"};
        for (String refusal : refusals) {
            refused(TapeBounds::wipedRich, -200, x -> read(x, refusal));
            WhirlShafts x = rich();
            x.wipe();
            due(read(x, "n8;" + refusal + ";w1"), -201);
            due(x.count(1), 8);
            due(x.count(2), AFT);
            due(read(x, "n1;n2;n3;" + refusal), -203);
            due(x.count(1), 3);
            due(read(x, refusal + ";n4"), -200);
            due(x.count(1), 3);
        }
        WhirlShafts full = like(7, 5, 9);
        due(read(full, "d0,5,9;d0,5,9;n5"), -201);        // FULL
        due(full.count(0), 8);
        due(full.count(1), 0);
        due(read(full, "d0,5,0"), -200);
        WhirlShafts state = like(3, 5, 9);
        due(read(state, "g0,3;g1,3;g0,1"), -201);         // STATE
        due(state.of(RATIO, 0), 3);
        due(state.of(RATIO, 1), 1);
        due(read(state, "g1,2;g0,4"), -201);
        due(state.count(3), 6);
        WhirlShafts first = bare();
        due(read(first, "d0,5,0;d0,5,0"), -201);          // of the first DISC stiff does not matter
        due(first.count(0), 1);
        due(read(first, "x;d0,5,0"), 2);
    }

    private static void wholeTextFirst() {
        sentence("The whole text is looked at for a FAULT ahead of the first ACT; a number out of its range is refused, no FAULT.", 32);
        WhirlShafts x = like(3, 5, 9);
        due(read(x, "n5;x;i0,9;?"), -110);
        due(x.count(0), 3);
        due(x.count(1), 0);
        due(x.of(MASS, 0), 5);
        due(read(x, "n5;x;i0,9;"), -110);
        due(x.count(0), 3);
        due(read(x, "n5;n10;?"), -107);       // the FAULT, not the ACT that would be refused
        due(x.count(1), 0);
        due(read(x, "n10;n"), -105);
        due(read(x, "n10"), -200);
        due(x.count(5), 0);
    }

    private static void outOfRange() {
        sentence("a number out of its range is refused, no FAULT.", 32);
        String[] inside = {"d0,1,1", "d4,99,99", "i0,1", "i2,99", "k0,1", "k1,99", "b0,0", "b2,99", "g0,1", "g1,6", "n0", "n9", "w0",
            "w2"};
        for (String text : inside) due(read(like(3, 5, 9), text), 1);
        String[] outside = {"d5,1,1", "d99,1,1", "d0,0,1", "d0,1,0", "i0,0", "i3,1", "i99,1", "k0,0", "k2,1", "k99,1", "b3,0", "b99,0",
            "g0,0", "g0,7", "g0,99", "g2,1", "n10", "n99", "w3", "w99"};
        for (String text : outside) due(read(like(3, 5, 9), text), -200);
    }

    private static void noDiscsToCut() {
        sentence("x of no DISCS is refused.", 32);
        due(read(bare(), "x"), -200);
        due(read(single(5, 5), "x"), 1);
        due(read(single(5, 5), "x;x"), -201);
        due(read(like(8, 5, 9), "x;x;x;x;x;x;x;x"), 8);
        due(read(like(8, 5, 9), "x;x;x;x;x;x;x;x;x"), -208);
        due(read(bare(), "d0,5,0;x;x;d0,5,0"), -202);
        refused(TapeBounds::emptiedWiped, -200, x -> read(x, "x"));
    }

    private static WhirlShafts emptiedWiped() {
        WhirlShafts x = emptied();
        x.wipe();
        return x;
    }

    private static void emptyBehind() {
        sentence("THE TAPE is empty behind each call that reads it, by a FAULT and by all that is refused behind its text, too.", 32);
        String[] texts = {"", "n5", "n5;w1", "?", "n5;", "n555", "n10", "n5;n10;n6", "x;x;x;x;x"};
        int[] answers = {-100, 1, 2, -100, -103, -103, -200, -201, -203};
        for (int i = 0; i < texts.length; i++) {
            WhirlShafts x = like(3, 5, 9);
            due(read(x, texts[i]), answers[i]);
            due(x.count(7), 0);
            due(x.wipe(), 0);
            due(x.read(), -100);
            due(x.feed('w'), 1);
            due(x.feed('2'), 2);
            due(x.read(), 1);
            due(x.count(2), 2);
        }
    }

    private static void faultThenActs() {
        sentence("read(): FAULT, then -200 less the ACTS.", 32);
        due(read(bare(), "x;x?"), -103);      // a FAULT behind an ACT that would be refused
        due(read(bare(), "x;"), -102);
        due(read(bare(), "x;x"), -200);
        due(read(bare(), "n10;n123"), -107);
        due(read(bare(), "n10;n12"), -200);
        sentence("THE TAPE is a TEXT: how many ACTS were done; -100 less the FAULT; -200 less the number of ACTS ahead of one that "
            + "is refused.", 32);
        due(read(bare(), "n1"), 1);
        due(read(bare(), "n1;n1"), 2);        // what is so already is done, too
        due(read(bare(), "n0"), 1);
        due(read(bare(), "n1;n1;n10"), -202);
    }

    private static void longestTexts() {
        sentence("THE TAPE holds 0 .. 80 bytes", 30, 32);
        StringBuilder spins = new StringBuilder();
        for (int i = 0; i < 27; i++) spins.append('n').append(i % 10).append(';');
        WhirlShafts x = bare();
        due(read(x, spins.substring(0, 80)), 27);
        due(x.count(1), 6);
        due(read(bare(), spins.substring(0, 79)), -179);
        due(read(bare(), spins.substring(0, 78)), -178);
        due(read(bare(), spins.substring(0, 77)), 26);
        StringBuilder cuts = new StringBuilder();
        for (int i = 0; i < 40; i++) cuts.append("x;");
        due(read(bare(), cuts.toString()), -180);         // ends too early at 80
        due(read(bare(), cuts.substring(0, 79)), -200);
        StringBuilder many = new StringBuilder("d0,5,0;");
        while (many.length() < 80) many.append("i0,5;");
        due(read(bare(), many.substring(0, 76)), 1 + 14);
    }
}
