/** The bounds of THE TAPE and of the LINES (Terms 3), and of promises 11 to 13. */
final class LineBounds {
    private static final String BLANKS = " ".repeat(160);

    private LineBounds() {
    }

    /** One HAND that has one LINE, and a STATION. */
    private static Run withHand(String part, String sentence) {
        return new Run(part, sentence).make("station(0, 0, 900, 1)", "hand(0)").lines(0, "take 7;", 1);
    }

    /** A text that has no FAULT and n LINES. */
    private static void stands(String sentence, String text, int n) {
        Run r = withHand("Terms 3", sentence);
        r.lines(0, text, n).asks("fault(0)", 0).asks("fault(1)", -1).asks("count(11)", n).asks("count(6)", 0);
    }

    private static void fails(String sentence, String text, int kind, int place) {
        withHand("Terms 3", sentence).fault(0, text, kind, place).asks("count(11)", 1);
    }

    private static void terms3TapeAtMost() {
        Run r = withHand("Terms 3", "THE TAPE (160 bytes at most)").feed(BLANKS.substring(0, 152)).asks("count(6)", 152);
        r.make("feed(7, 2314885530818453536)").asks("count(6)", 159);
        r.refused("feed(2, 8224)", 2).refused("feed(8, 0)", 2).done("feed(1, 59)", 160);
        for (int n = 1; n <= 8; n++) {
            r.refused("feed(" + n + ", 32)", 2);
        }
        r.refused("feed(0, 32)", 1).refused("feed(9, 32)", 1).asks("count(6)", 160);
        r.make("hand(0)").asks("count(6)", 160);
        fails("THE TAPE (160 bytes at most)", BLANKS.substring(0, 159) + ";", 1, 159);
        fails("THE TAPE (160 bytes at most)", ";".repeat(160), 1, 0);
        fails("THE TAPE (160 bytes at most)", "take 1 when " + "(".repeat(148), 1, 18);
        stands("THE TAPE (160 bytes at most)", BLANKS.substring(0, 153) + "take 1;", 1);
        stands("THE TAPE (160 bytes at most)", "take 1;" + BLANKS.substring(0, 153), 1);
        stands("THE TAPE (160 bytes at most)", BLANKS, 0);
        fails("THE TAPE (160 bytes at most)", "take 1 when left=1" + " or left=1".repeat(14) + "  ", 1, 160);
        stands("THE TAPE (160 bytes at most)", "take 1 when left=1" + " or left=1".repeat(14) + " ;", 1);
    }

    private static void terms3Numbers() {
        String sentence = "NUMBERS (digits, 3 at most)";
        stands(sentence, "take 1;", 1);
        stands(sentence, "take 01;", 1);
        stands(sentence, "take 001;", 1);
        fails(sentence, "take 0001;", 1, 5);
        fails(sentence, "take 1000;", 1, 5);
        stands(sentence, "take 1 when depth<999;", 1);
        stands(sentence, "take 1 when depth<000;", 1);
        fails(sentence, "take 1 when depth<1000;", 1, 18);
        fails(sentence, "take 1 when depth<12345678901234567890;", 1, 18);
        fails(sentence, "take ;", 1, 5);
        fails(sentence, "take /;", 1, 5);
        fails(sentence, "take :;", 1, 5);
        fails(sentence, "take -1;", 1, 5);
        fails(sentence, "take 1:;", 1, 6);
        fails(sentence, "take 1/;", 1, 6);
        fails(sentence, "take 1 2;", 1, 7);
        fails(sentence, "take 100 0;", 1, 9);
        Run r = withHand("Terms 3", sentence).lines(0, "take 010 when depth=009 or left<09;", 1);
        r.make("cast(1, 0, 10)", "bottle(0, 10)", "bottle(0, 9)", "bottle(0, 8)", "does(0)");
        r.asks("count(3)", 1).asks("sample(0, 2)", 1).asks("sample(0, 3)", 10);
    }

    private static void terms3AsLongAsCanBe() {
        String sentence = "TOKENS, each as long as can be";
        stands(sentence, "take10;", 1);
        fails(sentence, "take1 0;", 1, 6);
        fails(sentence, "take 11;", 2, 5);
        fails(sentence, "take 1 when left<=10;", 1, 17);
        fails(sentence, "take 1 when left<10 0;", 1, 20);
        fails(sentence, "take 1 when left<1000;", 1, 17);
        holds(sentence, "left<10", false);
        holds(sentence, "left<11", true);
        holds(sentence, "left=010", true);
    }

    private static void terms3NumberTooLong() {
        String sentence = "a NUMBER too long";
        fails(sentence, "take 1111;", 1, 5);
        fails(sentence, "take 1;take 00010;", 1, 12);
        fails(sentence, "take 1 when hour= 0000;", 1, 18);
        stands(sentence, "take 1 when hour= 000;", 1);
        fails(sentence, "0000", 1, 0);
        fails(sentence, "1".repeat(160), 1, 0);
    }

    private static void terms3ThirteenthLine() {
        String sentence = "the 13th LINE";
        String twelve = "take 1 ; ".repeat(12);
        stands(sentence, twelve, 12);
        fails(sentence, twelve + "take 1;", 1, 108);
        fails(sentence, twelve + "  take", 1, 110);
        fails(sentence, "take 0 ; ".repeat(12) + "take 0;", 1, 108);
        fails(sentence, "take 0 ; ".repeat(12), 2, 5);
    }

    private static void terms3FourValues() {
        String sentence = "VALUE: station, depth, left, hour.";
        stands(sentence, "take 1 when station=1 or depth=1 or left=1 or hour=1;", 1);
        for (String none : new String[] {"minute", "stations", "statio", "spoil", "lef", "hours", "take", "when", "and", "or"}) {
            fails(sentence, "take 1 when " + none + "=1;", 1, 12);
        }
    }

    private static void terms3KeysAndLetters() {
        String sentence = "(Letters, a .. z, stand in one row as many as there are: that is a KEY or none.)";
        fails(sentence, "tak 1;", 1, 0);
        fails(sentence, "takes 1;", 1, 0);
        fails(sentence, "atake 1;", 1, 0);
        fails(sentence, "taketake 1;", 1, 0);
        fails(sentence, "Take 1;", 1, 0);
        fails(sentence, "takE 1;", 1, 0);
        fails(sentence, "take`1;", 1, 4);
        fails(sentence, "take{1;", 1, 4);
        fails(sentence, "take 1 whenleft=1;", 1, 7);
        fails(sentence, "take 1 when left=1 orleft=1;", 1, 19);
        fails(sentence, "take 1 when notleft=1;", 1, 12);
        fails(sentence, "take 1 when a=1;", 1, 12);
        fails(sentence, "take 1 when z=1;", 1, 12);
        stands(sentence, "take1when left=1and depth<2or hour=3;", 1);
        stands(sentence, "take 1 when not(left=1)and(hour<1)or(not depth=1);", 1);
    }

    /** Each KEY where it may stand, then with one letter of it another one, one too few and one too many. */
    private static void terms3EachLetterOfAKey() {
        String sentence = "KEYS take when and or not station depth left hour";
        String[] keys = {"take", "when", "and", "or", "not", "station", "depth", "left", "hour"};
        String[] heads = {"", "take 1 ", "take 1 when left=1 ", "take 1 when left=1 ", "take 1 when ", "take 1 when ", "take 1 when ",
            "take 1 when ", "take 1 when "};
        String[] behind = {" 1;", " left=1;", " left=1;", " left=1;", " left=1;", "=1;", "=1;", "=1;", "=1;"};
        for (int i = 0; i < keys.length; i++) {
            String key = keys[i];
            stands(sentence, heads[i] + key + behind[i], 1);
            for (int at = 0; at < key.length(); at++) {
                String other = key.substring(0, at) + "q" + key.substring(at + 1);
                fails(sentence, heads[i] + other + behind[i], 1, heads[i].length());
            }
            fails(sentence, heads[i] + key.substring(1) + behind[i], 1, heads[i].length());
            fails(sentence, heads[i] + key.substring(0, key.length() - 1) + behind[i], 1, heads[i].length());
            fails(sentence, heads[i] + key + "a" + behind[i], 1, heads[i].length());
            fails(sentence, heads[i] + key + "z" + behind[i], 1, heads[i].length());
            fails(sentence, heads[i] + key.toUpperCase() + behind[i], 1, heads[i].length());
        }
    }

    private static void terms3EachKeyInItsPlace() {
        String sentence = "KEYS take when and or not station depth left hour, SIGNS < = ( ) ; ;";
        String[] tokens = {"take", "when", "and", "or", "not", "station", "depth", "left", "hour", "<", "=", "(", ")", ";", "1"};
        String[] heads = {"", "take ", "take 1 ", "take 1 when ", "take 1 when left ", "take 1 when left = ",
            "take 1 when left = 1 ", "take 1 when ( ", "take 1 when ( left = 1 ", "take 1 when not ", "take 1 ; "};
        String[] next = {"take", "1", "when ;", "not station depth left hour (", "< =", "1", "and or ;",
            "not station depth left hour (", "and or )", "not station depth left hour (", "take"};
        for (int i = 0; i < heads.length; i++) {
            for (String token : tokens) {
                boolean may = (" " + next[i] + " ").contains(" " + token + " ");
                // What may stand is ended by a byte that may not; only then is the FAULT behind the token.
                String text = heads[i] + token + " !";
                fails(sentence, text, 1, may ? text.length() - 1 : heads[i].length());
            }
        }
    }

    private static void terms3Blanks() {
        String sentence = "blanks (32) may stand between, ahead and behind";
        stands(sentence, " take 1;", 1);
        stands(sentence, "take 1; ", 1);
        stands(sentence, "   take   1   when   (   left   <   1   )   ;   ", 1);
        stands(sentence, "take1;take1;", 2);
        stands(sentence, " ", 0);
        fails(sentence, "\u001ftake 1;", 1, 0);
        fails(sentence, "!take 1;", 1, 0);
        fails(sentence, "take\t1;", 1, 4);
        fails(sentence, "take 1;\n", 1, 7);
        fails(sentence, "take 1;\u0000", 1, 7);
        fails(sentence, "take\u00a01;", 1, 4);
        fails(sentence, "ta ke 1;", 1, 0);
        fails(sentence, "take 1 when left = 1 1;", 1, 21);
    }

    private static void terms3LinesTwelveAtMost() {
        String sentence = "LINES: none, or LINE { LINE } (12 at most)";
        stands(sentence, "", 0);
        for (int n : new int[] {1, 2, 11, 12}) {
            stands(sentence, "take 1;".repeat(n), n);
        }
        fails(sentence, "take 1;".repeat(13), 1, 84);
        fails(sentence, "take 1;".repeat(12) + " take", 1, 85);
        fails(sentence, "take 1;".repeat(12) + ";", 1, 84);
        fails(sentence, "take 1;".repeat(11) + "take 1", 1, 83);
        stands(sentence, "take 1;".repeat(12) + "  ", 12);
        Run r = new Run("Terms 3", sentence);
        for (int i = 0; i < 8; i++) {
            r.make("hand(0)").lines(i, "take 1;".repeat(12), 12).asks("count(11)", 12 * (i + 1));
        }
        r.lines(3, "", 0).asks("count(11)", 84).lines(3, "take 1;", 1).asks("count(11)", 85);
    }

    private static void terms3ALine() {
        String sentence = "LINE: take NUMBER, then perhaps when OR, then ; .";
        fails(sentence, "take 1", 1, 6);
        fails(sentence, "take 1;take 2", 1, 13);
        fails(sentence, "take 1 when;", 1, 11);
        fails(sentence, "take 1 left=1;", 1, 7);
        fails(sentence, "take 1 when left=1", 1, 18);
        fails(sentence, "take 1 when left=1 when left=1;", 1, 19);
        fails(sentence, "take 1;;", 1, 7);
        fails(sentence, "take take 1;", 1, 5);
        fails(sentence, "when left=1;", 1, 0);
        stands(sentence, "take 1 when left=1;take 2;", 2);
    }

    private static void terms3OrAndNot() {
        String sentence = "OR: AND { or AND }. AND: NOT { and NOT }. NOT: not NOT, ( OR ), or VALUE, then < or = , NUMBER.";
        fails(sentence, "take 1 when left=1 or;", 1, 21);
        fails(sentence, "take 1 when left=1 and;", 1, 22);
        fails(sentence, "take 1 when or left=1;", 1, 12);
        fails(sentence, "take 1 when and left=1;", 1, 12);
        fails(sentence, "take 1 when left=1 or or left=1;", 1, 22);
        fails(sentence, "take 1 when not;", 1, 15);
        fails(sentence, "take 1 when ();", 1, 13);
        fails(sentence, "take 1 when (left=1;", 1, 19);
        fails(sentence, "take 1 when left=1);", 1, 18);
        fails(sentence, "take 1 when ((left=1);", 1, 21);
        fails(sentence, "take 1 when left<=1;", 1, 17);
        fails(sentence, "take 1 when left>1;", 1, 16);
        fails(sentence, "take 1 when 1=left;", 1, 12);
        fails(sentence, "take 1 when left=left;", 1, 17);
        fails(sentence, "take 1 when left;", 1, 16);
        fails(sentence, "take 1 when left=1 not left=1;", 1, 19);
        // A BOTTLE at DEPTH 0 with 10 parts: left=10 holds and left=0 does not.
        String yes = "left=10";
        String no = "left=0";
        holds(sentence, yes, true);
        holds(sentence, no, false);
        holds(sentence, "not " + yes, false);
        holds(sentence, "not not " + yes, true);
        holds(sentence, yes + " or " + yes + " and " + no, true);
        holds(sentence, "(" + yes + " or " + yes + ") and " + no, false);
        holds(sentence, no + " and " + no + " or " + yes, true);
        holds(sentence, no + " and (" + no + " or " + yes + ")", false);
        holds(sentence, "not " + no + " and " + no, false);
        holds(sentence, "not (" + no + " and " + no + ")", true);
        holds(sentence, "not " + yes + " or " + yes, true);
        holds(sentence, "not (" + yes + " or " + yes + ")", false);
        holds(sentence, no + " or " + no + " or " + yes, true);
        holds(sentence, yes + " and " + yes + " and " + no, false);
        holds(sentence, "(" + no + " or (" + no + " or (" + no + " or (" + no + " or (" + no + " or " + yes + ")))))", true);
        holds(sentence, "(" + yes + " and (" + yes + " and (" + yes + " and (" + yes + " and (" + yes + " and " + no + ")))))", false);
    }

    private static void terms3AllOfThree() {
        String sentence = "OR: AND { or AND }. AND: NOT { and NOT }. NOT: not NOT, ( OR ), or VALUE";
        for (int bits = 0; bits < 8; bits++) {
            boolean a = (bits & 1) == 1;
            boolean b = (bits & 2) == 2;
            boolean c = (bits & 4) == 4;
            String x = a ? "left=10" : "left=0";
            String y = b ? "depth=0" : "depth=1";
            String z = c ? "hour<1" : "hour<0";
            holds(sentence, x + " or " + y + " and " + z, a || b && c);
            holds(sentence, x + " and " + y + " or " + z, a && b || c);
            holds(sentence, "(" + x + " or " + y + ") and " + z, (a || b) && c);
            holds(sentence, x + " and (" + y + " or " + z + ")", a && (b || c));
            holds(sentence, x + " or (" + y + " and " + z + ")", a || b && c);
            holds(sentence, x + " or " + y + " or " + z, a || b || c);
            holds(sentence, x + " and " + y + " and " + z, a && b && c);
            holds(sentence, "not " + x + " and not " + y + " or not " + z, !a && !b || !c);
            holds(sentence, "not (" + x + " or " + y + " and not " + z + ")", !(a || b && !c));
            holds(sentence, x + " and not (not " + y + " or " + z + ")", a && !(!b || c));
        }
    }

    /** The only SAMPLE of the first BOTTLE (DEPTH 0, shut at MINUTE 2) comes by the condition, or there is none. */
    private static void holds(String sentence, String condition, boolean is) {
        Run r = withHand("Terms 3", sentence).lines(0, "take 3 when " + condition + ";", 1);
        r.make("cast(1, 0, 1)", "bottle(0, 0)", "does(0)").asks("count(3)", is ? 1 : 0);
    }

    private static void terms3EndsTooEarly() {
        String sentence = "(the text's length if it ends too early";
        String whole = "take 1 when not ( left = 1 ) and hour < 2 or depth = 3 ;";
        for (int i = 1; i < whole.length(); i++) {
            if (whole.charAt(i) == ' ') {
                fails(sentence, whole.substring(0, i), 1, i);
                fails(sentence, whole.substring(0, i) + "  ", 1, i + 2);
            }
        }
        stands(sentence, whole, 1);
        fails(sentence, "t", 1, 0);
        fails(sentence, "take", 1, 4);
    }

    private static void terms3FirstThatCanNotStand() {
        String sentence = "1: the first byte of the first TOKEN that can't stand there";
        fails(sentence, ";", 1, 0);
        fails(sentence, "  when", 1, 2);
        fails(sentence, "take 1 1234 @", 1, 7);
        fails(sentence, "take 1 ; 1234", 1, 9);
        fails(sentence, "take 1 ; @ 1234", 1, 9);
        fails(sentence, "take x 1;", 1, 5);
        for (int b = 0; b < 256; b++) {
            boolean may = b == ' ' || b == '<' || b == '=';
            fails("also a byte or row of letters that is none", "take 1 when left" + (char) b + "!;",
                1, b >= 'a' && b <= 'z' ? 12 : may ? 17 : 16);
        }
    }

    private static void terms3SixOthers() {
        String sentence = "the first TOKEN of a NOT that lies in 6 others of these: not, ( and a VALUE each begin a NOT";
        String[] opening = {"not ", "( ", "not ( "};
        for (int n = 0; n <= 8; n++) {
            String nots = "not ".repeat(n);
            String opens = "( ".repeat(n);
            String closes = ") ".repeat(n);
            if (n <= 5) {
                stands(sentence, "take 1 when " + nots + "left=1;", 1);
                stands(sentence, "take 1 when " + opens + "left=1 " + closes + ";", 1);
                stands(sentence, "take 1 when " + opens + "left=1 or left=2 and left=3 " + closes + " and " + nots + "left=1;", 1);
            } else {
                fails(sentence, "take 1 when " + nots + "left=1;", 1, 12 + 24);
                fails(sentence, "take 1 when " + opens + "left=1 " + closes + ";", 1, 12 + 12);
            }
        }
        stands(sentence, "take 1 when " + opening[2].repeat(2) + "not left=1 ) ) ;", 1);
        stands(sentence, "take 1 when " + opening[2].repeat(2) + "( left=1 ) ) ) ;", 1);
        fails(sentence, "take 1 when " + opening[2].repeat(3) + "left=1 ) ) ) ;", 1, 12 + 18);
        fails(sentence, "take 1 when " + opening[2].repeat(3) + "not left=1 ) ) ) ;", 1, 12 + 18);
        fails(sentence, "take 1 when " + opening[2].repeat(3) + "( left=1 ) ) ) ) ;", 1, 12 + 18);
        fails(sentence, "take 1 when " + opening[0].repeat(6) + ";", 1, 12 + 24);
        fails(sentence, "take 1 when " + opening[1].repeat(6) + "1", 1, 12 + 12);
        fails(sentence, "take 1 when " + opening[1].repeat(6), 1, 12 + 12);
        fails(sentence, "take 1 when left=1 and ( ( ( ( ( left=1 and not left=1 ) ) ) ) ) ;", 1, 48);
        fails(sentence, "take 1 when ( ( ( ( ( left=1 or ( left=1 ) ) ) ) ) ) ;", 1, 34);
    }

    private static void terms3TakeOneToTen() {
        String sentence = "If there is none, 2: the first byte of the first NUMBER behind take that is 0 or above 10.";
        for (int n : new int[] {1, 2, 9, 10}) {
            stands(sentence, "take " + n + ";", 1);
        }
        for (String n : new String[] {"0", "00", "000", "11", "011", "12", "100", "999"}) {
            fails(sentence, "take " + n + ";", 2, 5);
        }
        fails(sentence, "take 10;take 11;", 2, 13);
        fails(sentence, "take 0;take 11;", 2, 5);
        fails(sentence, "take 1;take 11;take 0;", 2, 12);
        fails(sentence, "take 1;  take   0 when left=1;", 2, 16);
        stands(sentence, "take 1 when left=0 or left=11 or depth<999;", 1);
        fails(sentence, "take 1;".repeat(11) + "take 0;", 2, 82);
        fails(sentence, "take 0", 1, 6);
        fails(sentence, "take 0;x", 1, 7);
        fails(sentence, "take 11;take 1000;", 1, 13);
        fails(sentence, "take 0;".repeat(13), 1, 84);
        fails(sentence, "take 0 when not not not not not not left=1;", 1, 36);
    }

    private static void terms3FaultChangesNothing() {
        Run r = withHand("Terms 3", "A text with a FAULT changes nothing but THE TAPE.");
        r.make("hand(1)").lines(1, "take 2 when left=3;take 1;", 2).asks("fault(0)", 0);
        r.fault(1, "take 5;take 4;take", 1, 18).asks("count(11)", 3).fault(1, "take 5;take 4;take 0;", 2, 19).asks("count(11)", 3);
        r.fault(0, "take 5 when left<9;x", 1, 19).asks("count(11)", 3);
        r.make("cast(1, 0, 1)", "bottle(0, 0)", "does(0)").asks("count(3)", 2).asks("sample(0, 3)", 7).asks("sample(0, 9)", 0);
        r.asks("sample(1, 3)", 2).asks("sample(1, 9)", 0).asks("sample(1, 0)", 1);
        r.lines(1, "take 6;", 1).asks("fault(0)", 0).asks("fault(1)", -1);
        Run later = withHand("Terms 3", "A text with a FAULT changes nothing but THE TAPE.");
        later.fault(0, "take 1 when left=0;take 2 when left=1 and;", 1, 41).lines(0, "take 3;take 4;", 2);
        later.make("cast(1, 0, 1)", "bottle(0, 0)", "does(0)").asks("count(3)", 1).asks("sample(0, 3)", 3).asks("sample(0, 9)", 0);
        later.lines(0, "take 5 when left=0;", 1).lines(0, "take 6;", 1);
        later.make("cast(1, 0, 1)", "bottle(1, 0)", "does(1)").asks("count(3)", 2).asks("sample(1, 3)", 6).asks("sample(1, 9)", 0);
    }

    private static void holdsFor(String condition, int station, int castDepth, int depth, int rest, boolean is) {
        Run r = new Run("Terms 3", "A VALUE for a BOTTLE: station: its STATION's number; depth: its DEPTH; "
            + "left: the parts of its WATER that are left; hour: the MINUTE in which it was shut, by 60 (cut).");
        for (int i = 0; i <= station; i++) {
            r.make("station(0, 0, 900, 1)");
        }
        r.make("hand(3)", "hand(4)").lines(0, "take 1;", 1).lines(1, "take 2 when " + condition + ";", 1);
        for (int left = rest; left > 0; left -= 1000) {
            r.make("rest(" + Math.min(1000, left) + ")");
        }
        r.make("cast(1, " + station + ", " + castDepth + ")", "bottle(0, " + depth + ")", "does(0)").asks("count(3)", is ? 2 : 1);
    }

    private static void value(String value, int is, int station, int castDepth, int depth, int rest) {
        holdsFor(value + "=" + is, station, castDepth, depth, rest, true);
        holdsFor(value + "=" + (is + 1), station, castDepth, depth, rest, false);
        holdsFor(value + "<" + is, station, castDepth, depth, rest, false);
        holdsFor(value + "<" + (is + 1), station, castDepth, depth, rest, true);
        if (is > 0) {
            holdsFor(value + "=" + (is - 1), station, castDepth, depth, rest, false);
            holdsFor(value + "<" + (is - 1), station, castDepth, depth, rest, false);
        }
    }

    private static void terms3Values() {
        value("station", 0, 0, 1, 0, 0);
        value("station", 1, 1, 1, 0, 0);
        value("station", 7, 7, 1, 0, 0);
        value("depth", 0, 0, 1, 0, 0);
        value("depth", 1, 0, 1, 1, 0);
        value("depth", 900, 0, 900, 900, 0);
        value("left", 9, 0, 1, 0, 0);
        // Shut at the MINUTE of the rest and 1, for it is shut at the bottom of a CAST of DEPTH 1.
        value("hour", 0, 0, 1, 1, 0);
        value("hour", 0, 0, 1, 1, 58);
        value("hour", 1, 0, 1, 1, 59);
        value("hour", 1, 0, 1, 1, 118);
        value("hour", 2, 0, 1, 1, 119);
        value("hour", 199, 0, 1, 1, 11996);
        // The latest HOUR there can be: the CAST ends at MINUTE 12000.
        value("hour", 199, 0, 900, 900, 11968);
    }

    private static void terms3WithoutAlways() {
        Run r = withHand("Terms 3", "A LINE holds if what stands behind when does (without: always).");
        r.lines(0, "take 1 when left<10;take 2;take 3;", 3).make("cast(1, 0, 1)", "bottle(0, 0)", "does(0)");
        r.asks("count(3)", 1).asks("sample(0, 9)", 1).asks("sample(0, 3)", 2);
        Run none = withHand("Terms 3", "A LINE holds if what stands behind when does (without: always).");
        none.lines(0, "", 0).make("cast(1, 0, 1)", "bottle(0, 0)", "does(0)").asks("count(3)", 0).asks("bottleTold(0, 0, 3)", 10);
    }

    private static void promise11Feed() {
        Run r = new Run("Promise 11", "The n lowest bytes of a number, the lowest first, come behind THE TAPE: how many it has. "
            + "STATUS 1 (n is not 1 .. 8), 2.");
        r.refused("feed(0, 59)", 1).refused("feed(9, 59)", 1).refused("feed(-1, 59)", 1).refused("feed(MIN, 59)", 1).refused("feed(MAX, 59)", 1);
        r.make("hand(0)").done("feed(1, -140)", 1).done("feed(2, 27489)", 3).done("feed(5, 138432028773)", 8);
        r.asks("count(6)", 8).done("lines(0)", 1);
        // "take 1;" and a blank; of 8 bytes none is left out, of fewer the upper ones are.
        r.done("feed(8, 2322504048049873268)", 8).done("lines(0)", 1).done("feed(7, -8918480621866884748)", 7).done("lines(0)", 1);
        r.done("feed(8, -1)", 8).refusedTape("lines(0)", 1).asks("fault(0)", 1).asks("fault(1)", 0);
        for (int n = 1; n <= 8; n++) {
            Run fed = new Run("Promise 11", "STATUS 1 (n is not 1 .. 8), 2.").feed(BLANKS.substring(0, 160 - n));
            if (n < 8) {
                fed.refused("feed(" + (n + 1) + ", 0)", 2);
            }
            fed.done("feed(" + n + ", 0)", 160).refused("feed(1, 0)", 2).refused("feed(9, 0)", 1).refused("feed(0, 0)", 1);
        }
    }

    private static void promise12Lines() {
        Run r = new Run("Promise 12", "What is on THE TAPE is the text of a HAND's LINES; THE TAPE is empty then: how many LINES it has. "
            + "STATUS 1 (THE TAPE stays), 3 (a FAULT: its LINES stay as they were).");
        r.make("station(0, 0, 1, 1)", "hand(0)", "hand(0)").done("lines(0)", 0).lines(0, "take 1;take 2;", 2);
        r.asks("count(6)", 0).feed("take 3;").refused("lines(-1)", 1).refused("lines(2)", 1).refused("lines(MIN)", 1).refused("lines(MAX)", 1);
        r.asks("count(6)", 7).done("lines(1)", 1).asks("count(6)", 0).asks("count(11)", 3);
        r.feed("take").refused("lines(2)", 1).asks("count(6)", 4).asks("fault(0)", 0).asks("fault(1)", -1);
        r.refusedTape("lines(1)", 1).asks("count(6)", 0).asks("count(11)", 3).asks("fault(0)", 1).asks("fault(1)", 4);
        r.done("lines(1)", 0).asks("count(11)", 2);
    }

    private static void promise13Fault() {
        Run r = new Run("Promise 13", "Of the latest lines() that took THE TAPE: 0 its FAULT's kind (0: none, or ahead of any), "
            + "1 the place (-1). -1: another.");
        fault(r, 0, -1);
        r.make("hand(0)");
        r.fault(0, "x", 1, 0);
        fault(r, 1, 0);
        r.refused("lines(1)", 1);
        fault(r, 1, 0);
        r.fault(0, "take 1;take 0;", 2, 12);
        fault(r, 2, 12);
        r.feed("take 1;").refused("lines(1)", 1).refused("lines(-1)", 1);
        fault(r, 2, 12);
        r.done("lines(0)", 1);
        fault(r, 0, -1);
        r.fault(0, BLANKS.substring(0, 154) + "take 1", 1, 160).done("lines(0)", 0);
        fault(r, 0, -1);
    }

    private static void fault(Run r, int kind, int place) {
        r.asks("fault(-1)", -1).asks("fault(0)", kind).asks("fault(1)", place).asks("fault(2)", -1);
        r.asks("fault(MIN)", -1).asks("fault(MAX)", -1);
    }

    static void all() {
        terms3TapeAtMost();
        terms3Numbers();
        terms3AsLongAsCanBe();
        terms3NumberTooLong();
        terms3ThirteenthLine();
        terms3FourValues();
        terms3KeysAndLetters();
        terms3EachLetterOfAKey();
        terms3EachKeyInItsPlace();
        terms3Blanks();
        terms3LinesTwelveAtMost();
        terms3ALine();
        terms3OrAndNot();
        terms3AllOfThree();
        terms3EndsTooEarly();
        terms3FirstThatCanNotStand();
        terms3SixOthers();
        terms3TakeOneToTen();
        terms3FaultChangesNothing();
        terms3Values();
        terms3WithoutAlways();
        promise11Feed();
        promise12Lines();
        promise13Fault();
    }
}
