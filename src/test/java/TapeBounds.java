/** The terms: the tape, its tokens, its faults, what a taken text tells. */
final class TapeBounds {
    private static final int STATE = SpringBeads.STATE, FULL = SpringBeads.FULL;

    private TapeBounds() {
    }

    static void all(Doc doc) {
        room(doc);
        tokens(doc);
        knockNumbers(doc);
        firstMet(doc);
        noToken(doc);
        outOfPlace(doc);
        outOfBounds(doc);
        tooMany(doc);
        tellsAll(doc);
    }

    private static void taken(Doc doc, String text, int lines) {
        Subject s = new Subject().fed(text);
        doc.due("text '" + text + "'", s.ask("text"), lines);
        doc.due("fault of '" + text + "'", s.ask("fault"), 0);
    }

    private static void faulty(Doc doc, String text, int fault, int place) {
        Subject s = new Subject().fed(text);
        doc.due("text '" + text + "'", s.ask("text"), -10 - place);
        doc.due("fault of '" + text + "'", s.ask("fault"), fault);
    }

    private static void room(Doc doc) {
        doc.of(Doc.TERMS, "THE TAPE has 160 bytes, places from 0.");
        doc.due("length of the full text", State.FULL_TEXT.length(), 160);
        taken(doc, State.FULL_TEXT, 16);
        Subject s = new Subject().fed(State.FULL_TEXT);
        doc.due(s, FULL, "feed", ' ');
        doc.due(s, 160, "count", 2);
        faulty(doc, "?", 1, 0);
        faulty(doc, " ".repeat(159) + "?", 1, 159);
        faulty(doc, " ".repeat(158) + "on", 2, 160);
    }

    private static void tokens(Doc doc) {
        doc.of(Doc.TERMS, "TOKENS, each as long as may be, blanks (32) between: NAMES (a .. z), NUMBERS (1 or 2 figures), one ; .");
        taken(doc, "", 0);
        taken(doc, " ", 0);
        taken(doc, " ".repeat(160), 0);
        taken(doc, "on3 9;on 3 9 ;  on  3  9  ;", 3);
        taken(doc, "rope60 9 9;", 1);
        taken(doc, "rope 00 09 01;drag 03;back 03 09;", 3);
        // A name or a number ends where it may go on no longer, not sooner.
        faulty(doc, "onon 1 1;", 2, 0);
        faulty(doc, "o n 1 1;", 2, 0);
        faulty(doc, "ons 1 1;", 2, 0);
        faulty(doc, "o", 2, 0);
        faulty(doc, "a".repeat(160), 2, 0);
        faulty(doc, "on 11;", 3, 3);
        faulty(doc, "rope 6 0 9 9;", 2, 11);
        faulty(doc, "1on 1 1;", 2, 0);
        // Each byte alone.
        for (int c = 0; c < 128; c++) {
            boolean stands = c >= 'a' && c <= 'z' || c >= '0' && c <= '9' || c == ';';
            Subject s = new Subject().with("feed", c);
            doc.due("text of byte " + c, s.ask("text"), c == ' ' ? 0 : -10);
            doc.due("fault of byte " + c, s.ask("fault"), c == ' ' ? 0 : stands ? 2 : 1);
        }
    }

    private static void knockNumbers(Doc doc) {
        doc.of(Doc.TERMS, "on, back: a KNOCK more: its BEAD, by how much (0 to 9), back: below 0.");
        Subject s = Subject.told("on 0 0;on 3 9;back 0 0;back 3 9;on 1 1;back 2 1;");
        int[][] want = {{0, 9}, {3, 18}, {0, 9}, {3, 0}, {1, 10}, {2, 8}};
        for (int i = 0; i < want.length; i++) {
            doc.due(s, want[i][0], "knock", i, 0);
            doc.due(s, want[i][1], "knock", i, 1);
        }
        faulty(doc, "on 0 10;", 3, 5);
        faulty(doc, "back 0 10;", 3, 7);
        faulty(doc, "back 0 99;", 3, 7);
    }

    private static void firstMet(Doc doc) {
        doc.of(Doc.TERMS, "FAULTS, the first met as it is read (a TOKEN is read when the one before has been taken)");
        faulty(doc, "zzz ?", 2, 0);
        faulty(doc, "rope 61 ?", 3, 5);
        faulty(doc, "rope 1 10 999;", 3, 7);
        faulty(doc, "rope 1 1 0", 3, 9);
        faulty(doc, "rope 999 61", 1, 5);
        faulty(doc, "rope on ?", 2, 5);
        faulty(doc, "drag 4?", 3, 5);
        faulty(doc, "on 4 ?", 3, 3);
        faulty(doc, "on 3 10?", 3, 5);
        faulty(doc, "on 3 9?", 1, 6);
        faulty(doc, "drag 1;drag ?", 4, 7);
        faulty(doc, "drag 1;drag", 4, 7);
        faulty(doc, "drag 1;drag 4;", 4, 7);
        faulty(doc, "rope 1 1 1;".repeat(4) + "slack ?", 5, 44);
        faulty(doc, "rope 1 1 1;".repeat(4) + "slack", 5, 44);
        faulty(doc, "on 1 1;".repeat(12) + "on 4", 5, 84);
    }

    private static void noToken(Doc doc) {
        doc.of(Doc.TERMS, "1 no TOKEN, a NUMBER that is too long (its first byte).");
        for (String number : new String[] {"000", "001", "100", "999", "1234", "0".repeat(30)}) {
            faulty(doc, number, 1, 0);
            faulty(doc, "rope " + number + " 1 1;", 1, 5);
            faulty(doc, "rope 1  " + number + " 1;", 1, 8);
            faulty(doc, "rope 1 1 1" + number + ";", 1, 9);
            faulty(doc, "drag" + number + ";", 1, 4);
            faulty(doc, "on 1 1;" + number, 1, 7);
        }
        for (int c : new int[] {0, 1, 9, 10, 13, 31, 33, 45, 47, 58, 60, 64, 65, 90, 91, 96, 123, 126, 127}) {
            String sign = String.valueOf((char) c);
            faulty(doc, sign + "rope 1 1 1;", 1, 0);
            faulty(doc, "rope" + sign + "1 1 1;", 1, 4);
            faulty(doc, "rope 1" + sign + "1 1;", 1, 6);
            faulty(doc, "rope 1 1 1" + sign, 1, 10);
            faulty(doc, "rope 1 1 1;" + sign, 1, 11);
        }
    }

    /** At each place of each line each token of another sort, and the end. */
    private static void outOfPlace(Doc doc) {
        doc.of(Doc.TERMS, "2 a TOKEN that can not stand there (a NAME that begins no line; or the end: the length).");
        String[] lines = {"plain 1 1 1 ;", "rope 1 1 1 ;", "block 1 1 1 ;", "slack 1 1 1 ;", "drag 1 ;", "on 1 1 ;", "back 1 1 ;"};
        for (String line : lines) {
            for (String ahead : new String[] {"", "block 2 2 2;"}) {
                String[] tokens = line.split(" ");
                int place = ahead.length();
                for (int i = 0; i < tokens.length; i++) {
                    String before = (ahead + line).substring(0, place);
                    swapped(doc, before, tokens[i], (ahead + line).substring(place + tokens[i].length()));
                    if (i > 0) {
                        faulty(doc, before, 2, before.length());
                        faulty(doc, before + "  ", 2, before.length() + 2);
                    }
                    place += tokens[i].length() + 1;
                }
            }
        }
        for (String name : new String[] {"a", "z", "plains", "ropes", "backs", "text", "xon", "plainrope"}) {
            faulty(doc, name + " 1 1 1;", 2, 0);
            faulty(doc, "drag 1;" + name, 2, 7);
        }
        misspelt(doc);
    }

    /** Each word with one letter changed, left out, or said twice. */
    private static void misspelt(Doc doc) {
        for (String word : new String[] {"plain", "rope", "block", "slack", "drag", "on", "back"}) {
            for (int i = 0; i < word.length(); i++) {
                String before = word.substring(0, i);
                String behind = word.substring(i + 1);
                faulty(doc, before + "z" + behind + " 1 1 1;", 2, 0);
                faulty(doc, "drag 1;" + before + "z" + behind, 2, 7);
                faulty(doc, before + behind + " 1 1 1;", 2, 0);
                faulty(doc, before + word.charAt(i) + word.charAt(i) + behind + " 1 1 1;", 2, 0);
            }
        }
    }

    private static void swapped(Doc doc, String before, String token, String behind) {
        for (String other : new String[] {"zz", "7", ";", "on"}) {
            boolean sameSort = Character.isLetter(token.charAt(0)) && other.equals("on")
                    || Character.isDigit(token.charAt(0)) && other.equals("7") || token.equals(other);
            if (!sameSort) {
                faulty(doc, before + other + behind, 2, before.length());
            }
        }
    }

    private static void outOfBounds(Doc doc) {
        doc.of(Doc.TERMS, "3 a NUMBER out of its bounds.");
        for (String kind : new String[] {"plain", "rope", "block", "slack"}) {
            int at = kind.length() + 1;
            for (String numbers : new String[] {" 0 0 1;", " 60 9 9;", " 00 00 01;"}) {
                taken(doc, kind + numbers, 1);
            }
            faulty(doc, kind + " 61 9 9;", 3, at);
            faulty(doc, kind + " 99 9 9;", 3, at);
            faulty(doc, kind + " 60 10 9;", 3, at + 3);
            faulty(doc, kind + " 60 99 9;", 3, at + 3);
            faulty(doc, kind + " 60 9 0;", 3, at + 5);
            faulty(doc, kind + " 60 9 00;", 3, at + 5);
            faulty(doc, kind + " 60 9 10;", 3, at + 5);
        }
        taken(doc, "drag 0;", 1);
        taken(doc, "drag 3;", 1);
        faulty(doc, "drag 4;", 3, 5);
        for (String word : new String[] {"on", "back"}) {
            taken(doc, word + " 0 0;" + word + " 3 9;", 2);
            faulty(doc, word + " 4 9;", 3, word.length() + 1);
            faulty(doc, word + " 3 10;", 3, word.length() + 3);
        }
    }

    private static void tooMany(Doc doc) {
        doc.of(Doc.TERMS, "4 drag for the second time (its NAME).");
        taken(doc, "drag 2;", 1);
        faulty(doc, "drag 2;drag 2;", 4, 7);
        faulty(doc, "drag 0;on 1 1;  drag 0;", 4, 16);
        // Each text has a drag of its own.
        Subject s = new Subject().fed("drag 2;").with("text").fed("drag 1;");
        doc.due(s, 1, "text");
        doc.due(s.fed("drag 1;drag 1;"), -17, "text");
        doc.due(s.fed("drag 1;"), 1, "text");
        doc.of(Doc.TERMS, "5 the 5th BEAD, the 13th KNOCK (its NAME).");
        for (String kind : new String[] {"plain", "rope", "block", "slack"}) {
            taken(doc, (kind + " 1 1 1;").repeat(4), 4);
            faulty(doc, "rope 1 1 1;".repeat(4) + " " + kind + " 1 1 1;", 5, 45);
        }
        for (String word : new String[] {"on", "back"}) {
            taken(doc, (word + " 1 1;").repeat(12), 12);
            faulty(doc, "on 1 1;".repeat(12) + " " + word + " 1 1;", 5, 85);
        }
        // What there was before does not count.
        Subject full = State.BRIM.make().with("end", 0).fed("rope 1 1 1;on 1 1;");
        doc.due(full, 2, "text");
        doc.due(full, 1, "rule", 0);
        doc.due(full, 1, "rule", 1);
    }

    private static void tellsAll(Doc doc) {
        doc.of(Doc.TERMS, "A text that is taken tells all, in place of what there was; nothing is SEEN; IMAGES are gone.");
        for (State state : State.values()) {
            Subject s = state.make().with("end", 0);
            long cells = s.ask("count", 3);
            long torn = s.ask("torn");
            doc.due(s, 0, "text");
            for (int what = 0; what <= 5; what++) {
                doc.due(s, 0, "rule", what);
            }
            doc.due(s, 0, "count", 0);
            doc.due(s, 0, "count", 1);
            doc.due(s, STATE, "back", 0);
            doc.due(s, STATE, "back", 1);
            doc.due(s, cells, "count", 3);
            doc.due(s, torn, "torn");
            doc.due(s.fed("slack 5 6 7;"), 1, "text");
            int[] want = {3, 5, 6, 7, 5, 100, 1000, 10000};
            for (int what = 0; what < want.length; what++) {
                doc.due(s, want[what], "bead", 0, what);
            }
            doc.due(s, 15, "kinds", 0);
            doc.due(s, 0, "keep", 0);
        }
    }
}
