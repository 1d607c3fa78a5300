/** Edges of the TAPE, of SHELVES and SCRIPTS as texts, and of their FAULT: promises 1 to 5 and the first terms. */
public final class EdgesOfTextsTest extends Edges {
    private static final String TWENTY = "feed 0x20202020 0x20202020 0x20202020 0x20202020 0x20202020";
    private static final String V = "v;";
    private static final String Y = "y;";

    /** A letter behind that of its CLAUSE, and the bounds of its number. */
    private static final class Item {
        final String letters;
        final int low;
        final int high;

        Item(String letters, int low, int high) {
            this.letters = letters;
            this.low = low;
            this.high = high;
        }
    }

    private static final Item[] ITEMS = {
        new Item("sd", 2, 6), new Item("st", 1, 12), new Item("sc", 1, 4), new Item("sf", 0, 3), new Item("sk", 0, 9),
        new Item("va", 0, 287), new Item("vx", 0, 255),
    };

    private void promise1() {
        edge("1: No SHELF", lines(row("count", 0, 0, 0, 0, 0), row("status", 0, 0, 0, 0), row("fault", 0, 0),
            "rule 6 -> NONE", "most 0 -> HIDDEN", "image -> NONE", "back -> NONE", "undo -> NONE", "log 0 0 -> HIDDEN"));
        edge("1: NONE is -1", "undo -> -1");
        edge("1: HIDDEN is -1000000", "most 0 -> -1000000");
    }

    private void promise2() {
        edge("2: Twenty bytes more", TWENTY + " -> 20", "fault 0 -> 20", "fault 1 -> 20");
        edge("2: of each number the highest first", "feed 0x73643600 0 0 0 0 -> 3", "text 0 -> 48", "rule 0 -> 6");
        edge("2: the numbers in their order", "feed 0x73 0x74 0x31 0x32 0x3b -> 5", "feed 0x76 0x61 0x37 0x20 0x78 -> 10",
            "feed 0x39 0 0 0 0 -> 11", "text 0 -> 72", "read 7 -> 9");
        edge("2: bytes of 0 are left out", "feed 0 0 0 0 0 -> 0", "feed 0x00730000 0x64003600 0 0 0x20000000 -> 4", "text 0 -> 48");
        edge("2: a byte above 127 is none of 0", "feed 0x80000000 0 0 0 0xff -> 2", "feed 0xffffffff -1 -1 -1 -1 -> 22", "fault 0 -> 0");
        edge("2: a TAPE goes on behind what it has", "tape 'sd'", "feed 0x36000000 0 0 0 0 -> 3", "fault 0 -> NONE");
        edge("2: 280 bytes are taken, one more is refused", lines(times(13, TWENTY), TWENTY + " -> 280",
            "feed 1 0 0 0 0 -> NONE !", "feed 0 0 0 0 0x73000000 -> NONE !", TWENTY + " -> NONE !", "count 2 -> 280"));
        edge("2: more bytes of 0 are not more than 280", lines(times(14, TWENTY), "feed 0 0 0 0 0 -> 280"));
        edge("2: 279 and one, 279 and two", lines(times(14, TWENTY), "end 279 -> true", "feed 0 0 0 0 0x7373 -> NONE !",
            "feed 0x73000000 0 0 0 0x73 -> NONE !", "feed 0 0 0x00007300 0 0 -> 280", "fault 0 -> NONE"));
        edge("2: 260 and twenty, 261 and twenty", lines(times(14, TWENTY), "end 261 -> true", TWENTY + " -> NONE !",
            "end 260 -> true", TWENTY + " -> 280"));
        edge("2: 261 and nineteen", lines(times(14, TWENTY), "end 261 -> true",
            "feed 0x20202020 0x20202020 0x20002020 0x20202020 0x20202020 -> 280"));
    }

    private void promise3() {
        edge("3: the first n bytes alone", "tape 'sd9'", "end 2 -> true", "count 2 -> 2", "feed 0x36000000 0 0 0 0 -> 3", "text 0 -> 48");
        edge("3: all of them", "tape 'sd6'", "end 3 -> true", "count 2 -> 3", "text 0 -> 48");
        edge("3: none of them", "tape 'sd6'", "end 0 -> true", "count 2 -> 0", "fault 0 -> 0");
        edge("3: False: n", "tape 'sd6'", "end 4 -> false !", "end -1 -> false !", "end 280 -> false !", "end MAX -> false !", "end MIN -> false !");
        edge("3: of an empty TAPE", "end 0 -> true", "end 1 -> false !", "end -1 -> false !");
        edge("3: bytes cut off do not come again", "tape 'sd6'", "end 1 -> true", "end 3 -> false !", "text 0 -> 24");
        edge("3: blanks cut off are no blanks any more", "tape 'sd  2'", "end 2 -> true", "fault 0 -> 2", "tape 's;  v'", "end 2 -> true", "fault 0 -> 2", "tape 'w1  ,2'", "end 2 -> true", "fault 1 -> 2",
            "tape '    '", "end 1 -> true", "fault 0 -> 1", "fault 1 -> 1", "end 0 -> true", "fault 0 -> 0", "fault 1 -> 0");
        edge("3: digits cut off are no digits any more", "tape 'sd2222'", "end 3 -> true", "fault 0 -> NONE", "tape 'l1234'", "end 4 -> true", "fault 1 -> NONE", "end 1 -> true", "fault 1 -> 1", "tape 'st12'", "end 3 -> true",
            "text 0 -> 6", "rule 1 -> 1");
        edge("3: of a full TAPE", lines(times(14, TWENTY), "end 281 -> false !", "end 280 -> true", "end 279 -> true", "count 2 -> 279"));
    }

    private void promise4() {
        edge("4: -2: no such sort", "fault -1 -> -2 !", "fault 2 -> -2 !", "fault MAX -> -2 !", "fault MIN -> -2 !",
            "tape 's'", "fault 2 -> -2 !", "fault 0 -> NONE");
        edge("4: the TAPE stays", "tape 's1'", "fault 0 -> 1", "fault 1 -> NONE", "count 2 -> 2", "fault 0 -> 1");
        faults(0, "4: an empty SHELF ends too early", "", 0, " ", 1, "    ", 4);
        faults(1, "4: an empty SCRIPT ends too early", "", 0, " ", 1, "    ", 4);
        edge("4: a full TAPE of blanks", lines(times(14, TWENTY), "fault 0 -> 280", "fault 1 -> 280", "text 0 -> NONE !", "text 1 -> NONE !"));
        edge("4: the last byte of a full TAPE", lines(times(13, TWENTY), "feed 0x20202020 0x20202020 0x20202020 0x20202020 0x20202079 -> 280",
            "fault 0 -> 279", "fault 1 -> NONE", "text 1 -> 0"));
    }

    private void clauses() {
        faults(0, "CLAUSES with ; between", "s;v", -1, "v;v", -1, "sv", 1, "vs", 1, "vv", 1, "s,v", 1);
        faults(0, "a ; stands between CLAUSES alone", ";", 0, ";s", 0, "s;", 2, "v;", 2, "s;;v", 2, "s; ;v", 3, "sd2;", 4);
        faults(0, "s: one at most", "s", -1, "v", -1, "ss", 1, "s;s", 2, "s;v;s", 4, "v;s;v;s", 6, "sd2;sd2", 4);
        faults(0, "in any order", "s;v;v", -1, "v;s;v", -1, "v;v;s", -1);
        faults(0, "v: none to 16", V.repeat(15) + "v", -1, V.repeat(16) + "v", 32, V.repeat(16) + "s", -1, "s;" + V.repeat(15) + "v", -1,
            "s;" + V.repeat(16) + "v", 34, V.repeat(8) + "s;" + V.repeat(8) + "v", 34, V.repeat(16) + " v", 33, V.repeat(16), 32);
        faults(0, "no other CLAUSE", "x", 0, "d2", 0, "S", 0, "V", 0, "1", 0, "s;x", 2, "w1,2", 0);
        faults(0, "ITEMS, none or more", "s", -1, "sd2", -1, "sd2t1c1f0k0", -1, "sk0f0c1t1d2", -1, "v", -1, "va0", -1, "va0x0", -1, "vx0a0", -1);
        faults(0, "a letter, each once at most in a CLAUSE", "sd2d", 3, "sd2d2", 3, "sd2t1d3", 5, "va1a1", 3, "va1x2x3", 5, "vx1a2x3", 5);
        faults(0, "each once in a CLAUSE, in the next one again", "va1x2;va1x2", -1, "v;va1;va1", -1);
        faults(0, "letters of the other CLAUSE", "sa1", 1, "sx1", 1, "vd2", 1, "vt1", 1, "vc1", 1, "vf0", 1, "vk0", 1, "ss1", 1, "vv", 1);
        faults(0, "no other letters", "sb1", 1, "sD2", 1, "sy", 1, "s1", 1, "v1", 1, "vA1", 1, "s,", 1);
    }

    private void numbers() {
        for (Item item : ITEMS) {
            String s = item.letters;
            faults(0, "bounds of " + s, s + item.low, -1, s + item.high, -1, s + (item.high + 1), s.length() + digits(item.high + 1) - 1);
            if (item.low > 0) {
                faults(0, "below the bounds of " + s, s + (item.low - 1), s.length(), s + "00" + (item.low - 1), s.length() + 2);
            }
            faults(0, "one to three digits of " + s, s, 2, s + ";", 2, s + "999", 4, s + "00" + item.low, -1, s + "000" + item.low, 5,
                s + "9999", 5, s + "12345", 5, s + "00000", 5);
        }
        faults(0, "a number out of bounds is wrong at its last digit", "sd1", 2, "sd10", 3, "sd100", 4, "sd 7", 3, "sd7t", 2, "sd7 ", 2, "sd7;", 2,
            "sd7x", 2, "sd07", 3, "st013", 4, "va300;v", 4, "s;vx256", 6, "sd00", 3, "sd000", 4, "st99", 3, "sk10", 3);
        faults(0, "a fourth digit itself, whatever stands ahead of it", "sd0002", 5, "sd9999", 5, "va2870", 5, "vx0000", 5, "st 1234", 6,
            "s ; v x 2561", 11);
        faults(0, "digits alone are a number", "sd-2", 2, "sd+2", 2, "sd2.0", 3, "sda", 2, "sd,", 2, "sd2,3", 3, "va 1,2", 4, "sd/", 2, "sd:", 2,
            "sd2/", 3, "sd2:", 3);
        faults(1, "Numbers of SCRIPTS: 0 .. 999", "l0", -1, "l999", -1, "l1000", 4, "l0000", 4, "l9999", 4, "l000", -1, "w0,0", -1, "w999,999", -1,
            "w1000,1", 4, "w1,1000", 6, "p0,0,0,0", -1, "p999,999,999,999", -1, "p1,2,3,1000", 10, "z999,999,999", -1, "f999,999,999,9999", 16);
    }

    private static int digits(int number) {
        return Integer.toString(number).length();
    }

    private void blanks() {
        faults(0, "Blanks between all signs of a SHELF", "  s  d  2  t  1  ;  v  a  0  x  255  ", -1, " v", -1, "v ", -1);
        faults(0, "not within a number", "sd2 ", -1, "st1 2", 4, "va1 0", 4, "va28 7", 5, "sd 0 2", 3, "va1  2", 5);
        faults(0, "a text of blanks behind a ;", "s; ", 3, "s ;", 3, "s d", 3, "sd ", 3, "sd  ", 4);
        faults(0, "a blank alone (32)", "s\tv", 1, "\ts", 0, "s\n", 1, "s;\tv", 2);
        faults(1, "Blanks between all signs of a SCRIPT", "  w  1  ,  2  ;  y  ;  p  1  ,  2  ,  3  ,  4  ", -1, " y", -1, "y ", -1);
        faults(1, "not within a number", "l1 2", 3, "w1 0,2", 3, "w1,2 3", 5);
        faults(1, "a blank alone (32)", "y\t", 1, "w1\t,2", 2, "\ty", 0);
    }

    private void steps() {
        faults(1, "STEPS with ; between", "y;y", -1, "yy", 1, "y y", 2, "y,y", 1, "l1l2", 2);
        faults(1, "a ; stands between STEPS alone", ";", 0, ";y", 0, "y;", 2, "y; ", 3, "y;;y", 2, "l1;", 3);
        faults(1, "1 to 16 STEPS", "y", -1, Y.repeat(15) + "y", -1, Y.repeat(16) + "y", 31, Y.repeat(16), 31, Y.repeat(15) + "y ;y", 32,
            Y.repeat(15) + "yx", 31, Y.repeat(15) + "y,", 31, Y.repeat(15), 30);
        faults(1, "w and two numbers", "w1,2", -1, "w", 1, "w1", 2, "w1,", 3, "w1;y", 2, "w,2", 1, "w1,,2", 3, "w1,2,3", 4, "w1,2,", 4);
        faults(1, "l and one", "l1", -1, "l", 1, "l;", 1, "l1,", 2, "l1,2", 2);
        faults(1, "n and one", "n1", -1, "n", 1, "n;", 1, "n1,", 2, "n1,2", 2);
        faults(1, "r and two", "r1,2", -1, "r", 1, "r1", 2, "r1,", 3, "r1;", 2, "r1,2,", 4, "r1,2,3", 4);
        faults(1, "s and one", "s1", -1, "s", 1, "s;", 1, "s1,", 2, "sd2", 1);
        faults(1, "p and four", "p1,2,3,4", -1, "p", 1, "p1", 2, "p1,2", 4, "p1,2,3", 6, "p1,2,3,", 7, "p1,2,3;", 6, "p1,2,3,4,", 8, "p1,2,3,4,5", 8);
        faults(1, "z and three", "z1,2,3", -1, "z", 1, "z1", 2, "z1,2", 4, "z1,2,", 5, "z1,2;", 4, "z1,2,3,", 6, "z1,2,3,4", 6);
        faults(1, "y alone", "y", -1, "y0", 1, "y,", 1, "y1,2", 1);
        faults(1, "f and four", "f1,2,3,4", -1, "f", 1, "f1", 2, "f1,2", 4, "f1,2,3", 6, "f1,2,3,", 7, "f1,2,3;", 6, "f1,2,3,4,", 8, "f1,2,3,4,5", 8);
        faults(1, "no other STEP", "v", 0, "x1", 0, "W1,2", 0, "1", 0, ",", 0, "y;q", 2, "a", 0, "d2", 0, "t1", 0);
        edge("What a STEP tells that can't be is no FAULT", SMALL, "script 'w999,999;l999;n999;r999,999;s999;p999,999,999,0;z999,999,9;y;f99,9,999,999' -> 0",
            "run 0 0 -> 0", "perform 0 -> 0");
    }

    private void promise5() {
        edge("5: how many ADDRESSES: the fewest, the most", "shelf 'sd2t1c1' -> 2", "shelf 'sd6t12c4' -> 288", "read 287 -> 0", "read 288 -> throws");
        edge("5: without RULES", lines("shelf 'v' -> 24", row("rule", 3, 4, 2, 0, 1, 5, 24)));
        edge("5: the lowest and the highest of all RULES", lines("shelf 'sd2t1c1f0k0' -> 2", row("rule", 2, 1, 1, 0, 0, 4, 2),
            "shelf 'sd6t12c4f3k9' -> 288", row("rule", 6, 12, 4, 3, 9, 8, 288)));
        edge("5: of v: ADDRESS 0, VALUE 1 without", "shelf 'v' -> 24", "read 0 -> 1", "shelf 'va3' -> 24", "read 0 -> 0", "read 3 -> 1",
            "shelf 'vx9' -> 24", "read 0 -> 9");
        edge("5: the ITEMS of one v are not those of the next", "shelf 'va5x9;v;va2' -> 24", "read 5 -> 9", "read 0 -> 1", "read 2 -> 1");
        edge("5: VALUES 0 and 255", "shelf 'vx255;va1x0' -> 24", "read 0 -> 255", "read 1 -> 0");
        edge("5: v by v: the later one stays", "shelf 'vx9;vx8' -> 24", "read 0 -> 8", "shelf 'vx8;vx9;vx0' -> 24", "read 0 -> 0");
        edge("5: v's ahead of s lie by its RULES", "shelf 'va1x9;sd2t1c1;va0x7' -> 2", "read 1 -> 9", "read 0 -> 7");
        edge("5: all 16 v's are WRITTEN", lines("shelf 'va0x1;va1x2;va2x3;va3x4;va4x5;va5x6;va6x7;va7x8;va8x9;va9x10;va10x11;va11x12;va12x13;va13x14;"
            + "va14x15;va15x16' -> 24", times(16, "checked #"), "read 0 -> 1", "read 14 -> 15", "read 15 -> 16", "fit -> 15"));
        alike("a v beyond the last ADDRESS is left out", lines("shelf 'sd2t1c1;va1x7;va2x9;va287x8' -> 2"), lines("shelf 'sd2t1c1;va1x7' -> 2"));
        edge("the last ADDRESS is not beyond it", "shelf 'sd6t12c4;va287x9' -> 288", "read 287 -> 9", "shelf 'sd6t12c3;va215x9;va216x8' -> 216", "read 215 -> 9");
        edge("5: v's cost nothing, are no ACTS", lines("shelf 'va1x9;va2x3' -> 24", "most 0 -> 0", "most 1 -> 0", row("disk 1", 0, 4, 0, 0, 0),
            "count 3 -> 0", "count 4 -> 0", "undo -> NONE"));
        edge("5: The TAPE (empty then)", "tape 's'", "text 0 -> 24", "count 2 -> 0", "text 0 -> NONE !", "tape 'y'", "text 1 -> 0", "count 2 -> 0", "text 1 -> NONE !");
        edge("5: NONE: a FAULT (the TAPE stays)", "tape 'sd7'", "text 0 -> NONE !", "count 2 -> 3", "tape 'y;'", "text 1 -> NONE !", "count 2 -> 2");
        edge("5: a FAULT leaves the SHELF", lines(FILLED, "write 0 9", "image", "lose 1", "tape 's;'", "text 0 -> NONE !", "read 0 -> 9"));
        edge("5: a FAULT leaves the SCRIPTS", "script 'y' -> 0", "tape 'q'", "text 1 -> NONE !", "count 1 -> 1", "script 's1' -> 1", "step 0 0 0 -> 7");
        edge("5: no such sort", "tape 's'", "text 2 -> NONE !", "text -1 -> NONE !", "text MAX -> NONE !", "text MIN -> NONE !", "count 2 -> 1", "text 0 -> 24");
        edge("5: SCRIPTS (4 at most): the fourth, the fifth", "script 'l0' -> 0", "script 'l1' -> 1", "script 'l2' -> 2", "script 'l3' -> 3",
            "tape 'l4'", "text 1 -> NONE !", "count 1 -> 4", "count 2 -> 2", "step 3 0 1 -> 3", "step 4 0 1 -> HIDDEN");
        alike("5: all that was of another one is gone but SCRIPTS", lines(FILLED, "script 'w0,1' -> 0", "lose 1", "replace 1", "rebuild 1 1", "tear 3 4 1",
            "spoil 2 0 0 7", "scrub 2", "full 1 0 3 3", "image", "shelf 'sd3t2c1;vx2' -> 6"), lines("script 'w0,1' -> 0", "shelf 'sd3t2c1;vx2' -> 6"));
        edge("5: STATUS stays", SMALL, "write 6 0 -> NONE !0", "write 0 256 -> NONE !1", "replace 0 -> NONE !2", SMALL, "lose 0", "replace 0", "lose 1",
            "replace 1 -> NONE !3");
        edge("5: a larger SHELF behind a smaller one", lines("shelf 'sd2t1c1;vx9' -> 2", "lose 1", "shelf 'sd6t12c4' -> 288", "most 7 -> 0", "read 0 -> 0",
            "fit -> 4095", "more -> 255"));
        edge("5: a smaller SHELF behind a larger one", lines("shelf 'sd6t12c4;va287x9' -> 288", "scrub 5", "lose 7", "shelf 'sd2t1c1' -> 2", "most 5 -> 0",
            "read 2 -> throws", "disk 4 0 -> NONE", "fit -> 1", "more -> 15"));
    }

    public static void main(String[] args) {
        EdgesOfTextsTest test = new EdgesOfTextsTest();
        test.promise1();
        test.promise2();
        test.promise3();
        test.promise4();
        test.clauses();
        test.numbers();
        test.blanks();
        test.steps();
        test.promise5();
        test.check.finish("EdgesOfTextsTest");
    }
}
