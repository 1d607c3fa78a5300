/** Edges of what is asked apart, of SCRIPTS that are RUN, and of the whole: promises 29 to 44 and 47. */
public final class EdgesOfQuestionsTest extends Edges {
    /** n 4, one BYTE a CHUNK. PARTS: STRIPE 0 on 1 2, STRIPE 1 on 0 1, STRIPE 2 on 3 0, STRIPE 3 on 2 3. */
    private static final String PAIRS = "shelf 'sd2t4c1k3' -> 8";

    // ---- COST

    /** One STRIPE of one BYTE: P on DATA and 1, Q on 0, PART i on i and 1; ADDRESS 0 is written. */
    private void cost(int data, String what, int reads, int writes, int way, int... lost) {
        String[] losses = new String[lost.length];
        for (int i = 0; i < lost.length; i++) {
            losses[i] = "lose " + lost[i];
        }
        edge("29: COST, d" + data + ", " + what, lines("shelf 'sd" + data + "t1c1' -> " + data, losses, row("cost 0", reads, writes, way, "NONE"),
            "write 0 9 -> 0", "log 0 2 -> " + (reads + writes), "most 0 -> " + reads, "most 1 -> " + writes));
    }

    private void promise29() {
        int[] allThere = {0, 0, 1, 2, 3, 3, 3};
        for (int data = 2; data <= 6; data++) {
            int p = data + 1;
            int q = 0;
            cost(data, "all THERE", allThere[data], 3, data < 4 ? 1 : 0);
            cost(data, "P gone", data == 2 ? 1 : 2, 2, data == 2 ? 1 : 0, p);
            cost(data, "Q gone", data == 2 ? 1 : 2, 2, data == 2 ? 1 : 0, q);
            cost(data, "P, Q gone", 1, 1, 0, p, q);
            cost(data, "its own gone", data - 1, 2, 1, 1);
            cost(data, "its own and P gone", data - 1, 1, 1, 1, p);
            cost(data, "its own and Q gone", data - 1, 1, 1, 1, q);
            cost(data, "its own and another PART gone", data, 2, 2, 1, data);
            cost(data, "another PART gone", 3, 3, 0, 2);
            cost(data, "another PART and P gone", 2, 2, 0, 2, p);
            cost(data, "another PART and Q gone", 2, 2, 0, 2, q);
        }
        cost(3, "both other PARTS gone", 3, 3, 0, 2, 3);
        edge("29: NONE: no SHELF", "cost 0 0 -> NONE !");
        edge("29: NONE: no such ADDRESS, no such what", SMALL, "cost 5 2 -> 1", "cost 6 0 -> NONE !", "cost -1 0 -> NONE !", "cost MAX 0 -> NONE !", "cost MIN 0 -> NONE !", "cost 0 3 -> NONE !",
            "cost 0 -1 -> NONE !", "cost 0 MAX -> NONE !", "cost 0 MIN -> NONE !");
        edge("29: STRIPE by STRIPE of a DISK that is being REBUILT", lines(FILLED, "lose 1", "replace 1", "rebuild 1 1", row("cost 0", 2, 3, 1), row("cost 4", 2, 2, 1), row("cost 3", 3, 3, 0)));
    }

    // ---- TOLD, WHO, CHECKED, VOTES

    private void promise30() {
        edge("30: NONE: no SHELF", "told 0 0 0 0 0 -> NONE !");
        edge("30: NONE: no such ones", lines("shelf 'sd2t3c2' -> 12", "told 3 2 1 3 3 -> 0", "told 4 0 0 4 4 -> NONE !", "told -1 0 0 -1 -1 -> NONE !", "told 0 3 0 0 0 -> NONE !", "told 0 -1 0 0 0 -> NONE !",
            "told 0 0 2 0 0 -> NONE !", "told 0 0 -1 0 0 -> NONE !", "told 0 0 0 0 4 -> NONE !", "told 0 0 0 4 0 -> NONE !", "told 0 0 0 0 -1 -> NONE !", "told 0 0 0 -1 0 -> NONE !",
            "told MAX 0 0 MAX 0 -> NONE !", "told 0 MAX 0 0 0 -> NONE !", "told 0 0 MAX 0 0 -> NONE !", "told 0 0 0 MAX 0 -> NONE !", "told 0 0 0 0 MAX -> NONE !", "told MIN 0 0 MIN 0 -> NONE !",
            "told 0 MIN 0 0 0 -> NONE !", "told 0 0 MIN 0 0 -> NONE !", "told 0 0 0 MIN 0 -> NONE !", "told 0 0 0 0 MIN -> NONE !"));
        edge("30: NONE: none of both is its DISK", FILLED, "told 1 0 0 2 3 -> NONE !", "told 1 0 0 2 2 -> NONE !", "told 1 0 0 0 4 -> NONE !", "told 1 0 0 1 2 -> 5", "told 1 0 0 2 1 -> 5", "told 1 0 0 1 1 -> 5");
        edge("30: HIDDEN: another one is not THERE", FILLED, "lose 2", "told 1 0 0 1 1 -> HIDDEN", "told 1 0 0 1 3 -> HIDDEN", "told 1 0 0 1 2 -> 5", "told 1 0 0 2 1 -> 5", "told 2 0 0 2 2 -> 3", "told 2 0 0 2 4 -> 3",
            "told 1 0 0 3 4 -> NONE !");
        edge("30: two not THERE", FILLED, "lose 1", "lose 2", "told 1 0 0 1 1 -> HIDDEN", "told 1 0 0 1 2 -> 5", "told 2 0 0 1 2 -> 3", "told 3 0 0 3 1 -> HIDDEN", "told 3 0 0 3 3 -> HIDDEN");
        edge("30: STRIPE by STRIPE", FILLED, "lose 2", "replace 2", "rebuild 2 1", "told 1 0 0 1 1 -> 5", "told 1 1 0 1 1 -> HIDDEN");
        edge("30: its own, as it stands, tells nothing", FILLED, "spoil 1 0 0 99", "told 1 0 0 1 1 -> 5", "told 1 0 0 1 0 -> 5", "told 1 0 0 1 4 -> 5", "told 1 0 0 1 3 -> 5");
        edge("30: P and Q of it", FILLED, "told 4 0 0 4 4 -> 7", "told 0 0 0 0 0 -> 7", "told 4 0 0 0 4 -> 7", "told 0 0 0 4 0 -> 7", "spoil 1 0 0 8", "told 4 0 0 4 4 -> 15", "told 0 0 0 0 0 -> 15", "told 4 0 0 4 1 -> 7",
            "told 0 0 0 1 0 -> 7");
        edge("30: DIRTY or not", FILLED, "tear 0 9 1", "told 1 0 0 1 1 -> 5");
    }

    private void promise31() {
        edge("31: HIDDEN: no SHELF", "who 0 0 -> HIDDEN !");
        edge("31: HIDDEN: no such ones", "shelf 'sd2t3c2' -> 12", "who 2 1 -> NONE", "who 3 0 -> HIDDEN !", "who -1 0 -> HIDDEN !", "who 0 2 -> HIDDEN !", "who 0 -1 -> HIDDEN !", "who MAX 0 -> HIDDEN !",
            "who MIN 0 -> HIDDEN !", "who 0 MAX -> HIDDEN !", "who 0 MIN -> HIDDEN !");
        edge("31: HIDDEN: not all is THERE", FILLED, "lose 4", "who 0 0 -> HIDDEN", "who 1 0 -> HIDDEN", "replace 4", "rebuild 4 1", "who 0 0 -> NONE", "who 1 0 -> HIDDEN");
        edge("31: HIDDEN: it is DIRTY", FILLED, "tear 0 5 0", "who 0 0 -> HIDDEN", "who 1 0 -> NONE", "clean", "who 0 0 -> NONE");
        edge("31: DISK 0 is a DISK, NONE is nobody, -2 is OPEN", FILLED, "who 0 0 -> NONE", "spoil 0 0 0 1", "who 0 0 -> 0", "spoil 4 0 0 9", "who 0 0 -> -2", "spoil 4 0 0 9", "spoil 0 0 0 1", "who 0 0 -> NONE");
        edge("31: BYTE by BYTE", "shelf 'sd3t2c2' -> 12", "spoil 3 0 1 4", "who 0 0 -> NONE", "who 0 1 -> 3", "who 1 1 -> NONE");
        edge("31: nothing is MENDED or counted", FILLED, "spoil 1 0 0 4", "who 0 0 -> 1", "most 0 -> 0", "most 2 -> 0", "read 0 -> 1", "most 5 -> 0");
    }

    private void promise35() {
        edge("35: NONE: no SHELF, no such ADDRESS", "checked 0 -> NONE !", SMALL, "checked 5 -> 0", "checked 6 -> NONE !", "checked -1 -> NONE !", "checked MAX -> NONE !", "checked MIN -> NONE !");
        edge("35: its own is wrong", FILLED, "spoil 1 0 0 250", "checked 0 -> 5", "read 0 -> 255", "checked 1 -> 3", "checked 2 -> 1");
        edge("35: P, Q are wrong", FILLED, "spoil 4 0 0 9", "checked 0 -> 5", "spoil 4 0 0 9", "spoil 0 0 0 9", "checked 0 -> 5");
        edge("35: OPEN: as it stands", FILLED, "spoil 1 0 0 8", "spoil 4 0 0 4", "who 0 0 -> -2", "checked 0 -> 13");
        edge("35: two wrong ones that look like a third", FILLED, "spoil 4 0 0 1", "spoil 0 0 0 2", "who 0 0 -> 2", "checked 1 -> 2", "checked 0 -> 5", "read 1 -> 3");
        edge("35: DIRTY: as it stands", FILLED, "tear 0 9 1", "checked 0 -> 9", "checked 3 -> 0");
        edge("35: not all is THERE: as it is READ", FILLED, "spoil 1 0 0 8", "lose 3", "checked 0 -> 13", "checked 2 -> 9", "read 2 -> 9");
        edge("35: another BYTE of the STRIPE", "shelf 'sd3t2c2;vx5;va1x6' -> 12", "spoil 1 0 1 8", "checked 0 -> 5", "checked 1 -> 6", "read 1 -> 14");
    }

    private void promise40() {
        edge("40: NONE: no SHELF", "votes 0 0 -> NONE !");
        edge("40: NONE: no such ADDRESS, value", FILLED, "votes 5 0 -> 10", "votes 6 0 -> NONE !", "votes -1 0 -> NONE !", "votes MAX 0 -> NONE !", "votes MIN 0 -> NONE !", "votes 0 256 -> NONE !", "votes 0 -1 -> NONE !",
            "votes 0 MAX -> NONE !", "votes 0 MIN -> NONE !", "votes 0 255 -> 0", "votes 0 0 -> 0");
        edge("40: all couples: of four DISKS, of eight", "shelf 'sd2;vx255' -> 16", "votes 0 255 -> 6", "shelf 'sd6' -> 48", "votes 0 0 -> 28", "votes 0 1 -> 0");
        edge("40: it stands, or is SOLVED", FILLED, "spoil 1 0 0 1 -> 4", "votes 0 4 -> 6", "votes 0 5 -> 4", "votes 0 6 -> 0");
        edge("40: of a BYTE that is right beside a wrong one", FILLED, "spoil 1 0 0 1", "votes 1 3 -> 7");
        edge("40: couples of which all others are THERE, alone", FILLED, "lose 3", "votes 0 5 -> 4", "votes 2 1 -> 4", "lose 4", "votes 0 5 -> 1", "votes 2 1 -> 1", "votes 2 0 -> 0");
        edge("40: STRIPE by STRIPE", FILLED, "lose 3", "replace 3", "rebuild 3 1", "votes 0 5 -> 10", "votes 3 0 -> 4", "rebuild 3 1", "votes 3 0 -> 10");
    }

    // ---- MORE, LEFT, FIT, EQUAL, SPAN, RISK, FIRST

    private void promise32() {
        edge("32: NONE: no SHELF", "more -> NONE !");
        edge("32: all of four, of eight", "shelf 'sd2' -> 16", "more -> 15", "shelf 'sd6' -> 48", "more -> 255");
        edge("32: one LOST, two LOST", FILLED, "lose 0", "more -> 30", "lose 4", "more -> 0");
        edge("32: of two the one that is being REBUILT", FILLED, "lose 0", "lose 4", "replace 0", "more -> 1", "replace 4", "more -> 17", "rebuild 0 2", "more -> 31");
        edge("32: one being REBUILT", FILLED, "lose 2", "replace 2", "more -> 31", "lose 2 -> 1", "more -> 27");
    }

    private void promise33() {
        edge("33: NONE: no SHELF", "left 0 -> NONE !", "left 1 -> NONE !");
        edge("33: NONE: no such what", FILLED, "left 0 -> 0", "left 1 -> 0", "left 2 -> NONE !", "left -1 -> NONE !", "left MAX -> NONE !", "left MIN -> NONE !");
        edge("33: a LOST one is not being so", FILLED, "lose 1", "left 0 -> 0", "left 1 -> 0", "replace 1", "left 0 -> 2", "left 1 -> 8", "rebuild 1 1", "left 0 -> 1", "left 1 -> 4", "rebuild 1 1", "left 0 -> 0",
            "left 1 -> 0");
        edge("33: another one LOST", FILLED, "lose 1", "lose 3", "replace 1", "left 0 -> 2", "left 1 -> 6");
        edge("33: both: the lowest first, then the next", FILLED, "lose 1", "lose 3", "replace 1", "replace 3", "left 0 -> 4", "left 1 -> 14", "rebuild 3 1", "left 0 -> 3", "left 1 -> 11", "rebuild 1 2 -> 2", "log 0 2 -> 9",
            "left 1 -> 4", "rebuild 3 1", "log 0 2 -> 5");
        edge("33: the most of all", "shelf 'sd6t12c4k2' -> 288", "lose 0", "lose 7", "replace 0", "replace 7", "left 0 -> 24", "left 1 -> 624");
    }

    private void promise34() {
        edge("34: NONE: no SHELF", "fit -> NONE !");
        edge("34: one STRIPE, twelve", "shelf 'sd2t1' -> 4", "fit -> 1", "shelf 'sd2t12' -> 48", "fit -> 4095");
        edge("34: a PART, P, Q, the last BYTE", "shelf 'sd2t3c2' -> 12", "spoil 1 0 1 1", "fit -> 6", "spoil 2 1 0 1", "fit -> 4", "spoil 2 2 1 9", "fit -> 0", "scrub 3 -> 3", "fit -> 7");
        edge("34: two wrong ones that are OPEN", FILLED, "spoil 4 0 0 1", "spoil 0 0 0 128", "fit -> 2");
        edge("34: not all is THERE", FILLED, "lose 4", "fit -> 0", "replace 4", "fit -> 0", "rebuild 4 1", "fit -> 1", "rebuild 4 1", "fit -> 3");
        edge("34: DIRTY, but right", FILLED, "tear 0 9 0", "fit -> 3", "tear 0 9 1", "fit -> 2");
    }

    private void promise36() {
        edge("36: NONE: no SHELF, no IMAGE", "equal -> NONE !", FILLED, "equal -> NONE !");
        edge("36: NONE: no IMAGE of this SHELF", FILLED, "image", "equal -> 6", FILLED, "equal -> NONE !");
        edge("36: all, but one, none", lines(FILLED, "image", "equal -> 6", "write 5 1", "equal -> 5", times(6, "write # 77"), "equal -> 0", "write 0 5", "equal -> 1"));
        edge("36: what is READ, SOLVED now", FILLED, "image", "lose 1", "lose 2", "equal -> 6", "write 0 9", "equal -> 5");
        edge("36: what is READ, SOLVED in the IMAGE", FILLED, "lose 1", "lose 2", "image", "undo", "undo", "equal -> 6", "spoil 3 0 0 8", "equal -> 5");
        edge("36: P, Q are at no ADDRESS", FILLED, "image", "spoil 4 0 0 8", "spoil 0 0 0 8", "equal -> 6", "lose 1", "equal -> 5");
        edge("36: the largest", "shelf 'sd6t12c4' -> 288", "image", "equal -> 288", "write 287 1", "equal -> 287", "back", "equal -> 288");
    }

    private void promise37() {
        edge("37: NONE: no SHELF", "span 0 -> NONE !", "span 1 -> NONE !");
        edge("37: NONE: no such what", FILLED, "span 2 -> NONE !", "span -1 -> NONE !", "span MAX -> NONE !", "span MIN -> NONE !", "lose 1", "span 2 -> NONE !", "span -1 -> NONE !");
        edge("37: there is none", FILLED, "span 0 -> 0", "span 1 -> NONE");
        edge("37: P, Q are at no ADDRESS", "shelf 'sd2t1c1' -> 2", "lose 3", "lose 0", "span 0 -> 0", "span 1 -> NONE");
        edge("37: all of them", "shelf 'sd2t1c4' -> 8", "lose 1", "lose 2", "span 0 -> 8", "span 1 -> 0");
        edge("37: x.xx.x..: the longest, not the first", PAIRS, "lose 0", "lose 1", "span 0 -> 2", "span 1 -> 2");
        edge("37: xx.x..x.: from the first ADDRESS on", PAIRS, "lose 1", "lose 2", "span 0 -> 2", "span 1 -> 0");
        edge("37: .x..x.xx: to the last ADDRESS", PAIRS, "lose 2", "lose 3", "span 0 -> 2", "span 1 -> 6");
        edge("37: of several alike the first", PAIRS, "lose 1", "span 0 -> 1", "span 1 -> 0", "replace 1", "rebuild 1 1", "span 0 -> 1", "span 1 -> 3", "rebuild 1 1", "span 0 -> 0", "span 1 -> NONE");
        // PARTS: STRIPE 0 on 1 2 3, STRIPE 1 on 0 1 2: ADDRESSES 4 5 and 6 7.
        edge("37: over the end of a STRIPE", "shelf 'sd3t2c2' -> 12", "lose 3", "span 0 -> 2", "span 1 -> 4", "lose 0", "span 0 -> 4", "span 1 -> 4");
    }

    private void promise38() {
        edge("38: NONE: no SHELF", "risk -> NONE !");
        edge("38: of four, of eight DISKS", "shelf 'sd2' -> 16", "risk -> 6", "shelf 'sd6' -> 48", "risk -> 28");
        edge("38: one LOST, two LOST", FILLED, "lose 0", "risk -> 0", "lose 4", "risk -> 0");
        edge("38: one being REBUILT: with each other one", FILLED, "lose 0", "replace 0", "risk -> 4", "rebuild 0 1", "risk -> 4", "rebuild 0 1", "risk -> 10");
        edge("38: the last one being REBUILT: with each other one", FILLED, "lose 4", "replace 4", "risk -> 4", "undo", "undo", "lose 2", "replace 2", "risk -> 4");
        edge("38: one LOST, one being REBUILT", FILLED, "lose 0", "lose 4", "replace 4", "risk -> 0");
        edge("38: both being REBUILT", FILLED, "lose 0", "lose 4", "replace 4", "replace 0", "risk -> 1");
    }

    private void promise39() {
        edge("39: NONE: no SHELF", "first 0 -> NONE !", "first 1 -> NONE !", "first 2 -> NONE !");
        edge("39: NONE: no such DISK", FILLED, "first 0 -> NONE", "first 1 -> NONE", "first 2 -> NONE", "lose 1", "first 0 -> NONE", "first 1 -> NONE", "first 2 -> NONE");
        edge("39: NONE: no such what", FILLED, "first 3 -> NONE !", "lose 1", "replace 1", "first 2 -> 8", "first 3 -> NONE !", "first -1 -> NONE !", "first MAX -> NONE !", "first MIN -> NONE !");
        edge("39: DISK 0 is one", lines(FILLED, "lose 0", "replace 0", row("first", 0, 2, 8)));
        edge("39: of both the lowest", lines(FILLED, "lose 4", "lose 1", "replace 4", "replace 1", row("first", 1, 2, 6)));
        edge("39: that with fewest STRIPES left", lines(FILLED, "lose 4", "lose 1", "replace 4", "replace 1", "rebuild 4 1", row("first", 4, 1, 3), "rebuild 1 1", row("first", 1, 1, 3), "rebuild 1 1",
            row("first", 4, 1, 4)));
        edge("39: a LOST one is none of them", lines(FILLED, "lose 0", "lose 4", "replace 4", row("first", 4, 2, 6)));
        edge("39: what the other one has done is THERE", lines("shelf 'sd3t3c2k2' -> 18", "lose 1", "lose 2", "replace 1", "replace 2", "rebuild 1 1", "rebuild 2 2", row("first", 2, 1, 6), "rebuild 1 1",
            row("first", 1, 1, 6)));
    }

    // ---- SCRIPTS

    private void promise41() {
        edge("41: HIDDEN: no such ones", "step 0 0 0 -> HIDDEN !", "script 'w1,2;y' -> 0", "step 0 0 0 -> 0", "step 0 1 0 -> 7", "step 0 2 0 -> HIDDEN !", "step 0 -1 0 -> HIDDEN !", "step 1 0 0 -> HIDDEN !",
            "step -1 0 0 -> HIDDEN !", "step 0 0 5 -> HIDDEN !", "step 0 0 -1 -> HIDDEN !", "step MAX 0 0 -> HIDDEN !", "step MIN 0 0 -> HIDDEN !", "step 0 MAX 0 -> HIDDEN !", "step 0 MIN 0 -> HIDDEN !",
            "step 0 0 MAX -> HIDDEN !", "step 0 0 MIN -> HIDDEN !");
        edge("41: NONE: there are fewer", lines("script 'w1,2;l3;n4;r5,6;s7;p8,9,10,11;z12,13,14;y;f15,16,17,18' -> 0", row("step 0 0", 0, 1, 2, -1, -1, "HIDDEN"), row("step 0 1", 1, 3, -1, -1, -1),
            row("step 0 2", 2, 4, -1, -1, -1), row("step 0 3", 3, 5, 6, -1, -1), row("step 0 4", 4, 7, -1, -1, -1), row("step 0 5", 5, 8, 9, 10, 11, "HIDDEN"), row("step 0 6", 6, 12, 13, 14, -1),
            row("step 0 7", 7, -1, -1, -1, -1), row("step 0 8", 8, 15, 16, 17, 18, "HIDDEN")));
        edge("41: the 16th STEP", "script 'y;y;y;y;y;y;y;y;y;y;y;y;y;y;y;p0,0,0,999' -> 0", "step 0 15 0 -> 5", "step 0 15 1 -> 0", "step 0 15 4 -> 999", "step 0 16 0 -> HIDDEN !");
        edge("41: the fourth SCRIPT; the others stay", "script 'l1' -> 0", "script 'l2' -> 1", "script 'l3' -> 2", "script 'l4' -> 3", "step 3 0 1 -> 4", "step 2 0 1 -> 3", "step 1 0 1 -> 2", "step 0 0 1 -> 1",
            "step 4 0 0 -> HIDDEN !");
        edge("41: a FAULT is none", "script 'y;y' -> 0", "tape 'l1;l2;q'", "fault 1 -> 6", "text 1 -> NONE !", "step 0 0 0 -> 7", "step 1 0 0 -> HIDDEN");
        edge("41: without a SHELF, with another one", "script 'l1' -> 0", "step 0 0 1 -> 1", SMALL, FILLED, "step 0 0 1 -> 1");
    }

    private void promise42() {
        edge("42: HIDDEN: no SHELF", "script 'y' -> 0", "run 0 0 -> HIDDEN !", "run 0 1 -> HIDDEN !");
        edge("42: HIDDEN: no such SCRIPT, no such what", FILLED, "run 0 0 -> HIDDEN !", "script 's1' -> 0", "run 0 0 -> NONE", "run 1 0 -> HIDDEN !", "run -1 0 -> HIDDEN !", "run 0 2 -> HIDDEN !",
            "run 0 -1 -> HIDDEN !", "run MAX 0 -> HIDDEN !", "run MIN 0 -> HIDDEN !", "run 0 MAX -> HIDDEN !", "run 0 MIN -> HIDDEN !");
        edge("42: behind none, behind one, all can be", FILLED, "script 'w6,0;w0,1' -> 0", "run 0 0 -> 0", "run 0 1 -> 0", "script 'w0,1;w6,0;w0,1' -> 1", "run 1 0 -> 1", "run 1 1 -> 5",
            "script 'w0,1;w5,0' -> 2", "run 2 0 -> NONE", "run 2 1 -> 10");
        edge("42: the 16th can't be", FILLED, "script 's1;s1;s1;s1;s1;s1;s1;s1;s1;s1;s1;s1;s1;s1;s1;y' -> 0", "run 0 0 -> 15", "run 0 1 -> 75");
        edge("42: all 16 can be", FILLED, "script 's1;s1;s1;s1;s1;s1;s1;s1;s1;s1;s1;s1;s1;s1;s1;s1' -> 0", "run 0 0 -> NONE", "run 0 1 -> 80");
        edge("42: reads and writes of those ahead, not of what was WRITTEN ever", FILLED, "write 0 9", "scrub 2", "script 'w0,1;w6,0' -> 0", "run 0 1 -> 5", "run 0 0 -> 1");
        edge("42: a STEP by those ahead of it", FILLED, "script 'l1;n1;r1,1;r1,1;r1,1' -> 0", "run 0 0 -> 4", "run 0 1 -> 10", "script 'l1;l2;l3' -> 1", "run 1 0 -> 2", "script 'z0,9,1;y;y' -> 2", "run 2 0 -> 2",
            "run 2 1 -> 9");
        edge("42: from as it is now", FILLED, "script 'l1;n1' -> 0", "run 0 0 -> NONE", "lose 1", "run 0 0 -> 0", "undo", "run 0 0 -> NONE", "lose 3", "lose 4", "run 0 0 -> 0");
        alike("42: nothing is changed", lines(FILLED, "script 'w0,9;l1;n1;r1,2;s2;p1,0,0,7;z3,4,2;y;f1,0,2,2' -> 0", "run 0 0 -> NONE", "run 0 1 -> 40"),
            lines(FILLED, "script 'w0,9;l1;n1;r1,2;s2;p1,0,0,7;z3,4,2;y;f1,0,2,2' -> 0"));
        cantBe("a STEP that can't be of each sort", "w6,0", "w0,256", "l5", "n0", "n5", "r0,1", "r5,1", "s0", "s13", "p5,0,0,1", "p0,2,0,1", "p0,0,1,1", "p0,0,0,0", "p0,0,0,256", "z6,0,0", "z0,256,0", "z0,0,3", "y",
            "f2,0,0,0", "f0,1,0,0", "f0,0,256,0", "f0,0,0,256");
        canBe("the last that can be of each sort", "w5,255", "l4", "s12", "p4,1,0,255", "z5,255,2", "f1,0,255,255", "l0;n0", "l0;n0;r0,12", "z0,0,0;y");
    }

    private void cantBe(String sentence, String... scripts) {
        for (String script : scripts) {
            edge("42: " + sentence + ": " + script, FILLED, "script 's1;" + script + ";s1' -> 0", "run 0 0 -> 1", "run 0 1 -> 5", "perform 0 -> 1", "count 3 -> 1");
        }
    }

    private void canBe(String sentence, String... scripts) {
        for (String script : scripts) {
            int steps = script.split(";").length;
            edge("42: " + sentence + ": " + script, FILLED, "script '" + script + "' -> 0", "run 0 0 -> NONE", "perform 0 -> " + steps, "count 3 -> " + steps);
        }
    }

    private void promise43() {
        edge("43: NONE: no SHELF", "script 'y' -> 0", "perform 0 -> NONE !");
        edge("43: NONE: no such SCRIPT", FILLED, "perform 0 -> NONE !", "script 's1' -> 0", "perform 1 -> NONE !", "perform -1 -> NONE !", "perform MAX -> NONE !", "perform MIN -> NONE !", "perform 0 -> 1");
        edge("43: up to there: none, some, all", FILLED, "script 'y;s1' -> 0", "script 's1;y;s1' -> 1", "script 's1;s1' -> 2", "perform 0 -> 0", "count 3 -> 0", "perform 1 -> 1", "count 3 -> 1", "perform 2 -> 2", "count 3 -> 3");
        edge("43: all 16", FILLED, "script 'w0,1;w0,2;w0,3;w0,4;w0,5;w0,6;w0,7;w0,8;w0,9;w0,10;w0,11;w0,12;w0,13;w0,14;w0,15;w0,16' -> 0", "perform 0 -> 16", "read 0 -> 16", "count 4 -> 16", "undo -> 15", "read 0 -> 15");
        alike("43: its STEPS as ACTS", lines("script 'w0,9;l1;n1;r1,2;s2;p1,0,0,7;z3,4,2;y;f1,0,2,2' -> 0", FILLED, "perform 0 -> 9"), lines("script 'w0,9;l1;n1;r1,2;s2;p1,0,0,7;z3,4,2;y;f1,0,2,2' -> 0", FILLED, "write 0 9",
            "lose 1", "replace 1", "rebuild 1 2", "scrub 2", "spoil 1 0 0 7", "tear 3 4 2", "clean", "full 1 0 2 2"));
        edge("43: again and again", FILLED, "script 'l1' -> 0", "perform 0 -> 1", "perform 0 -> 0", "undo -> 0", "perform 0 -> 1");
    }

    // ---- the whole

    private void promise44() {
        edge("44: HIDDEN: no SHELF", times(11, "most # -> HIDDEN !"));
        edge("44: HIDDEN: no such what", SMALL, "most 10 -> NONE", "most 11 -> HIDDEN !", "most -1 -> HIDDEN !", "most MAX -> HIDDEN !", "most MIN -> HIDDEN !");
        edge("44: NONE each: none was", lines(SMALL, row("most", 0, 0, 0, 0, 0, 0, 0, 0, "NONE", "NONE", "NONE"), "scrub 2", "most 8 -> NONE", "most 9 -> NONE", "most 10 -> NONE"));
        edge("44: the latest BYTE MENDED: DISK 0, STRIPE 0, BYTE 0", SMALL, "spoil 0 0 0 1", "scrub 1 -> 1", "most 8 -> 0", "most 9 -> 0", "most 10 -> 0");
        edge("44: the latest BYTE MENDED: the last of all", "shelf 'sd6t12c4' -> 288", "spoil 7 11 3 1", "scrub 12 -> 1", "most 8 -> 7", "most 9 -> 11", "most 10 -> 3", "undo", "most 8 -> NONE", "most 9 -> NONE");
        edge("44: bits of the first and the last DISK", "shelf 'sd6' -> 48", "lose 7", "most 7 -> 128", "lose 0", "most 7 -> 129", "replace 0", "most 7 -> 129", "rebuild 0 4", "most 7 -> 128");
        edge("44: bits of the first and the last STRIPE", "shelf 'sd2t12c1' -> 24", "tear 23 0 0", "most 6 -> 2048", "tear 0 0 0", "most 6 -> 2049");
        edge("44: each is counted by itself", lines("shelf 'sd6t2c1k9' -> 12", mendedOften(), "most 2 -> 36", "spoil 7 0 0 1", "spoil 0 0 0 128", "scrub 12 -> 0", "most 3 -> 6", "tear 6 9 1 -> 1",
            "scrub 12 -> 0", "scrub 1 -> 0", row("most", 36 * 16 + 96 + 3 + 48 + 8, 37, 36, 13, 6, 1, 2, 0, 7, 0, 0), "disk 0 4 -> 1", "disk 3 4 -> 4", "disk 7 4 -> 8", "rule 4 -> 9"));
        edge("44: ever: of DISKS that are LOST, too", FILLED, "write 0 9", "lose 1", "lose 2", "most 0 -> 2", "most 1 -> 3");
    }

    /** DISK 0 once, DISK 1 twice .. DISK 7 eight times. */
    private static String[] mendedOften() {
        String[] all = {};
        for (int disk = 0; disk < 8; disk++) {
            all = lines(all, times(disk + 1, "spoil " + disk + " 0 0 77", "scrub 2 -> 1", "most 8 -> " + disk));
        }
        return all;
    }

    private void promise47() {
        edge("47: HIDDEN for others", "count 4 -> 0", "count 5 -> HIDDEN !", "count -1 -> HIDDEN !", "count MAX -> HIDDEN !", "count MIN -> HIDDEN !");
        edge("47: none, then all", lines(row("count", 0, 0, 0, 0, 0, "HIDDEN"), "shelf 'sd6t12c4' -> 288", "script 'y' -> 0", "tape 'abc'", times(61, "write # 1"), row("count", 288, 1, 3, 60, 40, "HIDDEN")));
        edge("47: the fewest ADDRESSES", "shelf 'sd2t1c1' -> 2", "count 0 -> 2");
        edge("47: the TAPE and SCRIPTS without a SHELF", "script 'y' -> 0", "tape 'y;y'", "count 1 -> 1", "count 2 -> 3", "count 0 -> 0", "end 0", "count 2 -> 0");
    }

    /** All that is asked apart, whole or not, changes nothing. */
    private void apart() {
        String[] questions = {"cost 0 0", "told 1 0 0 1 4", "who 0 0", "who 1 0", "more", "left 0", "left 1", "fit", "checked 0", "checked 3", "equal", "span 0", "span 1", "risk", "first 0", "first 1", "first 2", "votes 0 5",
            "votes 3 0", "run 0 0", "run 0 1", "read 0", "read 3", "cell 1 0 0", "disk 1 2", "rule 4", "log 0 0", "most 3", "times 3 4", "over 3 4", "power 9", "logOf 9", "place 0 0", "part 0 0", "step 0 0 0", "count 3",
            "status 0", "fault 0", "fault 1"};
        String[][] worlds = {
            {FILLED, "script 'w0,9;s2;l4' -> 0", "spoil 1 0 0 8"},
            {FILLED, "script 'w0,9;s2;l4' -> 0", "image", "spoil 1 0 0 8", "lose 2", "lose 3", "replace 2", "rebuild 2 1"},
            {FILLED, "script 'w0,9;s2;l4' -> 0", "tear 0 9 1", "image", "tear 3 9 2", "lose 1", "replace 1"},
        };
        for (String[] world : worlds) {
            alike("3: Apart, from as it is now", lines(world, questions), world);
        }
    }

    public static void main(String[] args) {
        EdgesOfQuestionsTest test = new EdgesOfQuestionsTest();
        test.promise29();
        test.promise30();
        test.promise31();
        test.promise32();
        test.promise33();
        test.promise34();
        test.promise35();
        test.promise36();
        test.promise37();
        test.promise38();
        test.promise39();
        test.promise40();
        test.promise41();
        test.promise42();
        test.promise43();
        test.promise44();
        test.promise47();
        test.apart();
        test.check.finish("EdgesOfQuestionsTest");
    }
}
