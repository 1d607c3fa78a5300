import java.util.ArrayList;
import java.util.List;

/** Edges of YEARS, STATUS, what is UNDONE, the LOG, and IMAGES: promises 25 to 28, 45 and 46. */
public final class EdgesOfPastTest extends Edges {
    private static final String[] NO_LINES = {};
    /** 24 ADDRESSES, five DISKS, four STRIPES, two BYTES: what the draws below are of. */
    private static final String DRAWN = "shelf 'sd3t4c2k3;vx7' -> 24";
    /** ACTS of each sort. */
    private static final String[] EACH_ACT = {"write 0 9", "lose 2", "replace 2", "rebuild 2 1", "scrub 1", "spoil 3 1 0 4", "tear 0 8 1", "clean", "full 1 0 3 4"};

    /** "undo -> 39", "undo -> 38" .. "undo -> 0". */
    private static String[] undoAll(int many) {
        List<String> all = new ArrayList<>();
        for (int i = many - 1; i >= 0; i--) {
            all.add("undo -> " + i);
        }
        return all.toArray(NO_LINES);
    }

    /** Each with what is READ then: the VALUE ahead, which was one less. */
    private static String[] undoAndRead(int many, int value) {
        String[] all = {};
        for (int i = 0; i < many; i++) {
            all = lines(all, "undo -> " + (many - 1 - i), "read 0 -> " + (value - i), "most 1 -> " + 3 * (value - i + 1), "log 0 2 -> 5");
        }
        return all;
    }

    // ---- YEARS

    private void promise25() {
        edge("25: NONE: no SHELF", "years 1 1 -> NONE !", "years 0 1 -> NONE !", "years 40 0 -> NONE !");
        edge("25: NONE: out of bounds", DRAWN, "years 0 1 -> NONE !", "years -1 1 -> NONE !", "years 41 1 -> NONE !", "years MAX 1 -> NONE !", "years MIN 1 -> NONE !");
        edge("25: 1 and 40 are taken", DRAWN, "years 1 1 -> 5", "count 4 -> 1", "years 40 2");
        edge("25: reads and writes ever", DRAWN, "write 0 1", "years 1 1 -> 10", "years 1 107 -> 10", "most 0 -> 4", "most 1 -> 6");
        year("0", 147, "write 4 183");
        year("1", 10, "write 10 99");
        year("2", 1, "write 9 204");
        year("3", 127, "write 16 18");
        year("4, to the last ADDRESS", 7, "write 23 49");
        year("4, to the first ADDRESS", 8, "write 0 236");
        year("VALUE 255", 329, "write 18 255");
        year("VALUE 0", 654, "write 16 0");
        year("5, the last DISK", 52, "lose 4");
        year("5, the first DISK", 324, "lose 0");
        alike("4: 6", lines(DRAWN, "lose 4", "years 1 107"), lines(DRAWN, "lose 4", "replace 4"));
        alike("4: 7", lines(DRAWN, "lose 4", "replace 4", "years 1 50"), lines(DRAWN, "lose 4", "replace 4", "rebuild 4 3"));
        alike("4: 8, one STRIPE", lines(DRAWN, "lose 4", "replace 4", "years 1 23"), lines(DRAWN, "lose 4", "replace 4", "rebuild 4 1"));
        alike("4: 8, all STRIPES", lines(DRAWN, "lose 3", "replace 3", "years 1 26"), lines(DRAWN, "lose 3", "replace 3", "rebuild 3 4"));
        year("9, one STRIPE", 167, "scrub 1");
        year("9, all STRIPES", 170, "scrub 4");
        year("10", 30, "spoil 3 1 0 50");
        year("10, X 255", 1876, "spoil 2 0 1 255");
        year("10, X 1", 4524, "spoil 2 0 0 1");
        year("11, HOW 0, then CLEANED, an ACT of its own", 6, "tear 14 117 0", "clean -> 1");
        year("11, HOW 1, then CLEANED, an ACT of its own", 0, "tear 0 17 1", "clean -> 1");
        year("11, HOW 2, then CLEANED, an ACT of its own", 9, "tear 9 168 2", "clean -> 1");
        year("seed -1", -1, "write 23 85");
        year("the highest seed", Long.MAX_VALUE, "write 7 85");
        year("the lowest seed", Long.MIN_VALUE, "write 16 17");
        alike("4: x goes on from year to year", lines(DRAWN, "years 3 0"), lines(DRAWN, "tear 0 17 1", "clean", "lose 1"));
        alike("4: x goes on from year to year, seed -1", lines(DRAWN, "years 3 -1"), lines(DRAWN, "write 23 85", "write 0 67", "scrub 4"));
        alike("4: x is the seed again with each call", lines(DRAWN, "years 1 0", "years 1 0"), lines(DRAWN, "tear 0 17 1", "clean", "tear 0 17 1", "clean"));
    }

    private void year(String what, long seed, String... acts) {
        alike("4: a draw of 12: " + what, lines(DRAWN, "years 1 " + seed), lines(DRAWN, acts));
    }

    private void whatCantBeIsLeft() {
        alike("4: LOST already", lines(DRAWN, "lose 4", "years 1 52"), lines(DRAWN, "lose 4"));
        alike("4: a third DISK", lines(DRAWN, "lose 0", "lose 1", "years 1 52"), lines(DRAWN, "lose 0", "lose 1"));
        alike("4: not LOST", lines(DRAWN, "years 1 107"), lines(DRAWN));
        alike("4: no SPARE", lines("shelf 'sd3t4c2k0' -> 24", "lose 4", "years 1 107"), lines("shelf 'sd3t4c2k0' -> 24", "lose 4"));
        alike("4: not being REBUILT", lines(DRAWN, "years 1 50"), lines(DRAWN));
        alike("4: not THERE to be SPOILT", lines(DRAWN, "lose 3", "years 1 30"), lines(DRAWN, "lose 3"));
        alike("4: TORN, but not CLEANED", lines(DRAWN, "lose 2", "years 1 0"), lines(DRAWN, "lose 2", "tear 0 17 1"));
        alike("4: neither TORN nor CLEANED", lines(DRAWN, "lose 1", "years 1 0"), lines(DRAWN, "lose 1"));
        // ADDRESS 9 is on DISK 1, STRIPE 1, which is not done yet; STRIPE 0 is DIRTY and all of it is THERE.
        String[] dirty = lines(DRAWN, "tear 0 1 1", "lose 1", "replace 1", "rebuild 1 1");
        alike("4: not TORN, but CLEANED", lines(dirty, "years 1 9"), lines(dirty, "clean -> 1"));
        edge("4: what can't be is left (no STATUS)", DRAWN, "years 1 107", "years 1 50", "lose 4", "years 1 52", "lose 0", "years 1 0", "status 0 -> 0", "status 1 -> 0", "status 2 -> 0", "status 3 -> 0",
            "count 3 -> 2");
        edge("4: the smallest SHELF", "shelf 'sd2t1c1k9' -> 2", "years 40 1", "years 40 2", "years 40 -3", "count 3 -> 60", "count 4 -> 40", "read 2 -> throws");
    }

    // ---- STATUS

    private void promise26() {
        edge("26: NONE: no such what", SMALL, "status -1 -> NONE !", "status 4 -> NONE !", "status MAX -> NONE !", "status MIN -> NONE !");
        edge("26: all four, none yet", "status 0 -> 0", "status 1 -> 0", "status 2 -> 0", "status 3 -> 0", "status 4 -> NONE");
        edge("26: how many ACTS were refused", "shelf 'sd3t2c1k0' -> 6", "lose 5 -> NONE !0", "scrub 0 -> NONE !1", "scrub 13 -> NONE !1", "replace 0 -> NONE !2", "clean -> NONE !2", "rebuild 0 1 -> NONE !2",
            "lose 0", "replace 0 -> NONE !3", "lose 1", "lose 2 -> NONE !3", "lose 3 -> NONE !3", "lose 4 -> NONE !3");
        edge("26: each sort without a SHELF (0)", lines(times(2, "write 0 0 -> NONE !0", "lose 0 -> NONE !0", "replace 0 -> NONE !0", "rebuild 0 1 -> NONE !0", "scrub 1 -> NONE !0", "spoil 0 0 0 1 -> NONE !0",
            "tear 0 0 0 -> NONE !0", "clean -> NONE !0", "full 0 0 0 0 -> NONE !0"), "status 0 -> 18"));
        edge("26: not UNDONE", FILLED, "write 0 9", "write 6 0 -> NONE !0", "write 0 256 -> NONE !1", "write 0 8", "undo -> 1", "undo -> 0", "undo -> NONE !");
        edge("26: not brought BACK", FILLED, "image", "write 6 0 -> NONE !0", "write 0 256 -> NONE !1", "back");
        edge("26: what is no ACT counts none", lines(FILLED, "cell 9 9 9 -> NONE !", "read 9 -> throws !", "undo -> NONE !", "back -> NONE !", "years 41 1 -> NONE !", "perform 0 -> NONE !", "cost 6 0 -> NONE !",
            "told 0 0 0 1 1 -> NONE !", "votes 0 256 -> NONE !", "text 0 -> NONE !", "end 1 -> false !"));
        edge("26: DO counts none", FILLED, "script 'w6,0' -> 0", "script 'w0,256' -> 1", "script 'y' -> 2", "perform 0 -> 0", "perform 1 -> 0", "perform 2 -> 0", "run 0 0 -> 0");
        edge("26: an ACT that is done counts none", lines(FILLED, EACH_ACT));
    }

    // ---- UNDONE

    private void promise27() {
        edge("27: NONE: none", "undo -> NONE !");
        edge("27: NONE: none of a new SHELF", FILLED, "undo -> NONE !", "write 0 9", "undo -> 0", "undo -> NONE !");
        edge("27: 39, 40, 41 of them", lines(FILLED, times(39, "write 0 #"), "count 4 -> 39", "write 0 39", "count 4 -> 40", "write 0 40", "count 4 -> 40"));
        edge("27: the latest 40 ACTS, not the one ahead", lines(FILLED, times(41, "write 0 #"), "read 0 -> 40", undoAll(40), "undo -> NONE !", "read 0 -> 0", "count 3 -> 1", "most 1 -> 3"));
        edge("27: all 40 of 40", lines(FILLED, times(40, "write 0 #"), undoAll(40), "undo -> NONE !", "read 0 -> 5", "count 3 -> 0", "most 1 -> 0"));
        edge("27: all 40, each as it was", lines(FILLED, times(75, "write 0 #"), undoAndRead(40, 73)));
        edge("27: one by one", lines(FILLED, "write 0 1", "write 1 2", "write 2 4", "undo -> 2", "read 2 -> 1", "read 1 -> 2", "undo -> 1", "read 1 -> 3", "read 0 -> 1", "undo -> 0", "read 0 -> 5"));
        edge("27: UNDONE, then others", lines(FILLED, times(40, "write 0 #"), times(10, "undo"), "count 4 -> 30", "read 0 -> 29", times(5, "write 1 #"), "count 4 -> 35", undoAll(35), "read 0 -> 5", "read 1 -> 3",
            "undo -> NONE !"));
        edge("27: round and round", lines(FILLED, times(97, "write 0 #"), undoAll(40), "read 0 -> 56", times(33, "write 1 #"), undoAll(33), "read 1 -> 3", "read 0 -> 56", "undo -> NONE !"));
        edge("27: what is refused is no ACT", FILLED, "write 0 9", "write 6 9 -> NONE !0", "lose 5 -> NONE !0", "undo -> 0", "read 0 -> 5");
        edge("27: each ACT of YEARS by itself", lines(DRAWN, "years 1 0", "count 4 -> 2", "undo -> 1", "most 6 -> 1", "read 0 -> 17", "undo -> 0", "most 6 -> 0", "read 0 -> 7"));
        edge("27: each STEP of a SCRIPT by itself", FILLED, "script 'w0,1;w0,2;w0,3' -> 0", "perform 0 -> 3", "undo -> 2", "read 0 -> 2", "undo -> 1", "read 0 -> 1", "undo -> 0", "read 0 -> 5");
        edge("27: of another SHELF none", FILLED, "write 0 9", SMALL, "undo -> NONE !");
        for (int i = 0; i < EACH_ACT.length; i++) {
            String[] ahead = java.util.Arrays.copyOf(EACH_ACT, i);
            alike("27: UNDONE: " + EACH_ACT[i], lines(FILLED, ahead, EACH_ACT[i], "undo -> " + i), lines(FILLED, ahead));
        }
        alike("27: MENDED, OPEN and PASSED ones, too", lines("shelf 'sd3t4c2k3' -> 24", "spoil 3 1 1 7", "spoil 0 0 0 1", "spoil 4 0 0 128", "tear 12 1 0", "scrub 3 -> 1", "undo -> 4"),
            lines("shelf 'sd3t4c2k3' -> 24", "spoil 3 1 1 7", "spoil 0 0 0 1", "spoil 4 0 0 128", "tear 12 1 0"));
        edge("27: an IMAGE is no ACT and stays", FILLED, "write 0 9", "image -> 5", "undo -> 0", "equal -> 5", "back -> 5", "read 0 -> 9");
    }

    // ---- the LOG

    private void promise28() {
        edge("28: HIDDEN: no such ones", "log 0 0 -> HIDDEN !", SMALL, "log 0 0 -> HIDDEN !", "write 0 1", "log 0 0 -> 0", "log 1 0 -> HIDDEN !", "log -1 0 -> HIDDEN !", "log 0 -1 -> HIDDEN !", "log 0 3 -> HIDDEN !",
            "log MAX 0 -> HIDDEN !", "log MIN 0 -> HIDDEN !", "log 0 MAX -> HIDDEN !", "log 0 MIN -> HIDDEN !");
        edge("28: 59, 60, 61 of them", lines(SMALL, times(59, "write 0 #"), "count 3 -> 59", "log 58 1 -> 0", "log 59 1 -> HIDDEN", "write 1 0", "count 3 -> 60", "log 59 1 -> 0", "log 60 1 -> HIDDEN", "write 2 0",
            "count 3 -> 60", "log 0 1 -> 2", "log 1 1 -> 1", "log 2 1 -> 0", "log 60 1 -> HIDDEN"));
        edge("28: the latest 60", lines("shelf 'sd6t12c4' -> 288", times(101, "spoil 1 0 0 1", "write # 1"), "count 3 -> 60", "log 0 1 -> 100", "log 1 1 -> 1", "log 2 1 -> 99", "log 58 1 -> 71", "log 59 0 -> 5",
            "log 59 1 -> 1", "log 60 0 -> HIDDEN !"));
        edge("2: the LOG is UNDONE, too: those ahead come to light", lines("shelf 'sd6t12c4' -> 288", times(100, "write # 1"), "log 59 1 -> 40", "undo -> 39", "count 3 -> 60", "log 0 1 -> 98", "log 59 1 -> 39",
            times(39, "undo"), "count 3 -> 60", "log 0 1 -> 59", "log 59 1 -> 0", "log 60 1 -> HIDDEN !", "undo -> NONE !"));
        edge("2: fewer than 60 are left", lines("shelf 'sd6t12c4' -> 288", times(70, "write # 1"), times(40, "undo"), "count 3 -> 30", "log 0 1 -> 29", "log 29 1 -> 0", "log 30 1 -> HIDDEN !"));
        edge("28: of each sort", lines(FILLED, "write 5 1", row("log 0", 0, 5, 5), "lose 3", row("log 0", 1, 3, 0), "replace 3", row("log 0", 2, 3, 0), "rebuild 3 2", row("log 0", 3, 3, 10), "scrub 12",
            row("log 0", 4, 12, 60), "spoil 4 1 0 9", row("log 0", 5, 4, 0), "tear 2 1 2", row("log 0", 6, 2, 5), "clean", row("log 0", 7, 1, 5), "full 1 0 0 0", row("log 0", 8, 1, 5)));
        edge("28: REBUILT: the DISK; CLEANED: how many", "shelf 'sd3t3c1k2' -> 9", "lose 4", "replace 4", "rebuild 4 12", "log 0 1 -> 4", "tear 0 1 1", "tear 3 1 1", "tear 6 1 1", "clean -> 3", "log 0 1 -> 3");
        edge("28: the number 0", FILLED, "lose 0", "log 0 1 -> 0", "replace 0", "log 0 1 -> 0", "rebuild 0 1", "log 0 1 -> 0", "spoil 0 0 0 1", "log 0 1 -> 0", "full 0 0 0 0", "log 0 1 -> 0", "write 0 0",
            "log 0 1 -> 0");
        edge("28: what is refused is not in it", FILLED, "write 6 0 -> NONE !0", "lose 9 -> NONE !0", "count 3 -> 0", "log 0 0 -> HIDDEN");
        edge("28: of another SHELF none", FILLED, "write 0 9", SMALL, "count 3 -> 0", "log 0 0 -> HIDDEN !");
    }

    // ---- IMAGES

    private void promise45() {
        edge("45: NONE: no SHELF", "image -> NONE !");
        edge("45: reads and writes ever", FILLED, "image -> 0", "write 0 9", "image -> 5", "scrub 1", "image -> 10");
        edge("45: no ACT", FILLED, "write 0 9", "image -> 5", "count 3 -> 1", "count 4 -> 1", "undo -> 0", "read 0 -> 5");
        edge("45: instead of the one ahead", FILLED, "image", "write 0 9", "image", "write 0 8", "back -> 5", "read 0 -> 9", "back -> 5", "read 0 -> 9");
    }

    private void promise46() {
        edge("46: NONE: no SHELF", "back -> NONE !", "equal -> NONE !");
        edge("46: NONE: no IMAGE", FILLED, "write 0 9", "back -> NONE !", "equal -> NONE !", "read 0 -> 9");
        edge("46: NONE: no IMAGE of this SHELF", FILLED, "image", SMALL, "back -> NONE !", "equal -> NONE !", "image -> 0", "back -> 0");
        edge("46: an IMAGE stays when a text is refused", FILLED, "image", "tape 'sd7'", "text 0 -> NONE !", "write 0 9", "back -> 0", "read 0 -> 5");
        edge("46: no ACT can be UNDONE then", FILLED, "write 0 9", "image", "write 0 8", "count 4 -> 2", "back -> 5", "count 4 -> 0", "undo -> NONE !", "read 0 -> 9", "write 0 7", "undo -> 0", "read 0 -> 9");
        edge("46: again and again", FILLED, "image", "write 0 9", "back -> 0", "lose 1", "back -> 0", "most 7 -> 0", "back -> 0");
        edge("46: reads and writes ever are as they were", lines(FILLED, "write 0 9", "image -> 5", EACH_ACT, "back -> 5", "most 0 -> 2", "most 1 -> 3"));
        alike("46: it is so again", lines(FILLED, "image", EACH_ACT, "back -> 0"), lines(FILLED, "image"));
        alike("46: it is so again, when it was not whole", lines(FILLED, "image", EACH_ACT, "lose 4", "image", times(50, "write 0 #"), "replace 4", "scrub 12", "back"),
            lines(FILLED, "image", EACH_ACT, "lose 4", "image", "back"));
        alike("46: what the LOG was, too", lines("shelf 'sd6t12c4' -> 288", times(70, "write # 1"), "image", times(130, "write # 2"), "back", "count 3 -> 60", "log 0 1 -> 69", "log 59 1 -> 10"),
            lines("shelf 'sd6t12c4' -> 288", times(70, "write # 1"), "image", "back"));
        edge("46: UNDONE behind it: those ahead in the LOG come to light", lines("shelf 'sd6t12c4' -> 288", times(80, "write # 1"), "image", "back", times(45, "lose 1", "undo"), times(40, "write 200 #"),
            "log 59 1 -> 60", times(40, "undo"), "log 0 1 -> 79", "log 59 1 -> 20"));
        edge("46: SCRIPTS, the TAPE and STATUS are not of it", FILLED, "image", "script 'y' -> 0", "tape 'abc'", "lose 9 -> NONE !0", "back -> 0", "count 1 -> 1", "count 2 -> 3");
    }

    private void the512thCall() {
        String[] writes = times(503, "write 0 7");
        edge("An object is used for at most 512 calls: the last of them", lines(FILLED, writes, "count 3 -> 60"));
        String[] years = times(500, "years 40 #");
        edge("An object is used for at most 512 calls: YEARS all along", lines("shelf 'sd6t12c4k9' -> 288", years, "count 4 -> 40"));
    }

    public static void main(String[] args) {
        EdgesOfPastTest test = new EdgesOfPastTest();
        test.promise25();
        test.whatCantBeIsLeft();
        test.promise26();
        test.promise27();
        test.promise28();
        test.promise45();
        test.promise46();
        test.the512thCall();
        test.check.finish("EdgesOfPastTest");
    }
}
