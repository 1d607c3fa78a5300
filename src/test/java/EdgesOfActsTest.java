import java.util.ArrayList;
import java.util.List;

/** Edges of what stands and of the ACTS: promises 13 to 24. */
public final class EdgesOfActsTest extends Edges {
    private static final String[] NO_NUMBERS = {};

    // ---- READ, SOLVED, THERE

    private void promise13() {
        edge("13: NoSuchElementException: no SHELF", "read 0 -> throws !", "read -1 -> throws !");
        edge("13: NoSuchElementException: no such ADDRESS", FILLED, "read 5 -> 0", "read 6 -> throws !", "read -1 -> throws !", "read MAX -> throws !", "read MIN -> throws !");
        edge("13: the last ADDRESS of the largest SHELF", "shelf 'sd6t12c4;va287x3' -> 288", "read 287 -> 3", "read 288 -> throws !");
        edge("2: READ is a BYTE as it stands", FILLED, "spoil 1 0 0 250 -> 255", "read 0 -> 255");
        edge("2: READ costs nothing", FILLED, "read 0 -> 5", "lose 1", "read 0 -> 5", "most 0 -> 0", "most 1 -> 0");
        for (int data = 2; data <= 6; data++) {
            for (int field = 0; field < 4; field++) {
                anyTwoCanBeSolved(data, field);
            }
        }
    }

    /** All BYTES of two STRIPES, whichever one or two DISKS are LOST, are READ and REBUILT as they were. */
    private void anyTwoCanBeSolved(int data, int field) {
        StringBuilder text = new StringBuilder("sd" + data + "t2c1k2f" + field);
        for (int a = 0; a < 2 * data; a++) {
            text.append(";va").append(a).append('x').append((a * 83 + 190) % 256);
        }
        StripeShelf sound = Check.shelf(text.toString());
        for (int one = 0; one < data + 2; one++) {
            for (int other = one; other < data + 2; other++) {
                StripeShelf x = Check.shelf(text.toString());
                x.lose(one);
                x.lose(other);
                String what = "2: any two can be solved: " + text + " without " + one + ", " + other;
                for (int a = 0; a < 2 * data; a++) {
                    check.due(what + ", read(" + a + ")", Check.read(x, a, -77), (a * 83 + 190) % 256);
                }
                x.replace(one);
                x.rebuild(one, 2);
                x.replace(other);
                x.rebuild(other, 2);
                for (int stripe = 0; stripe < 2; stripe++) {
                    check.due(what + ", rebuilt " + one, x.cell(one, stripe, 0), sound.cell(one, stripe, 0));
                    check.due(what + ", rebuilt " + other, x.cell(other, stripe, 0), sound.cell(other, stripe, 0));
                }
                check.due(what + ", all sums", x.fit(), 3);
            }
        }
    }

    private void solvedFromThoseThatStand() {
        edge("2: one PART alone by P", FILLED, "spoil 4 0 0 8", "spoil 0 0 0 64", "lose 1", "read 0 -> 13", "replace 1", "rebuild 1 1", "cell 1 0 0 -> 13");
        edge("2: P alone by PARTS", FILLED, "spoil 1 0 0 8", "lose 4", "replace 4", "rebuild 4 1", "cell 4 0 0 -> 15");
        edge("2: Q alone by PARTS", FILLED, "spoil 1 0 0 8", "spoil 4 0 0 64", "lose 0", "replace 0", "rebuild 0 1", "cell 0 0 0 -> 15");
        edge("2: P, Q by PARTS", FILLED, "spoil 1 0 0 8", "lose 0", "lose 4", "replace 0", "rebuild 0 1", "cell 0 0 0 -> 15", "replace 4", "rebuild 4 1", "cell 4 0 0 -> 15");
        // Q 15: PART 0 is 15 ^ 6 ^ 4, then P 13 ^ 3 ^ 1.
        edge("2: a PART and P: that PART by Q, then P", FILLED, "spoil 0 0 0 8 -> 15", "lose 1", "lose 4", "read 0 -> 13", "replace 4", "rebuild 4 1", "cell 4 0 0 -> 15");
        edge("2: a PART and P: a later PART", FILLED, "spoil 0 0 0 4 -> 3", "lose 3", "lose 4", "read 2 -> 0", "replace 4", "rebuild 4 1", "cell 4 0 0 -> 6");
        // P 15: PART 0 is 15 ^ 3 ^ 1, then Q 13 ^ 6 ^ 4.
        edge("2: a PART and Q: that PART by P, then Q", FILLED, "spoil 4 0 0 8 -> 15", "lose 1", "lose 0", "read 0 -> 13", "replace 0", "rebuild 0 1", "cell 0 0 0 -> 15");
        // PART 2 is 9: p 7 ^ 9, q 7 ^ 36; PART 0 is (35 ^ 28) by 3 = 21, PART 1 is 14 ^ 21.
        edge("2: PARTS i and j", FILLED, "spoil 3 0 0 8 -> 9", "lose 1", "lose 2", "read 0 -> 21", "read 1 -> 27", "read 2 -> 9", "replace 2", "rebuild 2 1", "cell 2 0 0 -> 27",
            "replace 1", "rebuild 1 1", "cell 1 0 0 -> 21");
        // PART 0 is 13: p 7 ^ 13 = 10, q 7 ^ 13 = 10; PART 1 is (10 ^ 40) by (2 ^ 4) = 34 by 6, PART 2 is p and that.
        edge("2: PARTS i and j, the last ones", FILLED, "spoil 1 0 0 8 -> 13", "lose 2", "lose 3", "over 34 6 -> 15", "read 1 -> 15", "read 2 -> 5", "read 0 -> 13");
    }

    private void promise14() {
        edge("14: NONE: no SHELF", "cell 0 0 0 -> NONE !");
        edge("14: NONE: no such ones", lines("shelf 'sd2t3c2;va11x9' -> 12", "cell 3 2 1 -> 0", "cell 4 0 0 -> NONE !", "cell -1 0 0 -> NONE !", "cell 0 3 0 -> NONE !",
            "cell 0 -1 0 -> NONE !", "cell 0 0 2 -> NONE !", "cell 0 0 -1 -> NONE !", "cell MAX 0 0 -> NONE !", "cell 0 MAX 0 -> NONE !", "cell 0 0 MAX -> NONE !",
            "cell MIN 0 0 -> NONE !", "cell 0 MIN 0 -> NONE !", "cell 0 0 MIN -> NONE !"));
        edge("14: the last of all", "shelf 'sd6t12c4;va287x200' -> 288", "place 287 0 -> 3", "cell 3 11 3 -> 200", "cell 7 11 3 -> 0", "cell 8 11 3 -> NONE !", "cell 7 12 3 -> NONE !",
            "cell 7 11 4 -> NONE !");
        edge("14: HIDDEN: it is not THERE; no such one ahead of it", FILLED, "lose 2", "cell 2 0 0 -> HIDDEN", "cell 2 1 0 -> HIDDEN", "cell 2 2 0 -> NONE", "cell 2 0 1 -> NONE",
            "cell 1 0 0 -> 5");
        edge("2: the first STRIPES, as many as are done, are THERE, its others are not", "shelf 'sd3t3c1k2;vx5' -> 9", "lose 1", "replace 1", "cell 1 0 0 -> HIDDEN", "rebuild 1 1",
            "cell 1 0 0 -> 5", "cell 1 1 0 -> HIDDEN", "cell 1 2 0 -> HIDDEN", "rebuild 1 1", "cell 1 1 0 -> 0", "cell 1 2 0 -> HIDDEN", "rebuild 1 1", "cell 1 2 0 -> 0");
        edge("2: all its BYTES are gone", "shelf 'sd3t3c1k2;vx5' -> 9", "lose 1", "replace 1", "rebuild 1 2", "cell 1 0 0 -> 5", "lose 1 -> 1", "cell 1 0 0 -> HIDDEN", "replace 1 -> 0",
            "cell 1 0 0 -> HIDDEN", "rebuild 1 1 -> 1", "cell 1 0 0 -> 5");
        edge("14: each BYTE of a CHUNK by itself", lines("shelf 'sd2t1c4;vx255;va1x1;va2x128;va3x254' -> 8", row("cell 1 0", 255, 1, 128, 254, "NONE"),
            row("cell 3 0", 255, 1, 128, 254), row("cell 0 0", 255, 1, 128, 254), row("cell 2 0", 0, 0, 0, 0)));
    }

    private void promise15() {
        edge("15: NONE: no SHELF", "disk 0 0 -> NONE !");
        edge("15: NONE: no such ones", SMALL, "disk 4 4 -> 0", "disk 5 0 -> NONE !", "disk -1 0 -> NONE !", "disk 0 5 -> NONE !", "disk 0 -1 -> NONE !", "disk MAX 0 -> NONE !",
            "disk MIN 0 -> NONE !", "disk 0 MAX -> NONE !", "disk 0 MIN -> NONE !");
        edge("15: of eight DISKS", "shelf 'sd6' -> 48", "disk 7 0 -> 0", "disk 7 1 -> 4", "disk 8 0 -> NONE !");
        edge("15: WHOLE: all; LOST: 0; being REBUILT: those done", lines("shelf 'sd3t3c1k2' -> 9", row("disk 2", 0, 3), "lose 2", row("disk 2", 1, 0), "replace 2", row("disk 2", 2, 0),
            "rebuild 2 1", row("disk 2", 2, 1), "rebuild 2 1", row("disk 2", 2, 2), "rebuild 2 1", row("disk 2", 0, 3)));
        edge("15: ever: a LOST DISK keeps them", lines(FILLED, "write 0 9", "write 1 9", "spoil 1 0 0 7", "scrub 1 -> 1", row("disk 1", 0, 2, 2, 2, 1), "lose 1",
            row("disk 1", 1, 0, 2, 2, 1), "replace 1", "rebuild 1 2", row("disk 1", 0, 2, 2, 4, 1)));
    }

    // ---- WRITTEN

    private void promise16() {
        edge("16: no SHELF (STATUS 0)", "write 0 0 -> NONE !0", "write 0 256 -> NONE !0");
        edge("16: no such ADDRESS (STATUS 0)", FILLED, "write 5 1 -> 0", "write 6 0 -> NONE !0", "write -1 0 -> NONE !0", "write MAX 0 -> NONE !0", "write MIN 0 -> NONE !0");
        edge("16: VALUE not 0 .. 255 (1)", FILLED, "write 0 0 -> 5", "write 0 255 -> 0", "write 0 256 -> NONE !1", "write 0 -1 -> NONE !1", "write 0 MAX -> NONE !1",
            "write 0 MIN -> NONE !1", "read 0 -> 255");
        edge("16: of several the first", FILLED, "write 6 256 -> NONE !0", "write -1 -1 -> NONE !0");
        edge("16: the same VALUE again is an ACT and costs the same", FILLED, "write 0 5 -> 5", "count 4 -> 1", "most 0 -> 2", "most 1 -> 3");
        edge("16: what was READ there ahead, SOLVED", FILLED, "lose 1", "write 0 9 -> 5", "write 0 8 -> 9", "lose 2", "write 1 7 -> 3", "write 0 0 -> 8", "read 1 -> 7");
    }

    private void waysOfAWrite() {
        edge("2: SMALL: P, Q are more by what it changes", lines("shelf 'sd4t1c1' -> 4", "spoil 5 0 0 64", "spoil 0 0 0 32", "write 3 3 -> 0",
            cells(0, 32 ^ 24, 0, 0, 0, 3, 67), row("disk 4", 0, 1, 1, 1), row("disk 5", 0, 1, 1, 1), row("disk 0", 0, 1, 1, 1), "most 0 -> 3", "most 1 -> 3"));
        edge("2: WIDE: P, Q are reckoned anew", lines(FILLED, "spoil 4 0 0 64", "spoil 0 0 0 32", "write 0 9 -> 5", cells(0, 11, 9, 3, 1, 11),
            "disk 2 2 -> 1", "disk 3 2 -> 1", "most 0 -> 2", "disk 1 3 -> 1", "disk 4 3 -> 1", "disk 0 3 -> 1", "most 1 -> 3"));
        edge("2: of several in this order: SMALL ahead of WIDE, P gone", lines(FILLED, "spoil 0 0 0 64 -> 71", "lose 4", "write 0 9 -> 5", cells(0, 71 ^ 12, 9, 3, 1, "HIDDEN"),
            "disk 1 2 -> 1", "disk 0 2 -> 1", "most 0 -> 2", "most 1 -> 2"));
        edge("2: of several in this order: SMALL ahead of WIDE, Q gone", lines(FILLED, "spoil 4 0 0 64 -> 71", "lose 0", "write 0 9 -> 5", cells(0, "HIDDEN", 9, 3, 1, 71 ^ 12),
            "disk 1 2 -> 1", "disk 4 2 -> 1", "most 0 -> 2", "most 1 -> 2"));
        edge("2: two PARTS, P gone: WIDE is cheaper", lines("shelf 'sd2t1c1' -> 2", "spoil 0 0 0 64", "lose 3", "write 0 9 -> 0", cells(0, 9, 9, 0, "HIDDEN"), "disk 2 2 -> 1", "most 0 -> 1",
            "most 1 -> 2"));
        edge("2: two PARTS, P, Q gone: SMALL is first", lines("shelf 'sd2t1c1' -> 2", "lose 3", "lose 0", "write 0 9 -> 0", "disk 1 2 -> 1", "disk 2 2 -> 0", "disk 1 3 -> 1", "most 0 -> 1",
            "most 1 -> 1"));
        edge("2: another PART is gone: SMALL alone", lines(FILLED, "lose 2", "write 0 9 -> 5", cells(0, 11, 9, "HIDDEN", 1, 11), "most 0 -> 3", "most 1 -> 3", "read 1 -> 3"));
        edge("2: its own is gone: WIDE", lines(FILLED, "spoil 4 0 0 64", "lose 1", "write 0 9 -> 69", cells(0, 11, "HIDDEN", 3, 1, 11), "most 0 -> 2", "most 1 -> 2", "read 0 -> 9"));
        edge("2: its own and P are gone: WIDE writes Q", lines(FILLED, "lose 1", "lose 4", "write 0 9 -> 5", cells(0, 11, "HIDDEN", 3, 1, "HIDDEN"), "most 0 -> 2", "most 1 -> 1", "read 0 -> 9"));
        edge("2: its own and Q are gone: WIDE writes P", lines(FILLED, "lose 1", "lose 0", "write 0 9 -> 5", cells(0, "HIDDEN", "HIDDEN", 3, 1, 11), "most 0 -> 2", "most 1 -> 1", "read 0 -> 9"));
        // PART 2 is 9, so PARTS 0 and 1 are SOLVED as 21 and 27: P 9 ^ 27 ^ 9, Q 9 ^ 54 ^ 36.
        edge("2: SOLVING: the other one is SOLVED first", lines(FILLED, "spoil 3 0 0 8", "lose 1", "lose 2", "write 0 9 -> 21", cells(0, 27, "HIDDEN", "HIDDEN", 9, 27),
            row("disk 3", 0, 2, 1, 0), row("disk 4", 0, 2, 1, 1), row("disk 0", 0, 2, 1, 1), "most 0 -> 3", "most 1 -> 2", "read 0 -> 9", "read 1 -> 27"));
        edge("2: SOLVING for the higher one", lines(FILLED, "lose 1", "lose 3", "write 2 9 -> 1", cells(0, 5 ^ 6 ^ 36, "HIDDEN", 3, "HIDDEN", 5 ^ 3 ^ 9), "read 0 -> 5", "read 2 -> 9"));
        edge("2: a DISK that is being REBUILT: its done STRIPE is THERE, the next one is not", FILLED, "lose 1", "replace 1", "rebuild 1 1", "write 0 9 -> 5", "disk 1 3 -> 2", "write 4 9 -> 0",
            "disk 1 3 -> 2", "read 4 -> 9", "cell 1 1 0 -> HIDDEN", "rebuild 1 1 -> 2", "cell 1 1 0 -> 9");
        edge("2: other BYTES of the CHUNK stay", lines("shelf 'sd2t1c4;vx1;va1x2;va2x3;va3x4' -> 8", "write 2 200 -> 3", row("cell 1 0", 1, 2, 200, 4), row("cell 3 0", 1, 2, 200, 4)));
    }

    // ---- LOST, REPLACED, REBUILT

    private void promise17() {
        edge("17: no SHELF (STATUS 0)", "lose 0 -> NONE !0");
        edge("17: no such DISK (STATUS 0)", FILLED, "lose 4 -> 1", "lose 5 -> NONE !0", "lose -1 -> NONE !0", "lose MAX -> NONE !0", "lose MIN -> NONE !0");
        edge("17: it is LOST (2)", FILLED, "lose 0 -> 1", "lose 0 -> NONE !2");
        edge("17: it is WHOLE and two others are not (3)", FILLED, "lose 0 -> 1", "lose 4 -> 2", "lose 2 -> NONE !3", "replace 0", "lose 2 -> NONE !3", "replace 4", "lose 2 -> NONE !3",
            "rebuild 4 2 -> 2", "lose 2 -> 2");
        edge("17: of several the first: LOST ahead of a third", FILLED, "lose 0", "lose 4", "lose 4 -> NONE !2", "lose 0 -> NONE !2");
        edge("17: also one that is being REBUILT, of two", FILLED, "lose 0", "lose 4", "replace 0", "rebuild 0 1", "lose 0 -> 2", "disk 0 0 -> 1", "disk 0 1 -> 0", "rule 4 -> 1");
        edge("17: also one that is being REBUILT, alone", FILLED, "lose 0", "replace 0", "lose 0 -> 1", "most 7 -> 1");
        edge("17: costs nothing", FILLED, "lose 0", "most 0 -> 0", "most 1 -> 0", "log 0 2 -> 0");
        edge("17: the first and the last of eight", "shelf 'sd6' -> 48", "lose 7 -> 1", "lose 0 -> 2", "most 7 -> 129", "lose 8 -> NONE !0", "lose 3 -> NONE !3");
    }

    private void promise18() {
        edge("18: no SHELF (STATUS 0)", "replace 0 -> NONE !0");
        edge("18: no such DISK (STATUS 0)", FILLED, "lose 4", "replace 5 -> NONE !0", "replace -1 -> NONE !0", "replace MAX -> NONE !0", "replace MIN -> NONE !0", "replace 4 -> 1");
        edge("18: it is not LOST (2)", FILLED, "replace 0 -> NONE !2", "lose 0", "replace 0 -> 1", "replace 0 -> NONE !2", "rebuild 0 2", "replace 0 -> NONE !2");
        edge("18: no SPARE (3)", "shelf 'sd3t2c1k0' -> 6", "lose 0", "replace 0 -> NONE !3", "disk 0 0 -> 1");
        edge("18: the last SPARE, and none", "shelf 'sd3t2c1k1' -> 6", "lose 0", "lose 1", "replace 0 -> 0", "replace 1 -> NONE !3");
        edge("18: nine SPARES, and none", lines("shelf 'sd3t2c1k9' -> 6", "lose 0", "replace 0 -> 8", times(8, "lose 0", "replace 0"), "rule 4 -> 0", "lose 0", "replace 0 -> NONE !3"));
        edge("18: of several the first: not LOST ahead of no SPARE", "shelf 'sd3t2c1k0' -> 6", "replace 0 -> NONE !2");
        edge("18: no STRIPE done; costs nothing", lines(FILLED, "lose 1", "replace 1 -> 1", row("disk 1", 2, 0, 0, 0, 0), "most 0 -> 0", "most 1 -> 0", "log 0 2 -> 0"));
    }

    private void promise19() {
        edge("19: no SHELF (STATUS 0)", "rebuild 0 1 -> NONE !0", "rebuild 0 0 -> NONE !0");
        edge("19: no such DISK (STATUS 0)", FILLED, "lose 4", "replace 4", "rebuild 5 1 -> NONE !0", "rebuild -1 1 -> NONE !0", "rebuild MAX 1 -> NONE !0", "rebuild MIN 1 -> NONE !0",
            "rebuild 4 1 -> 1");
        edge("19: n not 1 .. 12 (1)", "shelf 'sd2t12c1' -> 24", "lose 0", "replace 0", "rebuild 0 0 -> NONE !1", "rebuild 0 -1 -> NONE !1", "rebuild 0 13 -> NONE !1", "rebuild 0 MAX -> NONE !1",
            "rebuild 0 MIN -> NONE !1", "rebuild 0 1 -> 1", "rebuild 0 12 -> 12");
        edge("19: twelve at once", "shelf 'sd2t12c1' -> 24", "lose 0", "replace 0", "rebuild 0 12 -> 12", "disk 0 0 -> 0");
        edge("19: eleven, then the last one", "shelf 'sd2t12c1' -> 24", "lose 0", "replace 0", "rebuild 0 11 -> 11", "disk 0 0 -> 2", "rebuild 0 1 -> 12", "disk 0 0 -> 0");
        edge("19: it is not being REBUILT (2)", FILLED, "rebuild 1 1 -> NONE !2", "lose 1", "rebuild 1 1 -> NONE !2", "replace 1", "rebuild 1 2 -> 2", "rebuild 1 1 -> NONE !2");
        edge("19: of several the first", FILLED, "rebuild 5 0 -> NONE !0", "rebuild -1 13 -> NONE !0", "rebuild 1 0 -> NONE !1", "rebuild 1 13 -> NONE !1");
        edge("19: as many as told, as there are left", "shelf 'sd3t3c2k2' -> 18", "lose 1", "replace 1", "rebuild 1 1 -> 1", "log 0 2 -> 10", "rebuild 1 12 -> 3", "log 0 2 -> 20", "disk 1 0 -> 0");
        edge("19: as many as are left", "shelf 'sd3t3c2k2' -> 18", "lose 1", "replace 1", "rebuild 1 3 -> 3", "disk 1 0 -> 0");
        edge("19: one STRIPE alone", "shelf 'sd2t1c1' -> 2", "lose 3", "replace 3", "rebuild 3 12 -> 1", "disk 3 0 -> 0", "log 0 2 -> 4");
        edge("19: reads all that is THERE, BYTE by BYTE; writes one each", lines("shelf 'sd3t2c2k2' -> 12", "lose 1", "lose 2", "replace 1", "rebuild 1 1", row("disk 0", 0, 2, 2, 0),
            row("disk 1", 2, 1, 0, 2), row("disk 2", 1, 0, 0, 0), row("disk 3", 0, 2, 2, 0), row("disk 4", 0, 2, 2, 0), "replace 2", "rebuild 2 1", "disk 1 2 -> 2", "rebuild 2 1",
            "disk 1 2 -> 2", "rebuild 1 1", "disk 2 2 -> 2"));
        edge("2: what is WRITTEN while it is being REBUILT", FILLED, "lose 1", "replace 1", "rebuild 1 1", "write 0 200 -> 5", "write 4 100 -> 0", "rebuild 1 1 -> 2", "cell 1 0 0 -> 200", "cell 1 1 0 -> 100",
            "fit -> 3");
    }

    // ---- SCRUBBED

    private void promise20() {
        edge("20: no SHELF (STATUS 0), of several the first", "scrub 1 -> NONE !0", "scrub 0 -> NONE !0", "scrub 13 -> NONE !0");
        edge("20: n not 1 .. 12 (1)", FILLED, "scrub 0 -> NONE !1", "scrub -1 -> NONE !1", "scrub 13 -> NONE !1", "scrub MAX -> NONE !1", "scrub MIN -> NONE !1", "scrub 1 -> 0", "scrub 12 -> 0");
        edge("20: behind the last one the first", "shelf 'sd2t5c1' -> 10", "most 5 -> 0", "scrub 4 -> 0", "most 5 -> 4", "scrub 1 -> 0", "most 5 -> 0", "scrub 3 -> 0", "most 5 -> 3", "scrub 3 -> 0",
            "most 5 -> 1", "scrub 5 -> 0", "most 5 -> 1");
        edge("20: twelve STRIPES, twelve at once", "shelf 'sd2t12c1' -> 24", "scrub 11 -> 0", "most 5 -> 11", "scrub 1 -> 0", "most 5 -> 0", "scrub 12 -> 0", "most 5 -> 0", "most 0 -> 96");
        edge("20: more than there are: round and round", "shelf 'sd2t1c2' -> 4", "scrub 12 -> 0", "most 0 -> 96", "most 5 -> 0", "shelf 'sd2t5c1' -> 10", "scrub 12 -> 0", "most 0 -> 48", "most 5 -> 2");
        edge("20: what is MENDED is right when it comes round", "shelf 'sd2t1c1' -> 2", "spoil 1 0 0 9", "scrub 12 -> 1", "most 2 -> 1", "most 1 -> 1", "most 0 -> 48");
        edge("20: what is OPEN is counted each time", "shelf 'sd2t1c1' -> 2", "spoil 3 0 0 1", "spoil 0 0 0 4", "scrub 12 -> 0", "most 3 -> 12", "most 1 -> 0");
        edge("20: of a STRIPE ahead of where it goes on nothing is MENDED", FILLED, "scrub 1", "spoil 1 0 0 9", "scrub 1 -> 0", "read 0 -> 12", "scrub 1 -> 1", "read 0 -> 5");
        for (int data = 2; data <= 6; data++) {
            whoIsWrongByTheLog(data);
        }
        edge("2: P by u", lines(FILLED, "spoil 4 0 0 255", "scrub 1 -> 1", cells(0, 7, 5, 3, 1, 7), row("disk 4", 0, 2, 1, 1, 1), "most 1 -> 1"));
        edge("2: Q by v", lines(FILLED, "spoil 0 0 0 255", "scrub 1 -> 1", cells(0, 7, 5, 3, 1, 7), row("disk 0", 0, 2, 1, 1, 1), "most 1 -> 1"));
        edge("2: a PART by u", lines(FILLED, "spoil 3 0 0 255", "scrub 1 -> 1", cells(0, 7, 5, 3, 1, 7), row("disk 3", 0, 2, 1, 1, 1), "most 1 -> 1"));
        edge("2: both 0: right", FILLED, "scrub 2 -> 0", "most 0 -> 10", "most 1 -> 0", "most 3 -> 0", "most 8 -> NONE");
        edge("2: BYTE by BYTE: each by itself, the latest of them", lines("shelf 'sd3t2c4' -> 24", "spoil 1 0 0 1", "spoil 2 0 1 2", "spoil 4 0 3 3", "scrub 1 -> 3", "most 8 -> 4", "most 9 -> 0",
            "most 10 -> 3", "most 2 -> 3", "log 0 2 -> 23", "fit -> 3"));
        edge("2: the latest BYTE MENDED, STRIPES going round", "shelf 'sd3t2c1' -> 6", "spoil 1 0 0 1", "spoil 2 1 0 1", "scrub 1 -> 1", "most 9 -> 0", "spoil 3 0 0 1", "scrub 2 -> 2", "most 8 -> 3",
            "most 9 -> 0", "most 10 -> 0");
        edge("2: DIRTY ones are PASSED", FILLED, "tear 0 9 1", "spoil 1 1 0 4", "scrub 2 -> 1", "most 4 -> 1", "log 0 2 -> 6", "read 0 -> 9", "scrub 1 -> 0", "most 4 -> 2", "log 0 2 -> 0");
        edge("2: those of which not all is THERE are PASSED", FILLED, "lose 4", "scrub 12 -> 0", "most 4 -> 12", "most 0 -> 0", "log 0 2 -> 0", "most 5 -> 0");
        edge("2: PASSED: a DISK being REBUILT", FILLED, "lose 1", "replace 1", "scrub 2", "most 4 -> 2", "rebuild 1 1", "scrub 2", "most 4 -> 3", "log 0 2 -> 5", "rebuild 1 1", "scrub 2", "most 4 -> 3",
            "log 0 2 -> 10");
    }

    /** u is 1, so that v is 2 to the power of who is wrong; behind PART DATA less 1 it is OPEN. */
    private void whoIsWrongByTheLog(int data) {
        String shelf = "shelf 'sd" + data + "t1c1' -> " + data;
        String pWrong = "spoil " + (data + 1) + " 0 0 1";
        for (int part = 0; part < data; part++) {
            edge("2: by the LOG of v by u, d" + data + ", PART " + part, shelf, pWrong, "spoil 0 0 0 " + (1 << part), "who 0 0 -> " + (part + 1), "scrub 1 -> 1", "cell " + (part + 1) + " 0 0 -> 1",
                "most 3 -> 0", "fit -> 1");
        }
        edge("2: else it is OPEN, d" + data, shelf, pWrong, "spoil 0 0 0 " + (1 << data), "who 0 0 -> -2", "scrub 1 -> 0", "most 3 -> 1", "most 2 -> 0", "most 1 -> 0", "cell 0 0 0 -> " + (1 << data));
        edge("2: OPEN by the highest LOG, d" + data, shelf, pWrong, "spoil 0 0 0 142", "logOf 142 -> 254", "who 0 0 -> -2");
    }

    // ---- SPOILT, TORN, CLEANED, FULL

    private void promise21() {
        edge("21: no SHELF (STATUS 0)", "spoil 0 0 0 1 -> NONE !0", "spoil 0 0 0 0 -> NONE !0");
        edge("21: no such DISK, STRIPE, BYTE (STATUS 0)", lines("shelf 'sd2t3c2' -> 12", "spoil 3 2 1 1 -> 1", "spoil 4 0 0 1 -> NONE !0", "spoil -1 0 0 1 -> NONE !0", "spoil 0 3 0 1 -> NONE !0",
            "spoil 0 -1 0 1 -> NONE !0", "spoil 0 0 2 1 -> NONE !0", "spoil 0 0 -1 1 -> NONE !0", "spoil MAX 0 0 1 -> NONE !0", "spoil 0 MAX 0 1 -> NONE !0", "spoil 0 0 MAX 1 -> NONE !0",
            "spoil MIN 0 0 1 -> NONE !0", "spoil 0 MIN 0 1 -> NONE !0", "spoil 0 0 MIN 1 -> NONE !0"));
        edge("21: X not 1 .. 255 (1)", FILLED, "spoil 1 0 0 1 -> 4", "spoil 1 0 0 255 -> 251", "spoil 1 0 0 0 -> NONE !1", "spoil 1 0 0 256 -> NONE !1", "spoil 1 0 0 -1 -> NONE !1",
            "spoil 1 0 0 MAX -> NONE !1", "spoil 1 0 0 MIN -> NONE !1");
        edge("21: it is not THERE (2)", FILLED, "lose 1", "spoil 1 0 0 1 -> NONE !2", "replace 1", "spoil 1 0 0 1 -> NONE !2", "rebuild 1 1", "spoil 1 0 0 1 -> 4", "spoil 1 1 0 1 -> NONE !2");
        edge("21: of several the first", FILLED, "lose 1", "spoil 1 2 0 0 -> NONE !0", "spoil 1 0 1 256 -> NONE !0", "spoil 5 0 0 0 -> NONE !0", "spoil 1 0 0 0 -> NONE !1", "spoil 1 0 0 256 -> NONE !1");
        edge("21: the BYTE alone, and costs nothing", lines("shelf 'sd2t1c4;va1x7' -> 8", "spoil 1 0 1 255 -> 248", row("cell 1 0", 0, 248, 0, 0), row("cell 3 0", 0, 7, 0, 0), "most 0 -> 0", "most 1 -> 0",
            "log 0 2 -> 0", "most 6 -> 0"));
    }

    private void promise22() {
        edge("22: no SHELF (STATUS 0)", "tear 0 0 0 -> NONE !0", "tear 0 256 3 -> NONE !0");
        edge("22: no such ADDRESS (STATUS 0)", FILLED, "tear 5 0 0 -> 1", "tear 6 0 0 -> NONE !0", "tear -1 0 0 -> NONE !0", "tear MAX 0 0 -> NONE !0", "tear MIN 0 0 -> NONE !0");
        edge("22: VALUE out of bounds (1)", FILLED, "tear 0 0 1 -> 1", "tear 0 255 1 -> 1", "tear 0 256 1 -> NONE !1", "tear 0 -1 1 -> NONE !1", "tear 0 MAX 1 -> NONE !1", "tear 0 MIN 1 -> NONE !1");
        edge("22: HOW out of bounds (1)", FILLED, "tear 0 9 0 -> 1", "tear 0 9 2 -> 1", "tear 0 9 3 -> NONE !1", "tear 0 9 -1 -> NONE !1", "tear 0 9 MAX -> NONE !1", "tear 0 9 MIN -> NONE !1");
        edge("22: its BYTE is not THERE (2)", FILLED, "lose 1", "tear 0 9 0 -> NONE !2", "tear 1 9 0 -> 1");
        edge("22: P is not THERE (2)", FILLED, "lose 4", "tear 0 9 0 -> NONE !2", "most 6 -> 0");
        edge("22: Q is not THERE (2)", FILLED, "lose 0", "tear 0 9 0 -> NONE !2", "most 6 -> 0");
        edge("22: another PART is not THERE: it can be", lines(FILLED, "lose 2", "lose 3", "tear 0 9 2 -> 1", cells(0, 7, 9, "HIDDEN", "HIDDEN", 7 ^ 12)));
        edge("22: THERE again, STRIPE by STRIPE", FILLED, "lose 1", "replace 1", "tear 0 9 0 -> NONE !2", "rebuild 1 1", "tear 0 9 0 -> 1", "tear 4 9 0 -> NONE !2", "rebuild 1 1", "tear 4 9 0 -> 2");
        edge("22: of several the first", FILLED, "lose 1", "tear 6 256 3 -> NONE !0", "tear 0 256 0 -> NONE !1", "tear 0 9 3 -> NONE !1", "tear 0 -1 -1 -> NONE !1");
        edge("2: HOW 0: nothing is written", lines(FILLED, "tear 0 9 0 -> 1", cells(0, 7, 5, 3, 1, 7), "most 0 -> 3", "most 1 -> 0", "most 6 -> 1", "read 0 -> 5"));
        edge("2: HOW 1: the BYTE", lines(FILLED, "tear 0 9 1 -> 1", cells(0, 7, 9, 3, 1, 7), "most 0 -> 3", "most 1 -> 1", "disk 1 3 -> 1", "most 6 -> 1"));
        edge("2: HOW 2: the BYTE and P", lines(FILLED, "tear 0 9 2 -> 1", cells(0, 7, 9, 3, 1, 7 ^ 12), "most 0 -> 3", "most 1 -> 2", "disk 4 3 -> 1", "disk 0 3 -> 0", "disk 0 2 -> 1", "disk 1 2 -> 1",
            "disk 4 2 -> 1"));
        edge("2: HOW 1 and 2: another PART, the last PART", lines(FILLED, "tear 1 9 1 -> 1", cells(0, 7, 5, 9, 1, 7), "log 0 2 -> 4", "tear 2 8 2 -> 1", cells(0, 7, 5, 9, 8, 7 ^ 9), "log 0 2 -> 5",
            "disk 2 3 -> 1", "disk 3 3 -> 1", "disk 4 3 -> 1"));
        edge("2: P is more by what it changes, wrong as it was", lines(FILLED, "spoil 4 0 0 64", "tear 0 9 2 -> 1", cells(0, 7, 9, 3, 1, 71 ^ 12)));
        edge("22: how many STRIPES are DIRTY", "shelf 'sd2t3c2' -> 12", "tear 0 1 0 -> 1", "tear 3 1 0 -> 1", "tear 4 1 0 -> 2", "tear 11 1 0 -> 3", "most 6 -> 7", "tear 0 1 0 -> 3");
        edge("22: the last STRIPE of twelve", "shelf 'sd6t12c4' -> 288", "tear 287 9 1 -> 1", "most 6 -> 2048", "clean -> 1", "most 6 -> 0");
    }

    private void promise23() {
        edge("23: no SHELF (STATUS 0)", "clean -> NONE !0");
        edge("23: no such one is DIRTY (2)", FILLED, "clean -> NONE !2", "tear 0 9 1", "clean -> 1", "clean -> NONE !2");
        edge("23: a DIRTY one of which not all is THERE (2)", FILLED, "tear 0 9 1", "lose 2", "clean -> NONE !2", "most 6 -> 1", "replace 2", "clean -> NONE !2", "rebuild 2 1", "clean -> 1", "most 6 -> 0");
        edge("23: of all DIRTY ones those of which all is THERE", "shelf 'sd3t3c1k2' -> 9", "tear 0 9 1", "tear 3 9 1", "tear 6 9 1", "lose 2", "replace 2", "rebuild 2 1", "clean -> 1", "most 6 -> 6", "rebuild 2 1",
            "clean -> 1", "most 6 -> 4", "rebuild 2 1", "clean -> 1", "most 6 -> 0");
        edge("23: all twelve", lines("shelf 'sd2t12c1' -> 24", tearEachStripe(), "most 6 -> 4095", "clean -> 12", "log 0 2 -> 48", "most 6 -> 0", "fit -> 4095"));
        edge("2: reads all PARTS, writes P, Q, of each BYTE", lines("shelf 'sd3t2c2' -> 12", "spoil 4 0 1 77", "tear 0 9 1", "clean -> 1", "log 0 2 -> 10", "cell 4 0 0 -> 9", "cell 0 0 0 -> 9", "cell 4 0 1 -> 0",
            "most 0 -> 9", "most 1 -> 5", "disk 4 3 -> 2", "disk 0 3 -> 2", "disk 2 2 -> 2", "disk 4 2 -> 1"));
        edge("2: one that is right is CLEANED all the same", FILLED, "tear 0 5 0", "clean -> 1", "most 6 -> 0", "log 0 2 -> 5");
        edge("2: WRITTEN, it stays DIRTY", FILLED, "tear 0 9 1", "write 0 9", "write 1 9", "fit -> 3", "most 6 -> 1", "who 0 0 -> HIDDEN");
    }

    private static String[] tearEachStripe() {
        List<String> all = new ArrayList<>();
        for (int stripe = 0; stripe < 12; stripe++) {
            all.add("tear " + 2 * stripe + " 9 1 -> " + (stripe + 1));
        }
        return all.toArray(NO_NUMBERS);
    }

    private void promise24() {
        edge("24: no SHELF (STATUS 0)", "full 0 0 0 0 -> NONE !0", "full 0 0 256 0 -> NONE !0");
        edge("24: no such STRIPE, BYTE (STATUS 0)", "shelf 'sd2t3c2' -> 12", "full 2 1 0 0 -> 4", "full 3 0 0 0 -> NONE !0", "full -1 0 0 0 -> NONE !0", "full 0 2 0 0 -> NONE !0", "full 0 -1 0 0 -> NONE !0",
            "full MAX 0 0 0 -> NONE !0", "full MIN 0 0 0 -> NONE !0", "full 0 MAX 0 0 -> NONE !0", "full 0 MIN 0 0 -> NONE !0");
        edge("24: VALUE, BY not 0 .. 255 (1)", FILLED, "full 0 0 255 255 -> 5", "full 0 0 0 0 -> 5", "full 0 0 256 0 -> NONE !1", "full 0 0 -1 0 -> NONE !1", "full 0 0 0 256 -> NONE !1",
            "full 0 0 0 -1 -> NONE !1", "full 0 0 MAX 0 -> NONE !1", "full 0 0 0 MIN -> NONE !1", "full 0 0 MIN 0 -> NONE !1", "full 0 0 0 MAX -> NONE !1");
        edge("24: of several the first", FILLED, "full 2 0 256 0 -> NONE !0", "full 0 1 0 256 -> NONE !0");
        // 255 and i times 255, modulo 256: 255 254 253 252 251 250.
        edge("2: VALUE and i times BY, modulo 256", lines("shelf 'sd6t1c1' -> 6", "full 0 0 255 255 -> 8", row("read", 255, 254, 253, 252, 251, 250), "cell 7 0 0 -> 1", "fit -> 1", "full 0 0 1 128 -> 8",
            row("read", 1, 129, 1, 129, 1, 129)));
        edge("2: VALUE 0, BY 0", lines(FILLED, "full 0 0 0 0 -> 5", cells(0, 0, 0, 0, 0, 0), "most 0 -> 0", "most 1 -> 5"));
        edge("2: it writes all that is THERE: one gone", FILLED, "lose 1", "full 0 0 9 1 -> 4", "log 0 2 -> 4", "read 0 -> 9", "read 1 -> 10", "read 2 -> 11", "disk 1 3 -> 0");
        edge("2: it writes all that is THERE: two gone", FILLED, "lose 1", "lose 3", "full 0 0 9 1 -> 3", "log 0 2 -> 3", "read 0 -> 9", "read 1 -> 10", "read 2 -> 11");
        edge("2: it writes all that is THERE: P, Q gone", FILLED, "lose 4", "lose 0", "full 0 0 9 1 -> 3", "read 0 -> 9", "read 1 -> 10", "read 2 -> 11");
        edge("2: P, Q are reckoned by these, whatever was wrong", FILLED, "spoil 4 0 0 7", "spoil 0 0 0 9", "full 0 0 1 1 -> 5", "fit -> 3");
        edge("2: DIRTY stays", FILLED, "tear 0 9 1", "full 0 0 1 1 -> 5", "most 6 -> 1");
        edge("2: a BYTE of all CHUNKS, no other", lines("shelf 'sd2t2c2;vx1;va1x2;va4x3' -> 8", "full 0 1 9 0 -> 4", row("read", 1, 9, 0, 9, 3, 0)));
    }

    public static void main(String[] args) {
        EdgesOfActsTest test = new EdgesOfActsTest();
        test.promise13();
        test.solvedFromThoseThatStand();
        test.promise14();
        test.promise15();
        test.promise16();
        test.waysOfAWrite();
        test.promise17();
        test.promise18();
        test.promise19();
        test.promise20();
        test.promise21();
        test.promise22();
        test.promise23();
        test.promise24();
        test.check.finish("EdgesOfActsTest");
    }
}
