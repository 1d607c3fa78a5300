/**
 * Each promise of the document by answers worked out by hand: ordinary inputs, the edges that the
 * document names, wrong inputs. The method pN tests promise N.
 *
 * Most use d3t2c1: five DISKS. STRIPE 0: P on DISK 4, Q on 0, PARTS on 1, 2, 3 (ADDRESSES 0, 1, 2);
 * STRIPE 1: P on 3, Q on 4, PARTS on 0, 1, 2 (ADDRESSES 3, 4, 5).
 */
public final class PromisesTest {
    private static final int NONE = StripeShelf.NONE;
    private static final int HIDDEN = StripeShelf.HIDDEN;
    private static final int THROWN = -77;
    private static final String SMALL = "sd3t2c1";
    /** PARTS 5, 3, 1 of STRIPE 0: P 7, Q 5 ^ 6 ^ 4 = 7. */
    private static final String FILLED = "sd3t2c1k2;vx5;va1x3;va2x1";
    private final Check check = new Check();
    private String promise = "";

    private void due(String call, long got, long want) {
        check.due(promise + ": " + call, got, want);
    }

    private void due(String call, boolean got, boolean want) {
        check.due(promise + ": " + call, got, want);
    }

    private void cells(StripeShelf x, int stripe, int... wanted) {
        for (int disk = 0; disk < wanted.length; disk++) {
            due("cell(" + disk + ", " + stripe + ", 0)", x.cell(disk, stripe, 0), wanted[disk]);
        }
    }

    private void statuses(StripeShelf x, int... wanted) {
        for (int i = 0; i < wanted.length; i++) {
            due("status(" + i + ")", x.status(i), wanted[i]);
        }
    }

    private void p1() {
        StripeShelf x = new StripeShelf();
        for (int what = 0; what <= 4; what++) {
            due("count(" + what + ")", x.count(what), 0);
        }
        due("rule(0)", x.rule(0), NONE);
        due("most(0)", x.most(0), HIDDEN);
        statuses(x, 0, 0, 0, 0, NONE);
        due("NONE", StripeShelf.NONE, -1);
        due("HIDDEN", StripeShelf.HIDDEN, -1000000);
    }

    private void p2() {
        StripeShelf x = new StripeShelf();
        due("bytes of 0", x.feed(0, 0, 0, 0, 0), 0);
        due("highest first", x.feed(0x73006400, 0x00003200, 0, 0, 0), 3);
        due("sd2 is a shelf", x.fault(0), NONE);
        due("text", x.text(0), 2 * 4 * 2);
        int full = 0x20202020;
        for (int i = 1; i <= 14; i++) {
            due("feed " + i, x.feed(full, full, full, full, full), 20 * i);
        }
        due("one too many", x.feed(0, 0, 0, 0, 1), NONE);
        due("none more", x.feed(0, 0, 0, 0, 0), 280);
        x.end(279);
        due("two too many change nothing", x.feed(0x7300, 0x73, 0, 0, 0), NONE);
        due("count(2)", x.count(2), 279);
        due("the last one", x.feed(0x73, 0, 0, 0, 0), 280);
        due("it came last", x.fault(0), NONE);
        x.end(270);
        due("eleven in all five", x.feed(0x20202000, 0x20200000, 0x20202000, 0x20000000, 0x20200000), NONE);
        due("eleven in the third and the fourth", x.feed(0x20, 0x20, 0x20202020, 0x20202020, 0x20), NONE);
        due("ten", x.feed(0x20, 0x20, 0x20202020, 0x20202000, 0x20), 280);
        x.end(0);
        due("bytes above 127", x.feed(0xFF80C8FF, 0, 0, 0, 0), 4);
        due("are no shelf", x.fault(0), 0);
    }

    private void p3() {
        StripeShelf x = new StripeShelf();
        due("end(0) of none", x.end(0), true);
        due("end(1) of none", x.end(1), false);
        due("end(-1)", x.end(-1), false);
        Check.tape(x, "sd9");
        due("end(4)", x.end(4), false);
        due("end(3)", x.end(3), true);
        due("fault", x.fault(0), 2);
        due("end(1)", x.end(1), true);
        due("count(2)", x.count(2), 1);
        due("fault", x.fault(0), NONE);
        due("end(largest)", x.end(Integer.MAX_VALUE), false);
    }

    private void p4() {
        StripeShelf x = new StripeShelf();
        due("no such sort", x.fault(2), -2);
        due("no such sort", x.fault(-1), -2);
        Object[][] shelves = {
            {"", 0}, {"   ", 3}, {"s", -1}, {"v", -1}, {" s ; v ", -1}, {"v;s;v", -1}, {"x", 0}, {"ss", 1}, {"sv", 1},
            {"s;", 2}, {"s; ", 3}, {";s", 0}, {"s;;v", 2}, {"s;v;s", 4}, {"sd", 2}, {"sd ", 3}, {"sd;", 2}, {"sdd", 2},
            {"sd2", -1}, {"sd6", -1}, {"sd1", 2}, {"sd7", 2}, {"sd0", 2}, {"sd99", 3}, {"sd999", 4}, {"sd9999", 5},
            {"sd0002", 5}, {"sd002", -1}, {"sd12345", 5}, {"st1", -1}, {"st12", -1}, {"st0", 2}, {"st13", 3}, {"sc1", -1},
            {"sc4", -1}, {"sc0", 2}, {"sc5", 2}, {"sf0", -1}, {"sf3", -1}, {"sf4", 2}, {"sk0", -1}, {"sk9", -1}, {"sk10", 3},
            {"va0", -1}, {"va287", -1}, {"va288", 4}, {"vx0", -1}, {"vx255", -1}, {"vx256", 4}, {"vd2", 1}, {"sa2", 1},
            {"sd2d3", 3}, {"va1a1", 3}, {"sd2t3c1f0k1", -1}, {"sk1f0c1t3d2", -1}, {"vx1a2", -1}, {"sd2 3", 4}, {"s d 2", -1},
            {"va1 2", 4}, {"va12 ;v", -1}, {"va1,x2", 3}, {"sd2;vx1;va3", -1}, {"S", 0}, {"s\tv", 1}, {"va-1", 2},
        };
        for (Object[] s : shelves) {
            due("fault(0) of '" + s[0] + "'", Check.fault(x, 0, (String) s[0]), (Integer) s[1]);
        }
        Object[][] scripts = {
            {"", 0}, {"  ", 2}, {"y", -1}, {" y ; y ", -1}, {"y;", 2}, {"y; ", 3}, {"yy", 1}, {"y1", 1}, {"y,1", 1},
            {"w1,2", -1}, {"w 1 , 2 ", -1}, {"w1", 2}, {"w1,", 3}, {"w,1", 1}, {"w1,2,3", 4}, {"w1 2", 3}, {"w1;y", 2},
            {"l0", -1}, {"l999", -1}, {"l1000", 4}, {"l0001", 4}, {"l", 1}, {"l1,2", 2}, {"n4", -1}, {"n", 1}, {"r1,2", -1},
            {"r1", 2}, {"s1", -1}, {"s1,1", 2}, {"p1,2,3,4", -1}, {"p1,2,3", 6}, {"p1,2,3,4,5", 8}, {"z1,2,3", -1},
            {"z1,2", 4}, {"z1,2,3,4", 6}, {"f1,2,3,4", -1}, {"f1,2,3", 6}, {"q", 0}, {"v", 0}, {"W1,2", 0}, {"y;;y", 2},
            {"w999,999", -1}, {"w999,9999", 8},
        };
        for (Object[] s : scripts) {
            due("fault(1) of '" + s[0] + "'", Check.fault(x, 1, (String) s[0]), (Integer) s[1]);
        }
        due("16 bytes", Check.fault(x, 0, "v;".repeat(15) + "v;s"), NONE);
        due("a 17th v", Check.fault(x, 0, "v;".repeat(16) + "v"), 32);
        due("16 steps", Check.fault(x, 1, "y;".repeat(15) + "y"), NONE);
        due("a 17th step", Check.fault(x, 1, "y;".repeat(16) + "y"), 31);
        due("the ; alone", Check.fault(x, 1, "y;".repeat(16)), 31);
        due("the tape stays", x.count(2), 32);
    }

    private void p5() {
        StripeShelf x = new StripeShelf();
        due("a fault", Check.take(x, 0, "sd9"), NONE);
        due("the tape stays", x.count(2), 3);
        due("no such sort", x.text(2), NONE);
        due("no such sort", x.text(-1), NONE);
        due("no shelf yet", x.count(0), 0);
        due("all defaults", Check.take(x, 0, "v"), 24);
        due("the tape is empty", x.count(2), 0);
        due("v is address 0, value 1", x.read(0), 1);
        due("items of one v are not those of the next", Check.take(x, 0, "va5x9;v;va2;vx0a9"), 24);
        due("read(5)", x.read(5), 9);
        due("read(0)", x.read(0), 1);
        due("read(2)", x.read(2), 1);
        due("the largest", Check.take(x, 0, "sd6t12c4"), 288);
        due("the smallest", Check.take(x, 0, "sd2t1c1"), 2);
        due("v ahead of s, later v's last, one left out", Check.take(x, 0, "va5x9;va1x200;" + SMALL + ";va6x3;va5x7"), 6);
        due("read(5)", x.read(5), 7);
        due("read(1)", x.read(1), 200);
        cells(x, 1, 0, 0, 7, 7, 28);
        cells(x, 0, 141, 0, 200, 0, 200);
        due("v's cost nothing", x.most(0) + x.most(1) + x.disk(0, 3), 0);
        due("v's are no acts", x.count(3) + x.count(4), 0);
        x.write(9, 0);
        for (int i = 0; i < 4; i++) {
            due("script " + i, Check.take(x, 1, "y"), i);
            due("the tape is empty", x.count(2), 0);
        }
        due("a fifth one", Check.take(x, 1, "y"), NONE);
        due("the tape stays", x.count(2), 1);
        x.lose(0);
        x.image();
        due("another shelf", Check.take(x, 0, SMALL), 6);
        due("scripts stay", x.count(1), 4);
        due("status stays", x.status(0), 1);
        due("no image", x.back(), NONE);
        due("no log", x.count(3), 0);
        due("no undo", x.undo(), NONE);
        due("all whole", x.most(7), 0);
        due("all is 0", x.read(5), 0);
        Check.take(x, 0, FILLED);
        x.spoil(4, 1, 0, 9);
        Check.take(x, 0, SMALL);
        cells(x, 0, 0, 0, 0, 0, 0);
        cells(x, 1, 0, 0, 0, 0, 0);
        due("a fault leaves the shelf", Check.take(x, 0, "s;"), NONE);
        due("as it was", x.count(0), 6);
    }

    private void p6() {
        StripeShelf x = Check.shelf("sd4t6c3f2k5");
        int[] wanted = {4, 6, 3, 2, 5, 6, 72, NONE};
        for (int what = 0; what < wanted.length; what++) {
            due("rule(" + what + ")", x.rule(what), wanted[what]);
        }
        due("rule(-1)", x.rule(-1), NONE);
        x.lose(0);
        x.replace(0);
        due("spares now", x.rule(4), 4);
        int[] without = {3, 4, 2, 0, 1, 5, 24};
        StripeShelf y = Check.shelf("s");
        for (int what = 0; what < without.length; what++) {
            due("default " + what, y.rule(what), without[what]);
        }
    }

    private void p7() {
        int[] wanted = {29, 43, 45, 77};
        for (int f = 0; f < 4; f++) {
            StripeShelf x = Check.shelf("sf" + f);
            due("2 times 128, field " + f, x.times(2, 128), wanted[f]);
            due("128 times 2", x.times(128, 2), wanted[f]);
            due("4 times 128", x.times(4, 128), 2 * wanted[f]);
            due("3 times 3", x.times(3, 3), 5);
            due("0 times 255", x.times(0, 255), 0);
            due("255 times 1", x.times(255, 1), 255);
        }
        StripeShelf x = Check.shelf("s");
        due("times(256, 1)", x.times(256, 1), NONE);
        due("times(1, 256)", x.times(1, 256), NONE);
        due("times(-1, 1)", x.times(-1, 1), NONE);
        due("times(1, -1)", x.times(1, -1), NONE);
        due("no shelf", new StripeShelf().times(1, 1), NONE);
    }

    private void p8() {
        for (int f = 0; f < 4; f++) {
            StripeShelf x = Check.shelf("sf" + f);
            for (int i = 0; i < 60; i++) {
                int a = i * 37 % 256;
                int b = 1 + i * 53 % 255;
                due("over(" + a + ", " + b + ") times b", x.times(x.over(a, b), b), a);
            }
        }
        StripeShelf x = Check.shelf("s");
        due("over(29, 128)", x.over(29, 128), 2);
        due("over(0, 9)", x.over(0, 9), 0);
        due("over(9, 0)", x.over(9, 0), NONE);
        due("over(0, 0)", x.over(0, 0), NONE);
        due("over(256, 1)", x.over(256, 1), NONE);
        due("over(1, 256)", x.over(1, 256), NONE);
        due("over(-1, 1)", x.over(-1, 1), NONE);
        due("no shelf", new StripeShelf().over(1, 1), NONE);
    }

    private void p9() {
        StripeShelf x = Check.shelf("s");
        due("power(0)", x.power(0), 1);
        due("power(7)", x.power(7), 128);
        due("power(8)", x.power(8), 29);
        due("power(255)", x.power(255), 1);
        due("power(999)", x.power(999), x.power(999 - 765));
        due("power(254) is the half of 1", x.times(x.power(254), 2), 1);
        due("power(1000)", x.power(1000), NONE);
        due("power(-1)", x.power(-1), NONE);
        due("no shelf", new StripeShelf().power(0), NONE);
    }

    private void p10() {
        for (int f = 0; f < 4; f++) {
            StripeShelf x = Check.shelf("sf" + f);
            for (int a = 1; a < 256; a += 2) {
                due("power of logOf(" + a + "), field " + f, x.power(x.logOf(a)), a);
            }
        }
        StripeShelf x = Check.shelf("s");
        due("logOf(1)", x.logOf(1), 0);
        due("logOf(29)", x.logOf(29), 8);
        due("logOf(142)", x.logOf(142), 254);
        due("logOf(0)", x.logOf(0), NONE);
        due("logOf(256)", x.logOf(256), NONE);
        due("logOf(-1)", x.logOf(-1), NONE);
        due("no shelf", new StripeShelf().logOf(1), NONE);
    }

    private void p11() {
        StripeShelf x = Check.shelf("sd3t7c2");
        // ADDRESS 23: BYTE 1, PART 11 modulo 3 = 2, STRIPE 3; P of it on DISK 1, Q on 2, PARTS on 3, 4, 0.
        int[] wanted = {0, 3, 1, 2, NONE};
        for (int what = 0; what < wanted.length; what++) {
            due("place(23, " + what + ")", x.place(23, what), wanted[what]);
        }
        due("place(0, 0)", x.place(0, 0), 1);
        // STRIPE 5: as STRIPE 0.
        due("place(30, 0)", x.place(30, 0), 1);
        due("place(30, 1)", x.place(30, 1), 5);
        due("place(41, 1)", x.place(41, 1), 6);
        due("place(42, 0)", x.place(42, 0), NONE);
        due("place(-1, 0)", x.place(-1, 0), NONE);
        due("place(0, -1)", x.place(0, -1), NONE);
    }

    private void p12() {
        StripeShelf x = Check.shelf("sd2t6c1");
        int[][] wanted = {{3, 0, 1, 2}, {0, 1, 2, 3}, {1, 2, 3, 0}, {2, 3, 0, 1}, {3, 0, 1, 2}, {0, 1, 2, 3}};
        for (int t = 0; t < 6; t++) {
            for (int d = 0; d < 4; d++) {
                due("part(" + d + ", " + t + ")", x.part(d, t), wanted[t][d]);
            }
        }
        due("part(4, 0)", x.part(4, 0), NONE);
        due("part(-1, 0)", x.part(-1, 0), NONE);
        due("part(0, 6)", x.part(0, 6), NONE);
        due("part(0, -1)", x.part(0, -1), NONE);
        due("no shelf", new StripeShelf().part(0, 0), NONE);
    }

    private void p13() {
        int[][] couples = {{0, 0}, {1, 1}, {2, 2}, {4, 4}, {0, 1}, {1, 4}, {1, 2}, {2, 3}, {1, 3}, {0, 4}, {3, 0}};
        for (int[] c : couples) {
            StripeShelf x = Check.shelf(FILLED);
            x.lose(c[0]);
            x.lose(c[1]);
            due("read(0), lost " + c[0] + " " + c[1], Check.read(x, 0, THROWN), 5);
            due("read(1)", Check.read(x, 1, THROWN), 3);
            due("read(2)", Check.read(x, 2, THROWN), 1);
        }
        StripeShelf x = Check.shelf(FILLED);
        x.spoil(4, 0, 0, 8);
        due("as it stands", Check.read(x, 0, THROWN), 5);
        x.lose(1);
        due("one part alone by P, wrong as it is", Check.read(x, 0, THROWN), 5 ^ 8);
        x.lose(4);
        due("a part and P: by Q", Check.read(x, 0, THROWN), 5);
        due("reads cost nothing", x.most(0), 0);
        due("read(6)", Check.read(x, 6, THROWN), THROWN);
        due("read(-1)", Check.read(x, -1, THROWN), THROWN);
        due("no shelf", Check.read(new StripeShelf(), 0, THROWN), THROWN);
        StripeShelf y = Check.shelf(FILLED);
        y.spoil(0, 0, 0, 9);
        y.lose(0);
        y.lose(2);
        due("a part and Q: by P", Check.read(y, 1, THROWN), 3);
    }

    private void p14() {
        StripeShelf x = Check.shelf(FILLED);
        cells(x, 0, 7, 5, 3, 1, 7);
        cells(x, 1, 0, 0, 0, 0, 0);
        due("cell(5, 0, 0)", x.cell(5, 0, 0), NONE);
        due("cell(-1, 0, 0)", x.cell(-1, 0, 0), NONE);
        due("cell(0, 2, 0)", x.cell(0, 2, 0), NONE);
        due("cell(0, -1, 0)", x.cell(0, -1, 0), NONE);
        due("cell(0, 0, 1)", x.cell(0, 0, 1), NONE);
        due("cell(0, 0, -1)", x.cell(0, 0, -1), NONE);
        x.lose(2);
        due("lost", x.cell(2, 0, 0), HIDDEN);
        due("no such one ahead of that", x.cell(2, 0, 1), NONE);
        x.replace(2);
        x.rebuild(2, 1);
        due("rebuilt", x.cell(2, 0, 0), 3);
        due("not yet", x.cell(2, 1, 0), HIDDEN);
        StripeShelf y = Check.shelf("sd2t1c4;va3x255;va0x128;va7x6");
        due("byte 0 of four", y.cell(1, 0, 0), 128);
        due("bytes 1 and 2", y.cell(1, 0, 1) + y.cell(1, 0, 2), 0);
        due("byte 3", y.cell(1, 0, 3), 255);
        due("byte 3 of the next", y.cell(2, 0, 3), 6);
        due("byte 3 of P", y.cell(3, 0, 3), 249);
    }

    private void p15() {
        StripeShelf x = Check.shelf(FILLED);
        due("whole", x.disk(2, 0), 0);
        due("all are done", x.disk(2, 1), 2);
        x.lose(2);
        due("lost", x.disk(2, 0), 1);
        due("none is done", x.disk(2, 1), 0);
        x.replace(2);
        due("being rebuilt", x.disk(2, 0), 2);
        due("none is done", x.disk(2, 1), 0);
        x.rebuild(2, 1);
        due("being rebuilt", x.disk(2, 0), 2);
        due("one is done", x.disk(2, 1), 1);
        due("reads of another one", x.disk(1, 2), 1);
        due("writes of it", x.disk(2, 3), 1);
        due("reads of it", x.disk(2, 2), 0);
        x.rebuild(2, 1);
        due("whole", x.disk(2, 0), 0);
        x.spoil(2, 0, 0, 1);
        x.spoil(2, 1, 0, 1);
        x.scrub(2);
        due("mended", x.disk(2, 4), 2);
        x.lose(2);
        due("mended ever", x.disk(2, 4), 2);
        due("writes ever", x.disk(2, 3), 4);
        due("disk(0, 5)", x.disk(0, 5), NONE);
        due("disk(0, -1)", x.disk(0, -1), NONE);
        due("disk(5, 0)", x.disk(5, 0), NONE);
        due("disk(-1, 0)", x.disk(-1, 0), NONE);
    }

    private void p16() {
        StripeShelf x = Check.shelf(FILLED);
        due("write(1, 9)", x.write(1, 9), 3);
        // WIDE: P 5 ^ 9 ^ 1, Q 5 ^ 18 ^ 4.
        cells(x, 0, 19, 5, 9, 1, 13);
        due("reads of the others", x.disk(1, 2) + x.disk(3, 2), 2);
        due("none of its own", x.disk(2, 2) + x.disk(0, 2) + x.disk(4, 2), 0);
        due("writes", x.disk(2, 3) + x.disk(0, 3) + x.disk(4, 3), 3);
        due("write(1, 9) again", x.write(1, 9), 9);
        due("costs the same", x.most(0) + x.most(1), 10);
        due("no such one", x.write(6, 1), NONE);
        due("no such one", x.write(-1, 256), NONE);
        due("out of bounds", x.write(0, 256), NONE);
        due("out of bounds", x.write(0, -1), NONE);
        statuses(x, 2, 2, 0, 0);
        due("refused ones are no acts", x.count(3), 2);
        smallKeepsWrongSums();
        writesToWhatIsGone();
    }

    private void smallKeepsWrongSums() {
        StripeShelf x = Check.shelf("sd4t1c1");
        // n 6: P on 5, Q on 0, PARTS on 1 to 4. SMALL and WIDE cost six each: SMALL is first.
        x.spoil(5, 0, 0, 64);
        x.write(3, 3);
        cells(x, 0, 24, 0, 0, 0, 3, 67);
        due("reads of its own", x.disk(4, 2), 1);
        StripeShelf y = Check.shelf(SMALL);
        y.spoil(4, 0, 0, 64);
        y.write(2, 3);
        due("WIDE makes P right", y.cell(4, 0, 0), 3);
    }

    private void writesToWhatIsGone() {
        StripeShelf x = Check.shelf(FILLED);
        x.lose(1);
        due("its own gone: WIDE", x.write(0, 9), 5);
        cells(x, 0, 9 ^ 6 ^ 4, HIDDEN, 3, 1, 9 ^ 3 ^ 1);
        due("two reads, two writes", x.most(0) * 10 + x.most(1), 22);
        x.lose(2);
        due("SOLVING", x.write(0, 4), 9);
        cells(x, 0, 4 ^ 6 ^ 4, HIDDEN, HIDDEN, 1, 4 ^ 3 ^ 1);
        due("three reads, two writes", x.most(0) * 10 + x.most(1), 54);
        due("the other one is as it was", x.read(1), 3);
        due("it stands: SMALL", x.write(2, 0), 1);
        cells(x, 0, 2, HIDDEN, HIDDEN, 0, 7);
        StripeShelf y = Check.shelf(FILLED);
        y.lose(0);
        y.lose(4);
        due("P and Q gone", y.write(0, 9), 5);
        due("one read, one write", y.most(0) * 10 + y.most(1), 11);
        y.lose(1);
        StripeShelf z = Check.shelf(FILLED);
        z.lose(1);
        z.lose(4);
        due("its own and P gone", z.write(0, 9), 5);
        due("Q alone is written", z.cell(0, 0, 0), 9 ^ 6 ^ 4);
        due("the others alone are read", z.most(0) * 10 + z.most(1), 21);
        due("read(0)", z.read(0), 9);
    }

    private void p17() {
        StripeShelf x = Check.shelf(FILLED);
        due("lose(0)", x.lose(0), 1);
        due("it is lost", x.lose(0), NONE);
        due("lose(4)", x.lose(4), 2);
        due("a third", x.lose(1), NONE);
        due("it is lost, not a third", x.lose(4), NONE);
        due("no such one", x.lose(5), NONE);
        due("no such one", x.lose(-1), NONE);
        statuses(x, 2, 0, 2, 1);
        x.replace(0);
        x.rebuild(0, 1);
        due("being rebuilt, of two", x.lose(0), 2);
        due("all is gone", x.cell(0, 0, 0), HIDDEN);
        due("costs nothing", x.log(0, 2), 0);
        due("its sort", x.log(0, 0), 1);
        due("its number", x.log(0, 1), 0);
        due("no shelf", new StripeShelf().lose(0), NONE);
    }

    private void p18() {
        StripeShelf x = Check.shelf("sd3t2c1k1");
        due("it is whole", x.replace(0), NONE);
        x.lose(0);
        x.lose(1);
        due("replace(0)", x.replace(0), 0);
        due("it is being rebuilt", x.replace(0), NONE);
        due("no spare", x.replace(1), NONE);
        due("no such one", x.replace(5), NONE);
        due("no such one", x.replace(-1), NONE);
        statuses(x, 2, 0, 2, 1);
        due("its sort", x.log(0, 0), 2);
        due("its number", x.log(0, 1), 0);
        due("costs nothing", x.log(0, 2), 0);
        x.undo();
        due("the spare is there again", x.rule(4), 1);
        due("replace(1)", x.replace(1), 0);
    }

    private void p19() {
        StripeShelf x = Check.shelf("sd3t3c2k2;vx5;va1x9;va2x3;va4x1;va17x8");
        due("it is whole", x.rebuild(1, 1), NONE);
        x.lose(1);
        due("it is lost", x.rebuild(1, 1), NONE);
        x.replace(1);
        due("n 0", x.rebuild(1, 0), NONE);
        due("n 13", x.rebuild(1, 13), NONE);
        due("no such one", x.rebuild(5, 0), NONE);
        statuses(x, 1, 2, 2, 0);
        due("rebuild(1, 1)", x.rebuild(1, 1), 1);
        due("its byte 0", x.cell(1, 0, 0), 5);
        due("its byte 1", x.cell(1, 0, 1), 9);
        due("reads four disks twice", x.most(0), 8);
        due("writes two", x.disk(1, 3), 2);
        due("the log", x.log(0, 0) * 100 + x.log(0, 1) * 1000 + x.log(0, 2), 1310);
        x.lose(2);
        due("n 12: those left alone", x.rebuild(1, 12), 3);
        due("with another one lost it reads three", x.log(0, 2), 2 * (3 + 1) * 2);
        due("whole", x.disk(1, 0), 0);
        due("it is whole", x.rebuild(1, 1), NONE);
        x.replace(2);
        due("all of the next", x.rebuild(2, 3), 3);
        due("as it was", x.cell(2, 0, 0), 3);
        due("all right", x.fit(), 7);
    }

    private void p20() {
        StripeShelf x = Check.shelf(FILLED);
        due("no shelf", new StripeShelf().scrub(0), NONE);
        due("n 0", x.scrub(0), NONE);
        due("n 13", x.scrub(13), NONE);
        statuses(x, 0, 2, 0, 0);
        x.spoil(1, 0, 0, 17);
        x.spoil(3, 1, 0, 200);
        due("a part and a P", x.scrub(2), 2);
        cells(x, 0, 7, 5, 3, 1, 7);
        cells(x, 1, 0, 0, 0, 0, 0);
        due("cost", x.log(0, 2), 12);
        due("sort", x.log(0, 0), 4);
        due("number", x.log(0, 1), 2);
        due("the latest: disk", x.most(8), 3);
        due("the latest: stripe", x.most(9), 1);
        x.spoil(0, 0, 0, 1);
        due("a Q", x.scrub(1), 1);
        due("Q", x.cell(0, 0, 0), 7);
        due("goes on at", x.most(5), 1);
        due("round and round", x.scrub(11), 0);
        due("goes on at", x.most(5), 0);
        x.spoil(4, 0, 0, 1);
        x.spoil(0, 0, 0, 128);
        due("open", x.scrub(12), 0);
        due("six times", x.most(3), 6);
        x.tear(3, 1, 0);
        due("dirty ones are passed", x.scrub(2), 0);
        due("passed", x.most(4), 1);
        due("cost of the other", x.log(0, 2), 5);
        x.lose(0);
        due("not all there", x.scrub(2), 0);
        due("passed", x.most(4), 3);
        due("costs nothing", x.log(0, 2), 0);
        x.replace(0);
        x.rebuild(0, 1);
        x.spoil(4, 0, 0, 1);
        x.spoil(2, 0, 0, 7);
        due("a stripe that is there of a disk being rebuilt", x.scrub(2), 1);
        mendedAmongOthers();
    }

    private void mendedAmongOthers() {
        StripeShelf x = Check.shelf("sd3t1c2;va1x7;va3x9;va5x200");
        // Q: 4 times 200 is 800 ^ 570 ^ 285.
        int[] wanted = {7 ^ 18 ^ 800 ^ 570 ^ 285, 7, 9, 200, 7 ^ 9 ^ 200};
        for (int d = 0; d < 5; d++) {
            due("cell(" + d + ", 0, 1)", x.cell(d, 0, 1), wanted[d]);
            x.spoil(d, 0, 1, 240 + d);
            due("mended", x.scrub(1), 1);
            due("cell(" + d + ", 0, 1)", x.cell(d, 0, 1), wanted[d]);
            due("the latest", x.most(8) * 100 + x.most(9) * 10 + x.most(10), d * 100 + 1);
        }
    }

    private void p21() {
        StripeShelf x = Check.shelf(FILLED);
        due("spoil(2, 0, 0, 255)", x.spoil(2, 0, 0, 255), 252);
        due("P, Q are as they were", x.cell(4, 0, 0) + x.cell(0, 0, 0), 14);
        due("again", x.spoil(2, 0, 0, 255), 3);
        due("costs nothing", x.log(0, 2), 0);
        due("sort", x.log(0, 0), 5);
        due("number", x.log(0, 1), 2);
        due("X 0", x.spoil(2, 0, 0, 0), NONE);
        due("X 256", x.spoil(2, 0, 0, 256), NONE);
        due("disk 5", x.spoil(5, 0, 0, 1), NONE);
        due("stripe 2", x.spoil(0, 2, 0, 1), NONE);
        due("byte 1", x.spoil(0, 0, 1, 0), NONE);
        x.lose(2);
        due("gone, X 0", x.spoil(2, 0, 0, 0), NONE);
        due("gone", x.spoil(2, 0, 0, 1), NONE);
        statuses(x, 3, 3, 1, 0);
    }

    private void p22() {
        StripeShelf x = Check.shelf(FILLED);
        due("HOW 0", x.tear(0, 9, 0), 1);
        cells(x, 0, 7, 5, 3, 1, 7);
        due("reads all three", x.disk(1, 2) * 100 + x.disk(4, 2) * 10 + x.disk(0, 2), 111);
        due("cost", x.log(0, 2), 3);
        due("HOW 1", x.tear(0, 9, 1), 1);
        cells(x, 0, 7, 9, 3, 1, 7);
        due("cost", x.log(0, 2), 4);
        due("HOW 2", x.tear(0, 10, 2), 1);
        cells(x, 0, 7, 10, 3, 1, 7 ^ 3);
        due("cost", x.log(0, 2), 5);
        due("another stripe", x.tear(3, 1, 1), 2);
        due("dirty", x.most(6), 3);
        due("sort", x.log(0, 0), 6);
        due("number", x.log(0, 1), 3);
        due("no such one", x.tear(6, 0, 0), NONE);
        due("value", x.tear(0, 256, 0), NONE);
        due("value", x.tear(0, -1, 0), NONE);
        due("how", x.tear(0, 0, 3), NONE);
        due("how", x.tear(0, 0, -1), NONE);
        statuses(x, 1, 4, 0, 0);
        x.lose(2);
        due("another part is gone: it can be", x.tear(0, 3, 1), 2);
        due("its own is gone", x.tear(1, 3, 1), NONE);
        due("its own is gone, PART 2", x.tear(5, 3, 1), NONE);
        x.replace(2);
        x.rebuild(2, 2);
        x.lose(4);
        due("P is gone", x.tear(0, 3, 1), NONE);
        due("Q is gone", x.tear(3, 3, 1), NONE);
        x.lose(1);
        due("its own is gone, PART 0", x.tear(0, 3, 1), NONE);
        due("dirty stays", x.most(6), 3);
        statuses(x, 1, 4, 5, 0);
        StripeShelf y = Check.shelf(SMALL);
        y.lose(1);
        due("PART 0 alone is gone", y.tear(0, 3, 1), NONE);
    }

    private void p23() {
        StripeShelf x = Check.shelf("sd3t3c2k2");
        due("no shelf", new StripeShelf().clean(), NONE);
        due("none is dirty", x.clean(), NONE);
        x.tear(0, 9, 1);
        x.tear(12, 8, 2);
        due("two of them", x.clean(), 2);
        due("cost", x.log(0, 2), 2 * 2 * (3 + 2));
        due("sort", x.log(0, 0), 7);
        due("number", x.log(0, 1), 2);
        due("none is dirty", x.most(6), 0);
        due("all right", x.fit(), 7);
        x.tear(0, 5, 1);
        x.lose(2);
        due("not all of it is there", x.clean(), NONE);
        statuses(x, 0, 0, 2, 0);
        x.replace(2);
        x.rebuild(2, 1);
        due("now it is", x.clean(), 1);
        due("fit", x.fit(), 1);
    }

    private void p24() {
        StripeShelf x = Check.shelf(FILLED);
        due("full(1, 0, 250, 4)", x.full(1, 0, 250, 4), 5);
        // PARTS 250, 254, 2 on DISKS 0, 1, 2; Q 250 ^ (508 ^ 285) ^ 8.
        cells(x, 1, 250, 254, 2, 250 ^ 254 ^ 2, 250 ^ 508 ^ 285 ^ 8);
        due("reads nothing", x.most(0), 0);
        due("writes", x.most(1), 5);
        due("log", x.log(0, 0) * 100 + x.log(0, 1) * 10 + x.log(0, 2), 815);
        due("stripe 2", x.full(2, 0, 256, 0), NONE);
        due("byte 1", x.full(0, 1, 0, 0), NONE);
        due("value", x.full(0, 0, 256, 0), NONE);
        due("value", x.full(0, 0, -1, 0), NONE);
        due("by", x.full(0, 0, 0, 256), NONE);
        due("by", x.full(0, 0, 0, -1), NONE);
        statuses(x, 2, 4, 0, 0);
        x.tear(0, 1, 1);
        x.lose(1);
        x.lose(2);
        due("what is there", x.full(0, 0, 1, 2), 3);
        due("dirty stays", x.most(6), 1);
        due("read(0)", x.read(0), 1);
        due("read(1)", x.read(1), 3);
        due("read(2)", x.read(2), 5);
    }

    private void p25() {
        due("no shelf", new StripeShelf().years(1, 1), NONE);
        StripeShelf x = Check.shelf("sd3t4c2k3;vx7");
        due("n 0", x.years(0, 1), NONE);
        due("n 41", x.years(41, 1), NONE);
        due("n -1", x.years(-1, 1), NONE);
        due("n 1", x.years(1, 2), x.most(0) + x.most(1));
        due("one act", x.count(3), 1);
        for (long seed : new long[] {0, 1, -1, Long.MAX_VALUE, Long.MIN_VALUE, 5, 99, 12345}) {
            yearsByHand(seed);
        }
    }

    private long drawn;

    private int draw(int of) {
        drawn = drawn * 6364136223846793005L + 1442695040888963407L;
        return (int) (drawn >>> 33) % of;
    }

    /** The same ACTS called one by one on another object leave the same shelf. */
    private void yearsByHand(long seed) {
        StripeShelf x = Check.shelf("sd3t4c2k3;vx7");
        StripeShelf y = Check.shelf("sd3t4c2k3;vx7");
        drawn = seed;
        for (int i = 0; i < 40; i++) {
            int sort = draw(12);
            int a = draw(sort < 5 || sort == 11 ? 24 : sort == 9 ? 4 : 5);
            int b = sort < 5 || sort == 11 ? draw(256) : sort == 7 || sort == 8 || sort == 10 ? draw(4) : 0;
            int c = sort == 10 ? draw(2) : sort == 11 ? draw(3) : 0;
            int d = sort == 10 ? draw(255) : 0;
            switch (sort) {
                case 5: y.lose(a); break;
                case 6: y.replace(a); break;
                case 7: case 8: y.rebuild(a, b + 1); break;
                case 9: y.scrub(a + 1); break;
                case 10: y.spoil(a, b, c, d + 1); break;
                case 11: y.tear(a, b, c); y.clean(); break;
                default: y.write(a, b); break;
            }
        }
        due("years(40, " + seed + ")", x.years(40, seed), y.most(0) + y.most(1));
        for (int what = 0; what <= 10; what++) {
            due("most(" + what + ")", x.most(what), y.most(what));
        }
        for (int a = 0; a < 24; a++) {
            due("read(" + a + ")", x.read(a), y.read(a));
        }
        for (int i = 0; i < y.count(3); i++) {
            due("log(" + i + ", 0)", x.log(i, 0), y.log(i, 0));
            due("log(" + i + ", 1)", x.log(i, 1), y.log(i, 1));
        }
        due("acts", x.count(4), y.count(4));
        statuses(x, 0, 0, 0, 0);
    }

    private void p26() {
        StripeShelf x = new StripeShelf();
        x.scrub(99);
        x.full(0, 0, 999, 0);
        statuses(x, 2, 0, 0, 0, NONE);
        due("status(-1)", x.status(-1), NONE);
        Check.take(x, 0, SMALL);
        x.write(0, 300);
        x.replace(0);
        x.lose(0);
        x.lose(1);
        x.lose(2);
        statuses(x, 2, 1, 1, 1);
        x.image();
        x.undo();
        x.back();
        statuses(x, 2, 1, 1, 1);
        x.years(9, 9);
        x.years(99, 9);
        x.undo();
        x.read(0);
        x.cell(9, 9, 9);
        statuses(x, 2, 1, 1, 1);
    }

    private void p27() {
        StripeShelf x = Check.shelf(FILLED);
        due("none", x.undo(), NONE);
        for (int i = 0; i < 45; i++) {
            x.write(i % 6, i);
        }
        due("40 of them", x.count(4), 40);
        for (int i = 39; i >= 0; i--) {
            due("undo", x.undo(), i);
            due("the one that stays", x.read((i + 4) % 6), i + 4);
            due("cost", x.most(0) + x.most(1), 5 * (i + 5));
        }
        due("none", x.undo(), NONE);
        due("five stay", x.count(3), 5);
        due("the fourth address", x.read(3), 3);
        due("the fifth", x.read(4), 4);
        due("the sixth", x.read(5), 0);
        due("cost of five", x.most(0) + x.most(1), 25);
        undoOfEachSort();
    }

    private void undoOfEachSort() {
        StripeShelf x = Check.shelf(FILLED);
        x.spoil(2, 0, 0, 16);
        x.scrub(1);
        x.undo();
        due("mended, not any more", x.cell(2, 0, 0), 19);
        due("nobody was", x.most(8), NONE);
        due("goes on at", x.most(5), 0);
        due("mended ever", x.most(2) + x.disk(2, 4), 0);
        x.undo();
        due("spoilt, not any more", x.cell(2, 0, 0), 3);
        x.lose(1);
        x.replace(1);
        x.rebuild(1, 2);
        x.undo();
        due("being rebuilt", x.disk(1, 0), 2);
        x.undo();
        due("lost", x.disk(1, 0), 1);
        due("spares", x.rule(4), 2);
        x.undo();
        due("whole", x.disk(1, 0), 0);
        due("its bytes", x.cell(1, 0, 0), 5);
        x.tear(0, 9, 2);
        x.clean();
        x.undo();
        due("dirty", x.most(6), 1);
        x.undo();
        due("not dirty", x.most(6), 0);
        cells(x, 0, 7, 5, 3, 1, 7);
        x.full(0, 0, 9, 9);
        x.undo();
        cells(x, 0, 7, 5, 3, 1, 7);
        due("nothing ever", x.most(0) + x.most(1) + x.count(3) + x.count(4), 0);
    }

    private void p28() {
        StripeShelf x = Check.shelf("sd6t12c4");
        due("empty", x.log(0, 0), HIDDEN);
        for (int i = 0; i < 100; i++) {
            x.write(i, 1);
        }
        due("60 of them", x.count(3), 60);
        due("the latest", x.log(0, 1), 99);
        due("the one ahead", x.log(1, 1), 98);
        due("the last told", x.log(59, 1), 40);
        due("no such one", x.log(60, 1), HIDDEN);
        due("no such one", x.log(-1, 1), HIDDEN);
        due("no such what", x.log(0, 3), HIDDEN);
        due("no such what", x.log(0, -1), HIDDEN);
        for (int i = 0; i < 38; i++) {
            x.undo();
        }
        due("still 60", x.count(3), 60);
        due("the latest", x.log(0, 1), 61);
        due("the last told", x.log(59, 1), 2);
        x.undo();
        x.undo();
        due("60 in all", x.count(3), 60);
        due("the latest", x.log(0, 1), 59);
        due("the first of all", x.log(59, 1), 0);
        x.lose(7);
        x.lose(8);
        due("a loss", x.log(0, 0) * 100 + x.log(0, 1) * 10 + x.log(0, 2), 170);
        due("log(59, 1)", x.log(59, 1), 1);
        for (int i = 0; i < 50; i++) {
            x.write(200 + i, 1);
        }
        for (int i = 0; i < 60; i++) {
            due("log(" + i + ", 1)", x.log(i, 1), i < 50 ? 249 - i : i == 50 ? 7 : 59 - (i - 51));
        }
    }

    private void p29() {
        StripeShelf x = Check.shelf(FILLED);
        costs(x, 0, 2, 3, 1);
        costs(Check.shelf("sd2t1c1"), 1, 1, 3, 1);
        costs(Check.shelf("sd4t1c1"), 1, 3, 3, 0);
        costs(Check.shelf("sd6t1c1"), 1, 3, 3, 0);
        StripeShelf two = Check.shelf("sd2t1c1");
        two.lose(3);
        costs(two, 1, 1, 2, 1);
        two.lose(1);
        costs(two, 0, 1, 1, 1);
        costs(two, 1, 2, 2, 0);
        x.lose(4);
        costs(x, 0, 2, 2, 0);
        x.lose(0);
        costs(x, 0, 1, 1, 0);
        StripeShelf y = Check.shelf("sd6t1c1");
        y.lose(1);
        costs(y, 0, 5, 2, 1);
        costs(y, 1, 3, 3, 0);
        y.lose(2);
        costs(y, 0, 6, 2, 2);
        costs(y, 5, 3, 3, 0);
        due("it was not written", y.most(0) + y.most(1), 0);
        due("no such one", x.cost(6, 0), NONE);
        due("no such one", x.cost(-1, 0), NONE);
        due("no such what", x.cost(0, 3), NONE);
        due("no such what", x.cost(0, -1), NONE);
    }

    private void costs(StripeShelf x, int address, int reads, int writes, int way) {
        due("cost(" + address + ", 0)", x.cost(address, 0), reads);
        due("cost(" + address + ", 1)", x.cost(address, 1), writes);
        due("cost(" + address + ", 2)", x.cost(address, 2), way);
    }

    private void p30() {
        StripeShelf x = Check.shelf(FILLED);
        int[] wanted = {7, 5, 3, 1, 7};
        for (int d = 0; d < 5; d++) {
            for (int other = 0; other < 5; other++) {
                due("told(" + d + ", " + other + ")", x.told(d, 0, 0, d, other), wanted[d]);
                due("told(" + other + ", " + d + ")", x.told(d, 0, 0, other, d), wanted[d]);
            }
        }
        x.spoil(3, 0, 0, 1);
        due("by P: with what is wrong", x.told(1, 0, 0, 1, 1), 4);
        due("by P again: Q left out", x.told(1, 0, 0, 1, 0), 4);
        due("by Q: P left out", x.told(1, 0, 0, 1, 4), 5 ^ 4);
        due("the wrong one left out", x.told(1, 0, 0, 3, 1), 5);
        due("none of both is its disk", x.told(1, 0, 0, 2, 3), NONE);
        due("none of both, twice", x.told(1, 0, 0, 2, 2), NONE);
        due("no such disk", x.told(5, 0, 0, 5, 5), NONE);
        due("no such stripe", x.told(1, 2, 0, 1, 1), NONE);
        due("no such byte", x.told(1, 0, 1, 1, 1), NONE);
        due("no such other", x.told(1, 0, 0, 5, 1), NONE);
        due("no such third", x.told(1, 0, 0, 1, -1), NONE);
        x.lose(2);
        due("another one is gone", x.told(1, 0, 0, 1, 1), HIDDEN);
        due("another one is gone", x.told(1, 0, 0, 1, 3), HIDDEN);
        due("that one is left out", x.told(1, 0, 0, 1, 2), x.told(1, 0, 0, 2, 1));
        due("its own is gone", x.told(2, 0, 0, 2, 3), 3);
        due("none of both, though gone", x.told(1, 0, 0, 3, 4), NONE);
    }

    private void p31() {
        StripeShelf x = Check.shelf(FILLED);
        due("nobody", x.who(0, 0), NONE);
        for (int d = 0; d < 5; d++) {
            x.spoil(d, 0, 0, 99);
            due("disk " + d, x.who(0, 0), d);
            x.spoil(d, 0, 0, 99);
        }
        x.spoil(4, 0, 0, 1);
        x.spoil(0, 0, 0, 128);
        due("open", x.who(0, 0), -2);
        x.spoil(0, 0, 0, 128 ^ 8);
        due("2 to the power DATA: open", x.who(0, 0), -2);
        x.spoil(0, 0, 0, 8 ^ 4);
        due("2 to the power DATA less 1: the last part", x.who(0, 0), 3);
        due("another stripe", x.who(1, 0), NONE);
        due("nothing was mended", x.most(2), 0);
        due("stripe 2", x.who(2, 0), HIDDEN);
        due("byte 1", x.who(0, 1), HIDDEN);
        x.tear(3, 0, 0);
        due("dirty", x.who(1, 0), HIDDEN);
        x.lose(3);
        due("not all is there", x.who(0, 0), HIDDEN);
        due("no shelf", new StripeShelf().who(0, 0), HIDDEN);
    }

    private void p32() {
        StripeShelf x = Check.shelf(FILLED);
        due("no shelf", new StripeShelf().more(), NONE);
        due("all", x.more(), 31);
        x.lose(0);
        due("all but it", x.more(), 30);
        x.lose(3);
        due("none", x.more(), 0);
        x.replace(3);
        due("the one being rebuilt", x.more(), 8);
        x.rebuild(3, 2);
        due("all but the lost one", x.more(), 30);
    }

    private void p33() {
        StripeShelf x = Check.shelf("sd3t4c2k3");
        due("no shelf", new StripeShelf().left(0), NONE);
        due("none", x.left(0), 0);
        due("none", x.left(1), 0);
        due("no such what", x.left(2), NONE);
        due("no such what", x.left(-1), NONE);
        x.lose(3);
        due("a lost one is not being so", x.left(0), 0);
        x.replace(3);
        due("four", x.left(0), 4);
        due("reads", x.left(1), 4 * 4 * 2);
        x.rebuild(3, 1);
        x.lose(1);
        due("one lost", x.left(1), 3 * 3 * 2);
        x.replace(1);
        due("both", x.left(0), 7);
        // DISK 1 first: STRIPE 0 with four others, three with three; then DISK 3 with four.
        due("both: reads", x.left(1), (4 + 9 + 12) * 2);
        int reads = x.most(0);
        int promised = x.left(1);
        x.rebuild(1, 4);
        x.rebuild(3, 4);
        due("as it comes", x.most(0) - reads, promised);
        StripeShelf y = Check.shelf("sd3t2c1k3");
        y.lose(0);
        y.lose(4);
        y.replace(4);
        due("the last one, the first one lost", y.left(0) * 100 + y.left(1), 206);
        y.replace(0);
        due("the first one, too", y.left(0) * 100 + y.left(1), 414);
    }

    private void p34() {
        StripeShelf x = Check.shelf("sd3t4c2k3");
        due("no shelf", new StripeShelf().fit(), NONE);
        due("all", x.fit(), 15);
        x.spoil(0, 2, 1, 5);
        due("all but one", x.fit(), 11);
        x.spoil(0, 1, 0, 5);
        due("all but two", x.fit(), 9);
        x.spoil(0, 1, 0, 5);
        x.tear(0, 0, 0);
        due("dirty, but right", x.fit(), 11);
        x.lose(4);
        due("none", x.fit(), 0);
        x.replace(4);
        x.rebuild(4, 3);
        due("of those that are there", x.fit() & 3, 3);
        due("one is not there", x.fit() & 8, 0);
    }

    private void p35() {
        StripeShelf x = Check.shelf(FILLED);
        x.spoil(2, 0, 0, 16);
        due("it would be mended", x.checked(1), 3);
        due("another one stays", x.checked(0), 5);
        due("it is not", x.read(1), 19);
        due("no cost", x.most(0), 0);
        x.spoil(4, 0, 0, 2);
        x.spoil(0, 0, 0, 200);
        due("open", x.checked(1), 19);
        x.tear(3, 4, 1);
        due("dirty", x.checked(3), 4);
        x.lose(2);
        due("not there: as it is read", x.checked(1), x.read(1));
        due("no such one", x.checked(6), NONE);
        due("no such one", x.checked(-1), NONE);
    }

    private void p36() {
        StripeShelf x = Check.shelf(FILLED);
        due("no image", x.equal(), NONE);
        due("no shelf", new StripeShelf().equal(), NONE);
        x.image();
        due("all", x.equal(), 6);
        x.write(0, 6);
        x.write(5, 1);
        due("but two", x.equal(), 4);
        x.lose(1);
        x.lose(2);
        due("solved ones, too", x.equal(), 4);
        x.image();
        x.undo();
        x.undo();
        due("solved in the image", x.equal(), 6);
        Check.take(x, 0, SMALL);
        due("another shelf", x.equal(), NONE);
    }

    private void p37() {
        StripeShelf x = Check.shelf("sd3t3c2k3");
        due("no shelf", new StripeShelf().span(0), NONE);
        due("none", x.span(0), 0);
        due("nowhere", x.span(1), NONE);
        due("no such what", x.span(2), NONE);
        due("no such what", x.span(-1), NONE);
        // PARTS: STRIPE 0 on 1 2 3, STRIPE 1 on 0 1 2, STRIPE 2 on 4 0 1.
        x.lose(3);
        due("one chunk", x.span(0), 2);
        due("at", x.span(1), 4);
        x.lose(0);
        due("over the end of a stripe", x.span(0), 4);
        due("at", x.span(1), 4);
        x.replace(3);
        x.rebuild(3, 1);
        due("two alike", x.span(0), 2);
        due("the first of them", x.span(1), 6);
        x.rebuild(3, 2);
        x.lose(4);
        due("at the end", x.span(0) * 100 + x.span(1), 412);
        due("no such what", x.span(2), NONE);
        due("no such what", x.span(-1), NONE);
        StripeShelf y = Check.shelf(SMALL);
        y.lose(1);
        y.lose(2);
        due("at the beginning", y.span(0) * 100 + y.span(1), 200);
    }

    private void p38() {
        StripeShelf x = Check.shelf(FILLED);
        due("no shelf", new StripeShelf().risk(), NONE);
        due("all couples", x.risk(), 10);
        due("of eight", Check.shelf("sd6").risk(), 28);
        x.lose(0);
        due("one lost", x.risk(), 0);
        x.replace(0);
        due("being rebuilt: with each other one", x.risk(), 4);
        x.lose(1);
        due("another one lost", x.risk(), 0);
        x.replace(1);
        due("both being rebuilt", x.risk(), 1);
        x.rebuild(0, 2);
        due("one whole", x.risk(), 4);
    }

    private void p39() {
        StripeShelf x = Check.shelf("sd3t4c2k3");
        due("no shelf", new StripeShelf().first(0), NONE);
        x.lose(2);
        due("none", x.first(0), NONE);
        due("none", x.first(1), NONE);
        x.replace(2);
        firsts(x, 2, 4, 4 * 4 * 2);
        x.lose(0);
        x.replace(0);
        firsts(x, 0, 4, 4 * 3 * 2);
        x.rebuild(2, 1);
        firsts(x, 2, 3, 3 * 3 * 2);
        x.rebuild(0, 2);
        // Two STRIPES left of DISK 0: DISK 2 has none of them.
        firsts(x, 0, 2, 2 * 3 * 2);
        due("no such what", x.first(3), NONE);
        due("no such what", x.first(-1), NONE);
        x.rebuild(0, 2);
        firsts(x, 2, 3, 3 * 4 * 2);
    }

    private void firsts(StripeShelf x, int disk, int stripes, int reads) {
        due("first(0)", x.first(0), disk);
        due("first(1)", x.first(1), stripes);
        due("first(2)", x.first(2), reads);
    }

    private void p40() {
        StripeShelf x = Check.shelf(FILLED);
        due("all couples", x.votes(0, 5), 10);
        due("none", x.votes(0, 6), 0);
        x.spoil(1, 0, 0, 1);
        due("those it stands by", x.votes(0, 4), 6);
        due("those that solve it", x.votes(0, 5), 4);
        // Of ADDRESS 1: couples with DISK 1 or without DISK 2 tell 3.
        due("another one", x.votes(1, 3), 7);
        x.spoil(1, 0, 0, 1);
        x.lose(3);
        due("couples with the lost one", x.votes(0, 5), 4);
        due("its own lost", x.votes(2, 1), 4);
        x.lose(4);
        due("the couple that is lost", x.votes(0, 5), 1);
        due("no such one", x.votes(6, 0), NONE);
        due("no such one", x.votes(-1, 0), NONE);
        due("no such value", x.votes(0, 256), NONE);
        due("no such value", x.votes(0, -1), NONE);
    }

    private void p41() {
        StripeShelf x = new StripeShelf();
        Check.take(x, 1, "w1,22;l3;n4;r5,6;s7;p8,9,10,11;z12,13,14;y;f15,16,17,999");
        int[][] wanted = {{0, 1, 22, NONE, NONE}, {1, 3, NONE, NONE, NONE}, {2, 4, NONE, NONE, NONE}, {3, 5, 6, NONE, NONE},
            {4, 7, NONE, NONE, NONE}, {5, 8, 9, 10, 11}, {6, 12, 13, 14, NONE}, {7, NONE, NONE, NONE, NONE}, {8, 15, 16, 17, 999}};
        for (int i = 0; i < 9; i++) {
            for (int what = 0; what < 5; what++) {
                due("step(0, " + i + ", " + what + ")", x.step(0, i, what), wanted[i][what]);
            }
        }
        due("no such step", x.step(0, 9, 0), HIDDEN);
        due("no such step", x.step(0, -1, 0), HIDDEN);
        due("no such what", x.step(0, 0, 5), HIDDEN);
        due("no such what", x.step(0, 0, -1), HIDDEN);
        due("no such script", x.step(1, 0, 0), HIDDEN);
        due("no such script", x.step(-1, 0, 0), HIDDEN);
        Check.take(x, 1, "y;y");
        due("the first one stays", x.step(0, 0, 2), 22);
        due("the second one", x.step(1, 1, 0), 7);
        Check.tape(x, "l1");
        x.fault(1);
        due("a look at the tape changes none", x.step(1, 1, 0), 7);
    }

    private void p42() {
        StripeShelf x = new StripeShelf();
        Check.take(x, 1, "w0,9;z0,8,1;y;l1;l2;l3");
        due("no shelf", x.run(0, 0), HIDDEN);
        Check.take(x, 0, FILLED);
        due("the sixth can't be", x.run(0, 0), 5);
        due("cost", x.run(0, 1), 5 + 4 + 5);
        due("nothing is changed", x.count(3) + x.most(0) + x.most(7), 0);
        due("as it was", x.read(0), 5);
        statuses(x, 0, 0, 0, 0);
        Check.take(x, 1, "s12;f1,0,1,1");
        due("all can be", x.run(1, 0), NONE);
        due("cost", x.run(1, 1), 65);
        Check.take(x, 1, "w6,0;y");
        due("the first can't be", x.run(2, 0), 0);
        due("cost of none", x.run(2, 1), 0);
        due("no such script", x.run(3, 0), HIDDEN);
        due("no such script", x.run(-1, 0), HIDDEN);
        due("no such what", x.run(0, 2), HIDDEN);
        due("no such what", x.run(0, -1), HIDDEN);
        x.lose(4);
        due("from as it is now", x.run(0, 0), 1);
        Check.take(x, 1, "p1,0,0,255;f0,0,255,255;p1,0,0,0");
        due("numbers of four", x.run(3, 0), 2);
        due("its cost", x.run(3, 1), 4);
    }

    private void p43() {
        StripeShelf x = new StripeShelf();
        Check.take(x, 1, "w0,9;w1,8;l1;n1;r1,12;l1;l2;w0,999;y");
        due("no shelf", x.perform(0), NONE);
        Check.take(x, 0, FILLED);
        due("perform(0)", x.perform(0), 7);
        statuses(x, 0, 0, 0, 0);
        due("acts", x.count(4), 7);
        due("log", x.count(3), 7);
        due("the latest", x.log(0, 0) * 10 + x.log(0, 1), 12);
        due("read(0)", x.read(0), 9);
        due("undo", x.undo(), 6);
        due("disk 2", x.disk(2, 0), 0);
        due("again, but disk 1 is lost", x.perform(0), 2);
        due("no such script", x.perform(1), NONE);
        due("no such script", x.perform(-1), NONE);
        Check.take(x, 1, "s1");
        due("all of it", x.perform(1), 1);
        Check.take(x, 0, SMALL);
        Check.take(x, 1, "p2,1,0,33;f0,0,6,250;z3,7,2");
        due("numbers of four", x.perform(2), 3);
        cells(x, 0, 6 ^ 0 ^ 1000 ^ 570 ^ 285, 6, 0, 250, 6 ^ 250);
        cells(x, 1, 7, 0, 33, 7, 0);
    }

    private void p44() {
        StripeShelf x = Check.shelf("sd3t4c2k3");
        due("no shelf", new StripeShelf().most(5), HIDDEN);
        int[] fresh = {0, 0, 0, 0, 0, 0, 0, 0, NONE, NONE, NONE, HIDDEN};
        for (int what = 0; what < fresh.length; what++) {
            due("most(" + what + ") at first", x.most(what), fresh[what]);
        }
        due("most(-1)", x.most(-1), HIDDEN);
        x.spoil(3, 1, 1, 7);
        x.spoil(0, 0, 0, 1);
        x.spoil(4, 0, 0, 128);
        x.scrub(2);
        x.tear(12, 1, 0);
        x.tear(18, 1, 1);
        x.scrub(1);
        x.lose(4);
        x.lose(1);
        x.replace(1);
        // Reads: 2 STRIPES of 10, twice 3; writes: one mended, one torn.
        int[] wanted = {26, 2, 1, 1, 1, 3, 12, 18, 3, 1, 1};
        for (int what = 0; what < wanted.length; what++) {
            due("most(" + what + ")", x.most(what), wanted[what]);
        }
    }

    private void p45() {
        StripeShelf x = Check.shelf(FILLED);
        due("no shelf", new StripeShelf().image(), NONE);
        due("none yet", x.image(), 0);
        x.write(0, 9);
        due("image()", x.image(), 5);
        x.write(0, 8);
        due("no act", x.count(3), 2);
        due("instead of the one ahead", x.back(), 5);
        due("read(0)", x.read(0), 9);
    }

    private void p46() {
        StripeShelf x = Check.shelf(FILLED);
        due("no image", x.back(), NONE);
        x.lose(1);
        x.tear(2, 9, 2);
        x.image();
        x.replace(1);
        x.rebuild(1, 2);
        x.clean();
        x.spoil(2, 0, 0, 1);
        x.scrub(2);
        x.write(9, 9);
        due("back()", x.back(), 5);
        due("lost", x.disk(1, 0), 1);
        due("spares", x.rule(4), 2);
        due("dirty", x.most(6), 1);
        due("goes on at", x.most(5), 0);
        due("nobody was mended", x.most(8), NONE);
        due("the log", x.count(3), 2);
        due("its latest", x.log(0, 0), 6);
        due("no act can be undone", x.count(4), 0);
        due("undo", x.undo(), NONE);
        statuses(x, 1, 0, 0, 0);
        x.write(0, 1);
        due("undo of a later one", x.undo(), 0);
        due("and back again", x.back(), 5);
        Check.take(x, 0, SMALL);
        due("no image of this one", x.back(), NONE);
        longLogsAndImages();
    }

    private void longLogsAndImages() {
        StripeShelf x = Check.shelf(FILLED);
        for (int i = 0; i < 70; i++) {
            x.spoil(i % 5, 0, 0, 1);
        }
        x.image();
        for (int i = 0; i < 130; i++) {
            x.write(i % 6, i);
        }
        x.back();
        due("60 told", x.count(3), 60);
        due("the latest", x.log(0, 0) * 10 + x.log(0, 1), 54);
        due("the last told", x.log(59, 0) * 10 + x.log(59, 1), 50);
    }

    private void p47() {
        StripeShelf x = Check.shelf(FILLED);
        Check.take(x, 1, "y");
        Check.tape(x, "abc");
        x.write(0, 1);
        x.lose(9);
        x.write(1, 1);
        x.undo();
        int[] wanted = {6, 1, 3, 1, 1, HIDDEN};
        for (int what = 0; what < wanted.length; what++) {
            due("count(" + what + ")", x.count(what), wanted[what]);
        }
        due("count(-1)", x.count(-1), HIDDEN);
    }

    private void all() throws ReflectiveOperationException {
        for (int i = 1; i <= 47; i++) {
            promise = "promise " + i;
            PromisesTest.class.getDeclaredMethod("p" + i).invoke(this);
        }
        check.finish("PromisesTest");
    }

    public static void main(String[] args) throws ReflectiveOperationException {
        new PromisesTest().all();
    }
}
