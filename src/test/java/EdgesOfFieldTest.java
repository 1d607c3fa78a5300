import java.util.HashSet;
import java.util.Set;

/** Edges of the RULES, of the FIELD and of where all lies: promises 6 to 12. */
public final class EdgesOfFieldTest extends Edges {
    private static final int[] POLYNOMIALS = {285, 299, 301, 333};
    private static final int[] BYTES = {0, 1, 2, 3, 127, 128, 129, 254, 255};

    private void promise6() {
        edge("6: NONE: no SHELF", times(7, "rule # -> NONE !"));
        edge("6: NONE: no such what", SMALL, "rule -1 -> NONE !", "rule 7 -> NONE !", "rule MAX -> NONE !", "rule MIN -> NONE !", "rule 6 -> 6", "rule 0 -> 3");
        edge("6: SPARES now", "shelf 'sk2' -> 24", "rule 4 -> 2", "lose 0", "rule 4 -> 2", "replace 0 -> 1", "rule 4 -> 1", "lose 0", "rule 4 -> 1",
            "replace 0 -> 0", "rule 4 -> 0", "undo", "rule 4 -> 1");
    }

    /** SHELVES of all RULES as they begin, and each again behind one that was not WHOLE. */
    private void promise6OfAllRules() {
        for (int data = 2; data <= 6; data++) {
            for (int stripes = 1; stripes <= 12; stripes++) {
                for (int chunk = 1; chunk <= 4; chunk++) {
                    String shelf = "shelf 'sd" + data + "t" + stripes + "c" + chunk + "' -> " + data * stripes * chunk;
                    int n = data + 2;
                    String[] begins = lines(row("rule", data, stripes, chunk, 0, 1, n, data * stripes * chunk), "most 7 -> 0", "most 6 -> 0", "more -> " + ((1 << n) - 1), "left 0 -> 0", "left 1 -> 0",
                        "fit -> " + ((1 << stripes) - 1), "span 0 -> 0", "span 1 -> NONE", "risk -> " + n * (n - 1) / 2, "first 0 -> NONE", "read " + (data * stripes * chunk - 1) + " -> 0",
                        "read " + data * stripes * chunk + " -> throws", "cell " + (n - 1) + " " + (stripes - 1) + " " + (chunk - 1) + " -> 0", "disk " + (n - 1) + " 1 -> " + stripes);
                    edge("6: " + shelf, lines(shelf, begins, "write 0 255", "spoil 0 0 0 3", "tear 1 9 1", "lose 0", "lose " + (n - 1), "replace 0", shelf, begins));
                }
            }
        }
    }

    /** As polynomials over bits: the long way. */
    private static int product(int polynomial, int a, int b) {
        int sum = 0;
        for (int i = 0; i < 8; i++) {
            sum ^= (b >> i & 1) * (a << i);
        }
        for (int bit = 14; bit >= 8; bit--) {
            sum ^= (sum >> bit & 1) * (polynomial << bit - 8);
        }
        return sum;
    }

    private void promises7And8() {
        for (int f = 0; f < 4; f++) {
            StripeShelf x = Check.shelf("sf" + f);
            for (int a : BYTES) {
                for (int b : BYTES) {
                    int due = product(POLYNOMIALS[f], a, b);
                    check.due("7: times(" + a + ", " + b + "), FIELD " + f, x.times(a, b), due);
                    if (b != 0) {
                        check.due("8: over(" + due + ", " + b + "), FIELD " + f, x.over(due, b), a);
                    }
                }
            }
        }
        edge("7: NONE: no SHELF", "times 0 0 -> NONE !", "times 1 1 -> NONE !", "times 255 255 -> NONE !");
        edge("7: NONE: no such ones", SMALL, "times 255 255 -> 226", "times 256 1 -> NONE !", "times 1 256 -> NONE !", "times -1 1 -> NONE !",
            "times 1 -1 -> NONE !", "times 0 256 -> NONE !", "times 256 0 -> NONE !", "times MIN 0 -> NONE !", "times 0 MAX -> NONE !");
        edge("7: 0 times all is 0", SMALL, "times 0 0 -> 0", "times 0 255 -> 0", "times 255 0 -> 0");
        edge("8: NONE: no SHELF", "over 0 1 -> NONE !", "over 1 1 -> NONE !");
        edge("8: NONE: no such ones", SMALL, "over 255 255 -> 1", "over 256 1 -> NONE !", "over 1 256 -> NONE !", "over -1 1 -> NONE !", "over 1 -1 -> NONE !",
            "over MIN 1 -> NONE !", "over 1 MAX -> NONE !");
        edge("8: NONE: b is 0", SMALL, "over 0 0 -> NONE !", "over 1 0 -> NONE !", "over 255 0 -> NONE !", "over 0 1 -> 0", "over 0 255 -> 0");
    }

    private void promises9And10() {
        for (int f = 0; f < 4; f++) {
            StripeShelf x = Check.shelf("sf" + f);
            StripeShelf y = Check.shelf("sf" + f);
            Set<Integer> all = new HashSet<>();
            int power = 1;
            for (int k = 0; k <= 254; k++) {
                int got = x.power(k);
                all.add(got);
                check.due("9: power(" + k + "), FIELD " + f, got, power);
                check.due("10: logOf(" + power + "), FIELD " + f, y.logOf(power), k);
                power = product(POLYNOMIALS[f], power, 2);
            }
            check.due("2: 2 to the powers 0 .. 254 is each byte but 0 once, FIELD " + f, all.size(), 255);
            check.due("2: 0 is none of them, FIELD " + f, all.contains(0), false);
        }
        powersGoRound(0, 142, 243, 251);
        powersGoRound(1, 149, 20, 40);
        powersGoRound(2, 150, 153, 31);
        powersGoRound(3, 166, 197, 199);
        edge("9: NONE: no SHELF", "power 0 -> NONE !", "power 1 -> NONE !");
        edge("9: NONE: out of bounds", SMALL, "power 0 -> 1", "power -1 -> NONE !", "power 1000 -> NONE !", "power MAX -> NONE !", "power MIN -> NONE !");
        edge("10: NONE: no SHELF", "logOf 1 -> NONE !", "logOf 0 -> NONE !");
        edge("10: NONE: no such one, 0", SMALL, "logOf 0 -> NONE !", "logOf -1 -> NONE !", "logOf 256 -> NONE !", "logOf MAX -> NONE !", "logOf MIN -> NONE !");
        edge("10: the lowest and the highest", SMALL, "logOf 1 -> 0", "logOf 2 -> 1", "logOf 255 -> 175", "logOf 142 -> 254");
        edge("2: another SHELF, another FIELD", "shelf 'sf0' -> 24", "power 8 -> 29", "logOf 29 -> 8", "shelf 'sf1' -> 24", "power 8 -> 43", "logOf 43 -> 8",
            "shelf 'sf2' -> 24", "power 8 -> 45", "logOf 45 -> 8", "shelf 'sf3' -> 24", "power 8 -> 77", "logOf 77 -> 8", "shelf 's' -> 24", "power 8 -> 29");
    }

    /** 255 powers and it goes round: 998 is as 233, 999 as 234. */
    private void powersGoRound(int field, int last, int ahead, int most) {
        edge("9: powers go round, FIELD " + field, "shelf 'sf" + field + "' -> 24", "power 254 -> " + last, "power 255 -> 1", "power 256 -> 2",
            "power 509 -> " + last, "power 510 -> 1", "power 764 -> " + last, "power 765 -> 1", "power 998 -> " + ahead, "power 999 -> " + most,
            "power 233 -> " + ahead, "power 234 -> " + most);
    }

    private void promise11() {
        String[] shelves = {"sd2t1c1", "sd2t12c1", "sd3t7c2", "sd5t8c3", "sd6t12c4"};
        int[][] rules = {{2, 1, 1}, {2, 12, 1}, {3, 7, 2}, {5, 8, 3}, {6, 12, 4}};
        for (int i = 0; i < shelves.length; i++) {
            places(shelves[i], rules[i][0], rules[i][1], rules[i][2]);
        }
        edge("11: NONE: no SHELF", "place 0 0 -> NONE !");
        edge("11: NONE: no such ones", lines(SMALL, row("place 5", 2, 1, 0, 2), "place 6 0 -> NONE !", "place -1 0 -> NONE !", "place 0 -1 -> NONE !", "place 0 4 -> NONE !",
            "place MAX 0 -> NONE !", "place MIN 0 -> NONE !", "place 0 MAX -> NONE !", "place 0 MIN -> NONE !"));
    }

    /** Counts up BYTE, PART, STRIPE; 100 ADDRESSES an object, so that none has more than 512 calls. */
    private void places(String text, int data, int stripes, int chunk) {
        int address = 0;
        StripeShelf x = Check.shelf(text);
        int disks = data + 2;
        for (int stripe = 0; stripe < stripes; stripe++) {
            int disk = disks - 1 - stripe % disks;
            disk = disk + 1 == disks ? 0 : disk + 1;
            for (int part = 0; part < data; part++) {
                disk = disk + 1 == disks ? 0 : disk + 1;
                for (int at = 0; at < chunk; at++) {
                    x = address % 100 == 0 ? Check.shelf(text) : x;
                    String where = "11: " + text + ", place of " + address + ": ";
                    check.due(where + "DISK", x.place(address, 0), disk);
                    check.due(where + "STRIPE", x.place(address, 1), stripe);
                    check.due(where + "BYTE", x.place(address, 2), at);
                    check.due(where + "PART", x.place(address, 3), part);
                    address++;
                }
            }
        }
        check.due("11: " + text + ", behind the last ADDRESS", x.place(address, 0), -1);
    }

    private void promise12() {
        for (int data = 2; data <= 6; data++) {
            StripeShelf x = Check.shelf("sd" + data + "t12");
            int disks = data + 2;
            for (int stripe = 0; stripe < 12; stripe++) {
                int p = disks - 1 - stripe % disks;
                String where = "12: d" + data + ", STRIPE " + stripe + ": ";
                check.due(where + "P", x.part(p, stripe), data);
                check.due(where + "Q behind it, behind the last one the first", x.part((p + 1) % disks, stripe), data + 1);
                for (int part = 0; part < data; part++) {
                    check.due(where + "PART " + part, x.part((p + 2 + part) % disks, stripe), part);
                }
            }
        }
        edge("2: P of STRIPE 0 is on the last DISK, Q on the first", SMALL, "part 4 0 -> 3", "part 0 0 -> 4", "part 1 0 -> 0", "part 3 0 -> 2");
        edge("2: P goes round with the STRIPES", "shelf 'sd2t6' -> 24", "part 3 0 -> 2", "part 2 1 -> 2", "part 1 2 -> 2", "part 0 3 -> 2", "part 3 4 -> 2", "part 2 5 -> 2");
        edge("12: NONE: no SHELF", "part 0 0 -> NONE !");
        edge("12: NONE: no such ones", SMALL, "part 4 1 -> 4", "part 5 0 -> NONE !", "part -1 0 -> NONE !", "part 0 2 -> NONE !", "part 0 -1 -> NONE !",
            "part MAX 0 -> NONE !", "part 0 MAX -> NONE !", "part MIN 0 -> NONE !", "part 0 MIN -> NONE !");
    }

    public static void main(String[] args) {
        EdgesOfFieldTest test = new EdgesOfFieldTest();
        test.promise6();
        test.promise6OfAllRules();
        test.promises7And8();
        test.promises9And10();
        test.promise11();
        test.promise12();
        test.check.finish("EdgesOfFieldTest");
    }
}
