/** The edges of promises 17 to 19: who is SAVED, CREWS of BOATS, DRIFT. One function for each sentence that names one. */
public final class BoatsEdgeTests extends Due {
    private static WhaleTown with(String text) {
        return laid(DULL + text);
    }

    private static void dueSaved(String name, WhaleTown x, int t, int people) {
        due(name + ": saved(" + t + ")", x.saved(t), people);
    }

    /** BOATS as bits, then the BOAT of each HOUSE. */
    private static void dueCrews(String text, int boats, int... boatOf) {
        WhaleTown x = with(text);
        due("crews(-1) of " + text, x.crews(-1), boats);
        for (int h = 0; h < boatOf.length; h++) {
            due("crews(" + h + ") of " + text, x.crews(h), boatOf[h]);
        }
        due("houses of " + text, x.count(1), boatOf.length);
    }

    private static void dueNoCrews(String text, int houses) {
        int[] none = new int[houses];
        java.util.Arrays.fill(none, NONE);
        dueCrews(text, NONE, none);
    }

    private static void dueDrift(int m, int n, int e, int f, int above, int below) {
        WhaleTown x = new WhaleTown();
        String name = "drift(" + m + ", " + n + ", " + e + ", " + f + ")";
        dueShare(name, x.drift(m, n, e, f, 0), x.drift(m, n, e, f, 1), above, below);
    }

    // ---- 17

    private static void minutesThatAreTold() {
        sentence("saved: t (0 to 99) minutes. BAD");
        WhaleTown[] towns = {new WhaleTown(), with(""), with("h9,0;"), with("b9;"), with("h9,60;b30;")};
        for (WhaleTown x : towns) {
            dueTold("saved t", 0, 99, x::saved);
        }
    }

    private static void noFartherThanThat() {
        sentence("saved: people of HOUSES no farther than that");
        for (int minutes = 0; minutes <= 60; minutes++) {
            WhaleTown x = with("h7," + minutes + ";b30;");
            for (int t = 0; t <= 99; t++) {
                dueSaved("minutes " + minutes, x, t, minutes <= t ? 7 : 0);
            }
        }
        WhaleTown x = with("h1,0;h2,12;h3,24;h4,36;h5,48;h6,60;b30;");
        for (int t = 0; t <= 99; t++) {
            int near = t >= 60 ? 6 : t / 12 + 1;
            dueSaved("six houses", x, t, near * (near + 1) / 2);
        }
    }

    private static void haveRoomInTheBoats() {
        sentence("saved: how many people have room in the BOATS");
        for (int room = 1; room <= 30; room++) {
            dueSaved("room " + room, with("h9,0;h8,0;b" + room + ";"), 0, Math.min(17, room));
        }
        dueSaved("as much room as people", with("h9,5;h9,5;b9;b9;"), 5, 18);
        dueSaved("room for one less", with("h9,5;h9,5;b9;b8;"), 5, 17);
        dueSaved("room for one more", with("h9,5;h9,5;b9;b10;"), 5, 18);
        dueSaved("all six houses into four boats", with("h9,60;".repeat(6) + "b13;b13;b13;b14;"), 99, 53);
        dueSaved("all six houses into four boats", with("h9,60;".repeat(6) + "b13;b13;b13;b15;"), 99, 54);
        dueSaved("the greatest boats", with("h9,60;".repeat(6) + "b30;b30;b30;b30;"), 60, 54);
        dueSaved("the least of both", with("h1,0;b1;"), 0, 1);
    }

    private static void onlyThoseInTime() {
        sentence("saved: those who are too far take no room");
        WhaleTown x = with("h9,50;h4,10;b5;");
        dueSaved("the near one", x, 10, 4);
        dueSaved("the near one", x, 49, 4);
        dueSaved("both", x, 50, 5);
    }

    private static void withoutBoatsOrHouses() {
        sentence("saved: no BOATS, no HOUSES: nobody is");
        for (int t = 0; t <= 99; t++) {
            dueSaved("no boats", with("h9,0;h9,0;"), t, 0);
            dueSaved("no houses", with("b30;b30;"), t, 0);
            dueSaved("none of both", with(""), t, 0);
        }
    }

    // ---- 18

    private static void housesThatAreTold() {
        sentence("crews: BOATS (h = -1), the BOAT of a HOUSE, such as there are. BAD");
        for (int houses = 0; houses <= 6; houses++) {
            WhaleTown fits = with("h1,1;".repeat(houses) + "b9;");
            WhaleTown tooMany = with("h9,1;".repeat(houses) + "b8;");
            WhaleTown noBoats = with("h9,1;".repeat(houses));
            WhaleTown[] towns = {fits, tooMany, noBoats};
            for (WhaleTown x : towns) {
                // -1 is told, and is BAD's own number: so it is what is answered that tells.
                for (int h = -1; h < houses; h++) {
                    due("crews(" + h + ") of " + houses, x.crews(h), houses > 0 && x == fits ? (h < 0 ? 1 : 0) : NONE);
                }
                int[] others = {-2, -3, houses, houses + 1, 100, -100, Integer.MIN_VALUE, Integer.MAX_VALUE, houses + 256};
                for (int h : others) {
                    due("crews(" + h + ") of " + houses, x.crews(h), BAD);
                }
            }
        }
    }

    private static void noneOverFull() {
        sentence("CREWS: none over-full");
        for (int room = 1; room <= 30; room++) {
            for (int people = 1; people <= 9; people++) {
                String text = "h" + people + ",1;b" + room + ";";
                if (people <= room) {
                    dueCrews(text, 1, 0);
                } else {
                    dueNoCrews(text, 1);
                }
            }
        }
        dueCrews("h9,1;h9,1;h9,1;b27;", 1, 0, 0, 0);
        dueNoCrews("h9,1;h9,1;h9,1;b26;", 3);
        dueCrews("h5,1;h5,1;h5,1;h5,1;h5,1;h5,1;b30;", 1, 0, 0, 0, 0, 0, 0);
        dueNoCrews("h5,1;h5,1;h5,1;h5,1;h5,1;h6,1;b30;", 6);
    }

    private static void eachWhole() {
        sentence("CREWS: HOUSES, each whole");
        dueNoCrews("h4,1;h4,1;h4,1;b6;b6;", 3);
        dueCrews("h4,1;h2,1;h4,1;h2,1;b6;b6;", 3, 0, 0, 1, 1);
        dueNoCrews("h9,1;b8;b8;b8;b8;", 1);
        dueCrews("h9,1;b8;b8;b8;b9;", 8, 3);
        dueNoCrews("h5,1;h5,1;h5,1;h5,1;h5,1;b9;b9;b9;b9;", 5);
        dueCrews("h5,1;h5,1;h5,1;h5,1;h5,1;b9;b9;b9;b10;", 15, 0, 1, 2, 3, 3);
    }

    private static void thoseOfFewestBoats() {
        sentence("CREWS: those of fewest BOATS");
        dueCrews("h3,1;h3,1;b3;b3;b6;", 4, 2, 2);
        dueCrews("h3,1;h3,1;b3;b3;b5;", 3, 0, 1);
        dueCrews("h3,1;h3,1;h3,1;b3;b3;b3;b9;", 8, 3, 3, 3);
        dueCrews("h3,1;h3,1;h3,1;b3;b3;b3;b8;", 9, 0, 3, 3);
        dueCrews("h3,1;h3,1;h3,1;b3;b3;b3;b5;", 7, 0, 1, 2);
        dueCrews("h3,1;h3,1;h3,1;h3,1;b3;b3;b3;b3;", 15, 0, 1, 2, 3);
        // A BOAT that nobody goes to is none of these.
        dueCrews("h1,1;b30;b30;b30;b30;", 1, 0);
    }

    private static void theLowestSet() {
        sentence("CREWS: the BOATS (bits), of several the lowest set");
        dueCrews("h9,1;b8;b9;b9;b9;", 2, 1);
        dueCrews("h9,1;b8;b8;b9;b9;", 4, 2);
        dueCrews("h9,1;h9,1;b9;b8;b9;b9;", 5, 0, 2);
        // 3 is 0 and 1, 5 is 0 and 2, 6 is 1 and 2, 9 is 0 and 3: 6 is lower than 9.
        dueCrews("h9,1;h9,1;b1;b9;b9;b9;", 6, 1, 2);
        dueCrews("h9,1;h9,1;h9,1;h1,1;b1;b9;b10;b18;", 12, 2, 3, 3, 2);
        dueCrews("h9,1;h9,1;b9;b1;b1;b9;", 9, 0, 3);
        dueCrews("h9,1;h9,1;b1;b9;b1;b9;", 10, 1, 3);
        dueCrews("h9,1;h9,1;h9,1;b9;b9;b9;b9;", 7, 0, 1, 2);
        dueCrews("h9,1;h9,1;h9,1;b9;b9;b8;b9;", 11, 0, 1, 3);
        dueCrews("h9,1;h9,1;h9,1;b9;b8;b9;b9;", 13, 0, 2, 3);
        dueCrews("h9,1;h9,1;h9,1;b8;b9;b9;b9;", 14, 1, 2, 3);
    }

    private static void firstByHouses() {
        sentence("CREWS: of ways with these the first by HOUSE 0, the lowest BOAT, then 1, ..");
        dueCrews("h3,1;h3,1;h3,1;b6;b6;", 3, 0, 0, 1);
        // HOUSE 0 into BOAT 0 leaves no way, so into BOAT 1.
        dueCrews("h5,1;h4,1;h2,1;b6;b5;", 3, 1, 0, 0);
        dueCrews("h2,1;h5,1;h4,1;b6;b5;", 3, 0, 1, 0);
        dueCrews("h1,1;h4,1;h6,1;b6;b5;", 3, 1, 1, 0);
        // HOUSE 1 into BOAT 0 has room there, but then HOUSE 2 has none.
        dueCrews("h1,1;h1,1;h9,1;b10;b2;", 3, 0, 1, 0);
        dueCrews("h1,1;h1,1;h1,1;h9,1;b10;b2;", 3, 0, 1, 1, 0);
        // A way by BOATS of these alone: HOUSE 0 would fit into BOAT 0, which is not one of these.
        dueCrews("h2,1;h9,1;b2;b11;b11;", 2, 1, 1);
        // All BOATS of the set are gone to.
        dueCrews("h1,1;h2,1;h3,1;h4,1;h5,1;h6,1;b7;b7;b7;", 7, 0, 1, 2, 2, 1, 0);
    }

    private static void noWayOrNoHouses() {
        sentence("CREWS: none (no way, no HOUSES)");
        dueNoCrews("", 0);
        dueNoCrews("b1;", 0);
        dueNoCrews("b30;b30;b30;b30;", 0);
        for (int houses = 1; houses <= 6; houses++) {
            dueNoCrews("h1,0;".repeat(houses), houses);
            dueNoCrews("h9,0;".repeat(houses) + "b8;b8;b8;b8;", houses);
        }
        dueNoCrews("h1,0;h9,0;b8;b8;b8;b8;", 2);
        dueNoCrews("h9,0;h1,0;b8;b8;b8;b8;", 2);
    }

    private static void mostHousesAndBoats() {
        sentence("CREWS: of 6 HOUSES and 4 BOATS");
        dueCrews("h9,1;h9,1;h9,1;h9,1;h9,1;h9,1;b9;b9;b18;b18;", 15, 0, 1, 2, 2, 3, 3);
        dueNoCrews("h9,1;h9,1;h9,1;h9,1;h9,1;h9,1;b9;b9;b18;b17;", 6);
        dueCrews("h1,1;h2,1;h3,1;h4,1;h5,1;h6,1;b1;b5;b6;b9;", 15, 0, 1, 1, 3, 3, 2);
        dueCrews("h9,60;h9,60;h9,60;h9,60;h9,60;h9,60;b30;b30;b30;b30;", 3, 0, 0, 0, 1, 1, 1);
    }

    // ---- 19

    private static void milesNightsAndSides() {
        sentence("drift: m (0 to 12), n (0 to 6) nights, e, f 0 to 4; above (part = 0), below (1). BAD");
        WhaleTown[] towns = {new WhaleTown(), with("")};
        for (WhaleTown x : towns) {
            dueTold("drift m", 0, 12, m -> x.drift(m, 3, 1, 1, 0));
            dueTold("drift n", 0, 6, n -> x.drift(6, n, 1, 1, 0));
            dueTold("drift e", 0, 4, e -> x.drift(6, 3, e, 0, 0));
            dueTold("drift f", 0, 4, f -> x.drift(6, 3, 0, f, 0));
            dueTold("drift part", 0, 1, part -> x.drift(6, 3, 1, 1, part));
            due("all BAD", x.drift(13, 7, 5, 5, 2), BAD);
        }
    }

    private static void fourTogetherAtMost() {
        sentence("drift: e, f 0 to 4, 4 together at most. BAD");
        WhaleTown x = new WhaleTown();
        for (int e = -1; e <= 5; e++) {
            for (int f = -1; f <= 5; f++) {
                boolean told = e >= 0 && f >= 0 && e + f <= 4;
                due("drift(6, 0, " + e + ", " + f + ", 0)", x.drift(6, 0, e, f, 0), told ? 1 : BAD);
                due("drift(6, 6, " + e + ", " + f + ", 0)", Math.min(0, x.drift(6, 6, e, f, 0)), told ? 0 : BAD);
            }
        }
        int max = Integer.MAX_VALUE;
        int min = Integer.MIN_VALUE;
        int[][] wrapped = {{max, max}, {min, min}, {max, min}, {min, max}, {max, 1}, {1, max}, {min + 4, min}, {1 << 30, 1 << 30}};
        for (int[] sides : wrapped) {
            due("drift of " + sides[0] + " and " + sides[1], x.drift(6, 1, sides[0], sides[1], 0), BAD);
        }
    }

    private static void noNights() {
        sentence("drift: behind 0 nights it is here");
        for (int m = 0; m <= 12; m++) {
            dueDrift(m, 0, 4, 0, m == 6 ? 1 : 0, 1);
            dueDrift(m, 0, 0, 4, m == 6 ? 1 : 0, 1);
            dueDrift(m, 0, 0, 0, m == 6 ? 1 : 0, 1);
            dueDrift(m, 0, 2, 2, m == 6 ? 1 : 0, 1);
        }
    }

    private static void surelyEastOrWest() {
        sentence("drift: a mile east by e of four, west by f of four: 4 is surely, 0 never");
        for (int n = 0; n <= 6; n++) {
            for (int m = 0; m <= 12; m++) {
                dueDrift(m, n, 4, 0, m == 6 + n ? 1 : 0, 1);
                dueDrift(m, n, 0, 4, m == 6 - n ? 1 : 0, 1);
                dueDrift(m, n, 0, 0, m == 6 ? 1 : 0, 1);
            }
        }
    }

    private static void oneNight() {
        sentence("drift: one night: east by e, west by f, here by the rest");
        int[][] terms = {{0, 1}, {1, 4}, {1, 2}, {3, 4}, {1, 1}};
        for (int e = 0; e <= 4; e++) {
            for (int f = 0; e + f <= 4; f++) {
                int[] rest = terms[4 - e - f];
                dueDrift(7, 1, e, f, terms[e][0], terms[e][1]);
                dueDrift(5, 1, e, f, terms[f][0], terms[f][1]);
                dueDrift(6, 1, e, f, rest[0], rest[1]);
                dueDrift(8, 1, e, f, 0, 1);
                dueDrift(4, 1, e, f, 0, 1);
            }
        }
    }

    private static void toTheEndsAndNotBeyond() {
        sentence("drift: m less 6 miles east of here, 0 and 12 the farthest");
        for (int n = 0; n <= 6; n++) {
            int below = 1 << 2 * n;
            for (int m = 0; m <= 12; m++) {
                boolean within = Math.abs(m - 6) <= n;
                WhaleTown x = new WhaleTown();
                due("drift(" + m + ", " + n + ") can be", x.drift(m, n, 1, 1, 0) > 0 ? 1 : 0, within ? 1 : 0);
                if (!within) {
                    due("never is 0 of 1", x.drift(m, n, 1, 1, 1), 1);
                }
            }
            dueDrift(6 + n, n, 1, 0, 1, below);
            dueDrift(6 - n, n, 0, 1, 1, below);
            dueDrift(6 + n, n, 1, 3, 1, below);
            dueDrift(6 - n, n, 3, 1, 1, below);
        }
        // 3 to the sixth of 4 to the sixth, all miles one way.
        dueDrift(12, 6, 3, 1, 729, 4096);
        dueDrift(0, 6, 1, 3, 729, 4096);
        dueDrift(0, 6, 4, 0, 0, 1);
        dueDrift(12, 6, 0, 4, 0, 1);
    }

    private static void sixNights() {
        sentence("drift: behind 6 nights, in lowest terms");
        // By halves: six over three of 64 and so on.
        int[] above = {1, 0, 3, 0, 15, 0, 5, 0, 15, 0, 3, 0, 1};
        int[] below = {64, 1, 32, 1, 64, 1, 16, 1, 64, 1, 32, 1, 64};
        // By 1, 2, 1 of four it is as twelve steps by halves: twelve over m of 4096.
        int[] twelveOver = {1, 12, 66, 220, 495, 792, 924, 792, 495, 220, 66, 12, 1};
        for (int m = 0; m <= 12; m++) {
            dueDrift(m, 6, 2, 2, above[m], below[m]);
            int common = Integer.lowestOneBit(twelveOver[m]);
            dueDrift(m, 6, 1, 1, twelveOver[m] / common, 4096 / common);
        }
        long sum = 0;
        WhaleTown x = new WhaleTown();
        for (int m = 0; m <= 12; m++) {
            sum += 4096L / x.drift(m, 6, 3, 0, 1) * x.drift(m, 6, 3, 0, 0);
        }
        due("all miles together", sum, 4096);
    }

    private static void driftByItsNumbersAlone() {
        sentence("drift: by m, n, e, f alone, whatever was asked ahead");
        WhaleTown x = new WhaleTown();
        x.drift(12, 6, 4, 0, 0);
        dueShare("here at once", x.drift(6, 0, 4, 0, 0), x.drift(6, 0, 4, 0, 1), 1, 1);
        x.drift(0, 6, 0, 4, 0);
        x.drift(13, 6, 0, 4, 0);
        dueShare("a mile east", x.drift(7, 1, 1, 1, 0), x.drift(7, 1, 1, 1, 1), 1, 4);
        x.day(15, 7);
        dueShare("a mile east", x.drift(7, 1, 1, 1, 0), x.drift(7, 1, 1, 1, 1), 1, 4);
    }

    public static void main(String[] args) {
        minutesThatAreTold();
        noFartherThanThat();
        haveRoomInTheBoats();
        onlyThoseInTime();
        withoutBoatsOrHouses();
        housesThatAreTold();
        noneOverFull();
        eachWhole();
        thoseOfFewestBoats();
        theLowestSet();
        firstByHouses();
        noWayOrNoHouses();
        mostHousesAndBoats();
        milesNightsAndSides();
        fourTogetherAtMost();
        noNights();
        surelyEastOrWest();
        oneNight();
        toTheEndsAndNotBeyond();
        sixNights();
        driftByItsNumbersAlone();
        end();
    }
}
